/-! the tables of a grammar, on both sides -/
noncomputable def VV (g : Gm) (B : Bs) (row k : Nat) : Nat := if row < 100 then act g B row (gn g) k else (match bL B k (row - 86) with
  | some t => t
  | none => 0)
theorem Bk_100 {g : Gm} {B : Bs} (hB : Bk g B) : ∀ q c t, bL B q c = some t → t < 100 := fun q c t h => by
  have := (hB.l q c t h).2.1
  have := hB.n100
  omega
theorem VV_B {g : Gm} {B : Bs} (hw : gW g) (hB : Bk g B) : vB (bn B) (VV g B) := by
  refine ⟨hB.n100, fun q t hq => ?_, fun row k hr => ?_⟩
  · unfold VV
    rw [if_pos hq]
    exact act_lt (Bk_100 hB) hw.1
  · unfold VV
    rw [if_neg (by omega)]
    cases e : bL B k (row - 86) with
    | none => exact (by decide : 0 < 100)
    | some t => exact Bk_100 hB _ _ _ e
theorem VV_k {g : Gm} {B : Bs} {kd k : Nat} : VV g B (100 + kd) k = (match bL B k (14 + kd) with
  | some t => t
  | none => 0) := by
  unfold VV
  rw [if_neg (by omega), show 100 + kd - 86 = 14 + kd by omega]
theorem VV_lo {g : Gm} (hw : gW g) {B : Bs} (hB : Bk g B) {kd k : Nat} : lo (VV g B (100 + kd) k) = lv (bL B k (14 + kd)) := by
  rw [VV_k]
  unfold lo
  cases e : bL B k (14 + kd) with
  | none => rfl
  | some t =>
    show (if t = 0 then -1 else nI t) = nI t
    rw [if_neg (Bk_l0 hw hB e)]
theorem VV_C {g : Gm} (hw : gW g) {B : Bs} (hB : Bk g B) {σ : tp_S} (h : plC g B σ) : (∀ q t, q < bn B → t < 14 → σ.1 9 (22 * q + t) = nI (VV g B q t)) ∧ ∀ q kd, q < bn B → kd < 8 → σ.1 9 (22 * q + (14 + kd)) = if VV g B (100 + kd) q = 0 then nI 0 else nI (1000 + VV g B (100 + kd) q) := by
  have h100 := hB.n100
  refine ⟨fun q t hq ht => ?_, fun q kd hq hk => ?_⟩
  · unfold VV
    rw [if_pos (by omega)]
    exact h.1 q t hq ht
  · rw [h.2.1 q (14 + kd) hq (by omega) (by omega), VV_k]
    cases e : bL B q (14 + kd) with
    | none => rfl
    | some t =>
      show nI (1000 + t) = if t = 0 then nI 0 else nI (1000 + t)
      rw [if_neg (Bk_l0 hw hB e)]
theorem VV_M {g : Gm} (hw : gW g) {B : Bs} (hB : Bk g B) {μ : tp_S} (h16 : μ.1 0 16 = nI (bn B)) (h : plM g B μ) (hl : ∀ q, q < bn B → ∀ s, s < 28 → μ.1 10 (28 * q + s) = ldv (bL B q) s) : vM (bn B) (VV g B) μ := by
  have h100 := hB.n100
  refine ⟨h16, fun q t hq ht => ?_, fun q kd hq hk => ?_⟩
  · unfold VV
    rw [if_pos (by omega)]
    exact h.1 q t hq ht
  · rw [hl q hq (20 + kd) (by omega), VV_lo hw hB]
    unfold ldv
    rw [if_neg (by omega), if_neg (by omega), show 20 + kd - 6 = 14 + kd by omega]
def tC (g : Gm) (B : Bs) (σ : tp_S) : Prop := σ.1 10 6 = nI (bn B) ∧ (∀ q, q < bn B → ∀ i, bS B q i ↔ (i < 192 ∧ ib σ 11 q i)) ∧ (∀ q i t, aS σ q i t ↔ lA g B q i t) ∧ plC g B σ ∧ vC (bn B) (VV g B) σ ∧ rwI (bn B) (VV g B) σ ∧ pkC (PF (bn B) (VV g B)) σ ∧ σ.1 18 7 = nI (sm (ct (bn B) (VV g B)) 108)
def tM (g : Gm) (B : Bs) (μ : tp_S) : Prop := μ.1 0 16 = nI (bn B) ∧ (∀ q, q < bn B → hsM μ 7 q (bS B q)) ∧ (∀ q, q < bn B → ∀ s, s < 28 → μ.1 10 (28 * q + s) = ldv (bL B q) s) ∧ b14 (bn B) μ ∧ (∀ q i t, aM (bn B) μ q i t ↔ lA g B q i t) ∧ plM g B μ ∧ vM (bn B) (VV g B) μ ∧ rwM' (bn B) (VV g B) μ ∧ pkM (bn B) (PF (bn B) (VV g B)) μ
def TC (g : Gm) (σ : tp_S) : Prop := oOK g σ ∧ σ.1 10 7 = bI (bb (bfs g 2200)) ∧ (bb (bfs g 2200) = false → tC g (bfs g 2200) σ)
def TM (g : Gm) (μ : tp_S) : Prop := mOK g μ ∧ μ.1 0 9 = bI (bb (bfs g 2200)) ∧ (bb (bfs g 2200) = false → tM g (bfs g 2200) μ)
theorem tC_eq {g : Gm} {B : Bs} {σ τ : tp_S} (e8 : τ.1 8 = σ.1 8) (e9 : τ.1 9 = σ.1 9) (e10 : τ.1 10 = σ.1 10) (e18 : τ.1 18 = σ.1 18) (e19 : τ.1 19 = σ.1 19) (e20 : τ.1 20 = σ.1 20) (e21 : τ.1 21 = σ.1 21) (e22 : τ.1 22 = σ.1 22) (l11 : τ.2 11 = σ.2 11) (l16 : τ.2 16 = σ.2 16) (h : tC g B σ) : tC g B τ := by
  unfold tC plC vC rwI pkC at h ⊢
  have ha : ∀ q i t, aS τ q i t ↔ aS σ q i t := fun q i t => by unfold aS; rw [l16]
  have hi : ∀ c row i, c = 11 → (ib τ c row i ↔ ib σ c row i) := fun c row i hc => by subst hc; unfold ib; rw [l11]
  rw [e8, e9, e10, e18, e19, e20, e21, e22]
  refine ⟨h.1, fun q hq i => ?_, fun q i t => ?_, h.2.2.2⟩
  · rw [hi 11 q i rfl]; exact h.2.1 q hq i
  · rw [ha]; exact h.2.2.1 q i t
theorem FrC_TC : FrC TC := by
  intro g σ τ hf h
  obtain ⟨f1, f2⟩ := hf
  have e : ∀ a, a ∈ [6, 7, 8, 9, 10, 16, 18, 19, 20, 21, 22] → τ.1 a = σ.1 a := f1
  refine ⟨?_, by rw [e 10 (by decide)]; exact h.2.1, fun hb => tC_eq (e 8 (by decide)) (e 9 (by decide)) (e 10 (by decide)) (e 18 (by decide)) (e 19 (by decide)) (e 20 (by decide)) (e 21 (by decide)) (e 22 (by decide)) (f2 11 (by decide)) (f2 16 (by decide)) (h.2.2 hb)⟩
  have := h.1
  unfold oOK oS at this ⊢
  rw [e 6 (by decide)]; exact this
theorem tM_eq {g : Gm} {B : Bs} {μ ν : tp_S} (e7 : ν.1 7 = μ.1 7) (e9 : ν.1 9 = μ.1 9) (e10 : ν.1 10 = μ.1 10) (e12 : ν.1 12 = μ.1 12) (e13 : ν.1 13 = μ.1 13) (e14 : ν.1 14 = μ.1 14) (e15 : ν.1 15 = μ.1 15) (e16 : ν.1 16 = μ.1 16) (e17 : ν.1 17 = μ.1 17) (j16 : ν.1 0 16 = μ.1 0 16) (j19 : ν.1 0 19 = μ.1 0 19) (j25 : ν.1 0 25 = μ.1 0 25) (h : tM g B μ) : tM g B ν := by
  unfold tM hsM b14 aM plM vM rwM' pkM at h ⊢
  rw [e7, e9, e10, e12, e13, e14, e15, e16, e17, j16, j19, j25]
  exact h
theorem FrM_TM : FrM TM := by
  intro g μ ν hf h
  obtain ⟨f1, f2⟩ := hf
  exact ⟨mOK_eq (f1 5 (by decide)) (f1 6 (by decide)) h.1, (f2 9 (by decide)).trans h.2.1, fun hb => tM_eq (f1 7 (by decide)) (f1 9 (by decide)) (f1 10 (by decide)) (f1 12 (by decide)) (f1 13 (by decide)) (f1 14 (by decide)) (f1 15 (by decide)) (f1 16 (by decide)) (f1 17 (by decide)) (f2 16 (by decide)) (f2 19 (by decide)) (f2 25 (by decide)) (h.2.2 hb)⟩
/-- the relation, its grammar and tokens told -/
def RG (g : Gm) (op : Bool) (ok ol : Nat) (os : Nat → Nat) (tc : Nat) (tk : Nat → Nat) (σ μ : tp_S) : Prop := gW g ∧ (op = true → gn g < 24 ∧ ruW ok ol os) ∧ gC g op ok ol os σ ∧ gM g op ok ol os μ ∧ tkR tc tk σ μ ∧ paR σ μ ∧ (σ.1 0 7 = 0 ∨ σ.1 0 7 = 1) ∧ (σ.1 0 7 = 0 → TC g σ) ∧ (μ.1 0 8 = 0 ∨ μ.1 0 8 = 1) ∧ (μ.1 0 8 = 1 → TM g μ)
theorem RG_Rel {g : Gm} {op : Bool} {ok ol : Nat} {os : Nat → Nat} {tc : Nat} {tk : Nat → Nat} {σ μ : tp_S} (h : RG g op ok ol os tc tk σ μ) : Rel TC TM σ μ := ⟨g, op, ok, ol, os, tc, tk, h⟩
theorem RG_thrown {g : Gm} {op : Bool} {ok ol : Nat} {os : Nat → Nat} {tc : Nat} {tk : Nat → Nat} {σ μ : tp_S} {x : Int32} (h : RG g op ok ol os tc tk σ μ) : RG g op ok ol os tc tk σ (tp_si μ 0 0 x) := by
  obtain ⟨h1, h2, h3, h4, h5, h6, h7, h8, h9, h10⟩ := h
  have e0 : ∀ j, j ≠ 0 → (tp_si μ 0 0 x).1 0 j = μ.1 0 j := fun j hj => si_nj hj
  have e1 : ∀ a, a ≠ 0 → (tp_si μ 0 0 x).1 a = μ.1 a := fun a ha => si_nc ha
  refine ⟨h1, h2, h3, gM_eq (e0 4 (by decide)) (e0 5 (by decide)) (e1 1 (by decide)) (e1 2 (by decide)) (e1 3 (by decide)) h4, ?_, ?_, h7, h8, ?_, ?_⟩
  · obtain ⟨a1, a2, a3, a4⟩ := h5
    exact ⟨a1, a2, (e0 7 (by decide)).trans a3, fun i hi => by rw [e1 4 (by decide)]; exact a4 i hi⟩
  · obtain ⟨a1, a2, rd, a3, a4, a5, a6⟩ := h6
    exact ⟨a1.trans (e0 28 (by decide)).symm, a2.trans (e0 30 (by decide)).symm, rd, a3, a4, (e0 27 (by decide)).trans a5, fun k hk => by rw [e1 18 (by decide)]; exact a6 k hk⟩
  · rw [e0 8 (by decide)]; exact h9
  · rw [e0 8 (by decide)]
    intro hk
    exact FrM_TM g μ _ (fM_s0 (fM_rf μ) (by decide)) (h10 hk)
abbrev csR : List Nat := [0, 6, 7, 8, 9, 10, 11, 12, 13, 14, 16, 17, 18, 19, 20, 21, 22, 23]
theorem RG_cls {g : Gm} {op : Bool} {ok ol : Nat} {os : Nat → Nat} {tc : Nat} {tk : Nat → Nat} {σ τ μ : tp_S} (h : RG g op ok ol os tc tk σ μ) (hk : ke csR σ τ) (h7' : τ.1 0 7 = 0) (hT : TC g τ) : RG g op ok ol os tc tk τ μ := by
  obtain ⟨h1, h2, h3, h4, h5, h6, h7, h8, h9, h10⟩ := h
  refine ⟨h1, h2, gC_ke hk (by decide) h3, h4, ?_, ?_, Or.inl h7', fun _ => hT, h9, h10⟩
  · unfold tkR at h5 ⊢
    rw [hk.1 24 (by decide), hk.1 25 (by decide)]; exact h5
  · unfold paR at h6 ⊢
    rw [hk.1 24 (by decide), hk.1 27 (by decide)]; exact h6
abbrev csK : List Nat := [5, 6, 7, 8, 9, 10, 11, 12, 13, 14, 15, 16, 17]
abbrev jsK : List Nat := [8, 9, 16, 19, 25, 31]
theorem RG_ref {g : Gm} {op : Bool} {ok ol : Nat} {os : Nat → Nat} {tc : Nat} {tk : Nat → Nat} {σ μ ν : tp_S} (h : RG g op ok ol os tc tk σ μ) (hk : kf csK jsK μ ν) (h8' : ν.1 0 8 = 1) (hT : TM g ν) : RG g op ok ol os tc tk σ ν := by
  obtain ⟨h1, h2, h3, h4, h5, h6, h7, h8, h9, h10⟩ := h
  refine ⟨h1, h2, h3, gM_kf hk (by decide) h4, ?_, ?_, h7, h8, Or.inr h8', fun _ => hT⟩
  · unfold tkR at h5 ⊢
    rw [hk.2 7 (by decide), hk.1 4 (by decide) (by decide)]; exact h5
  · unfold paR at h6 ⊢
    rw [hk.2 28 (by decide), hk.2 30 (by decide), hk.2 27 (by decide), hk.1 18 (by decide) (by decide)]; exact h6
theorem sp_refreshG {g : Gm} {op : Bool} {ok ol : Nat} {os : Nat → Nat} {tc : Nat} {tk : Nat → Nat} {σ μ : tp_S} (hG : RG g op ok ol os tc tk σ μ) {K : tp_S → Prop} (k : ∀ τ, RG g op ok ol os tc tk τ μ → TC g τ → K τ) : tp_W shC m_Tp_refresh 0 [some (.ref 0)] [] σ (tp_Qv K) := by
  have hG' : RG g op ok ol os tc tk σ μ := hG
  obtain ⟨hw, h2, h3, h4, h5, h6, h7, h8, h9, h10⟩ := hG
  refine bk_Tp_refresh_0 ⟨fun hst => ⟨bo_0, ?_⟩, fun h0 => k σ hG' (h8 h0)⟩
  have k0 : ke [0] σ (tp_si σ 0 7 (nI 0)) := ke_si (ke_rf _ _) (by decide)
  have e7 : (tp_si σ 0 7 (nI 0)).1 0 7 = 0 := si_at
  generalize tp_si σ 0 7 (nI 0) = σ0 at k0 e7 ⊢
  have g0 := gC_ke k0 (by decide) h3
  refine sp_Ofind hw g0 (fun σ1 k1 ho hr => ?_)
  have g1 := gC_ke k1 (by decide) g0
  refine sp_Sfind hw g1 (fun σ2 k2 hs h81 => ?_)
  have g2 := gC_ke k2 (by decide) g1
  have k02 : ke csR σ σ2 := ke_tr (ke_sub k0 (by decide)) (ke_tr (ke_sub k1 (by decide)) (ke_sub k2 (by decide)))
  have k02' : ke [6, 7, 8, 9, 10, 11, 12, 13, 14] σ0 σ2 := ke_tr (ke_sub k1 (by decide)) (ke_sub k2 (by decide))
  have ho2 : oOK g σ2 := by
    unfold oOK oS at ho ⊢
    rw [k2.1 6 (by decide)]; exact ho
  have hr2 : ∀ r p, (r < gn g ∨ r = 24) → p < rl g r → rOK g σ2 r p := fun r p a b => by
    have := hr r p a b
    unfold rOK at this ⊢
    rw [k2.1 7 (by decide)]; exact this
  have e72 : σ2.1 0 7 = 0 := by rw [k02'.1 0 (by decide)]; exact e7
  refine bk_St_tooLarge_0 ?_
  rw [hs.2.1]
  refine ⟨bI_o _, fun hb => ?_, fun hb => ?_⟩
  · rw [bI_0] at hb
    have hB := Bk_of hw hb
    generalize hBe : bfs g 2200 = B at hs hb hB
    have hld : ldC B σ2 := fun q c hq hc => hs.2.2.2 q c hq hc
    refine sp_Lfind hw hB ⟨g2, hr2, hs.1, hs.2.2.1, hld⟩ (fun σ3 k3 hA => ?_)
    have g3 := gC_ke k3 (by decide) g2
    refine sp_addReds hw hB g3 (by rw [k3.1 10 (by decide)]; exact hs.1) (fun q hq i => by rw [ib_ke k3 (by decide)]; exact hs.2.2.1 q hq i) (fun q c hq hc => by rw [k3.1 9 (by decide)]; exact hld q c hq hc) hA (by rw [k3.1 8 (by decide)]; exact h81) (fun σ4 k4 hpl => ?_)
    refine bk_St_size_0 ?_
    have e106 : σ4.1 10 6 = nI (bn B) := by rw [k4.1 10 (by decide), k3.1 10 (by decide)]; exact hs.1
    rw [e106]
    refine sp_pack (VV_B hw hB) (VV_C hw hB hpl) (fun σ5 k5 hv hrw hpk h187 => ?_)
    have k25 : ke [8, 9, 16, 17, 18, 19, 20, 21, 22, 23] σ2 σ5 := ke_tr (ke_sub k3 (by decide)) (ke_tr (ke_sub k4 (by decide)) (ke_sub k5 (by decide)))
    have k45 : ke [8, 9, 18, 19, 20, 21, 22, 23] σ3 σ5 := ke_tr (ke_sub k4 (by decide)) (ke_sub k5 (by decide))
    have hT : TC g σ5 := by
      refine ⟨?_, ?_, fun _ => ?_⟩
      · unfold oOK oS at ho2 ⊢
        rw [k25.1 6 (by decide)]; exact ho2
      · rw [k25.1 10 (by decide), hs.2.1, hBe]
      · rw [hBe]
        refine ⟨by rw [k25.1 10 (by decide)]; exact hs.1, fun q hq i => by rw [ib_ke k25 (by decide)]; exact hs.2.2.1 q hq i, fun q i t => ?_, ?_, hv, hrw, hpk, h187⟩
        · rw [← hA q i t]
          unfold aS
          rw [k45.2 16 (by decide)]
        · unfold plC at hpl ⊢
          rw [k5.1 9 (by decide), k5.1 8 (by decide)]; exact hpl
    have e75 : σ5.1 0 7 = 0 := by rw [k25.1 0 (by decide)]; exact e72
    exact k σ5 (RG_cls hG' (ke_tr k02 (ke_sub k25 (by decide))) e75 hT) hT
  · have hbt : bb (bfs g 2200) = true := by
      rw [bI_0] at hb
      simpa using hb
    have hT : TC g σ2 := ⟨ho2, hs.2.1, fun h => by rw [hbt] at h; cases h⟩
    exact k σ2 (RG_cls hG' k02 e72 hT) hT
theorem sp_refresh {σ μ : tp_S} (hR : Rel TC TM σ μ) {K : tp_S → Prop} (k : ∀ g op ok ol os tc tk τ, RG g op ok ol os tc tk τ μ → TC g τ → K τ) : tp_W shC m_Tp_refresh 0 [some (.ref 0)] [] σ (tp_Qv K) := by
  obtain ⟨g, op, ok, ol, os, tc, tk, hG⟩ := hR
  exact sp_refreshG hG (fun τ a b => k g op ok ol os tc tk τ a b)
theorem sp_know {g : Gm} {op : Bool} {ok ol : Nat} {os : Nat → Nat} {tc : Nat} {tk : Nat → Nat} {σ μ : tp_S} (hG : RG g op ok ol os tc tk σ μ) {K : Int32 → tp_S → Prop} (k : ∀ ν, RG g op ok ol os tc tk σ ν → TM g ν → K (bI (!bb (bfs g 2200))) ν) : tp_W shM m_Mo_know 0 [some (.ref 0)] [] μ (tp_Qi K) := by
  have hG' := hG
  obtain ⟨hw, h2, h3, h4, h5, h6, h7, h8, h9, h10⟩ := hG
  -- the answer
  have ans : ∀ ν, RG g op ok ol os tc tk σ ν → TM g ν → (¬ ν.1 0 9 = 0 → (nI 0 = 0 ∨ nI 0 = 1) ∧ K (nI 0) ν) ∧ (ν.1 0 9 = 0 → (nI 1 = 0 ∨ nI 1 = 1) ∧ K (nI 1) ν) := by
    intro ν hn hT
    have hk := k ν hn hT
    rw [hT.2.1]
    refine ⟨fun hb => ⟨bo_0, ?_⟩, fun hb => ⟨bo_1, ?_⟩⟩
    · rw [bI_0] at hb
      have hbt : bb (bfs g 2200) = true := by simpa using hb
      rw [hbt] at hk; exact hk
    · rw [bI_0] at hb
      rw [hb] at hk; exact hk
  refine bk_Mo_know_0 ⟨fun hkn => ans μ hG' (h10 (h9.resolve_left hkn)), fun h0 => ⟨bo_1, ?_⟩⟩
  have f0 : kf csK jsK μ (tp_si μ 0 8 (nI 1)) := kf_s0 (kf_rf _ _ _) (by decide)
  have e8 : (tp_si μ 0 8 (nI 1)).1 0 8 = 1 := si_at
  generalize tp_si μ 0 8 (nI 1) = μ0 at f0 e8 ⊢
  refine sp_findFirsts hw (gM_kf f0 (by decide) h4) (fun μ1 k1 ho => ?_)
  have f1 : kf csK jsK μ μ1 := kf_tr f0 (kf_ke k1 (by decide) (by decide))
  have e81 : μ1.1 0 8 = 1 := by rw [k1.1 0 (by decide)]; exact e8
  refine sp_makeStates hw (gM_kf f1 (by decide) h4) (fun μ2 k2 hs => ?_)
  have f2 : kf csK jsK μ μ2 := kf_tr f1 (kf_sub k2 (by decide) (by decide))
  have e82 : μ2.1 0 8 = 1 := by rw [k2.2 8 (by decide)]; exact e81
  have ho2 : mOK g μ2 := mOK_eq (k2.1 5 (by decide) (by decide)) (k2.1 6 (by decide) (by decide)) ho
  refine ⟨fun hb => ?_, fun hb => ?_⟩
  · have hbt : bb (bfs g 2200) = true := by
      rw [hs.1, bI_0] at hb
      simpa using hb
    have hT : TM g μ2 := ⟨ho2, hs.1, fun h => by rw [hbt] at h; cases h⟩
    exact ans μ2 (RG_ref hG' f2 e82 hT) hT
  · rw [hs.1, bI_0] at hb
    have hB := Bk_of hw hb
    generalize hBe : bfs g 2200 = B at hs hb hB
    obtain ⟨s16, hst⟩ := hs.2 hb
    have hR2 : maR g op ok ol os B μ2 := ⟨gM_kf f2 (by decide) h4, ho2, s16, fun q hq => (hst q hq).1, fun q hq => (hst q hq).2.2.2⟩
    refine sp_findAhead hw hB hR2 (fun q hq => (hst q hq).2.2.1) (fun μ3 k3 hb3 hA => ?_)
    have hR3 := maR_kf k3 (by decide) hR2
    refine sp_findActions hw hB hR3 hA (fun μ4 k4 hpl => ?_)
    have hR4 := maR_kf k4 (by decide) hR3
    refine sp_Mpack (VV_B hw hB) (VV_M hw hB hR4.2.2.1 hpl hR4.2.2.2.2) (fun μ5 k5 hrw hpk => ?_)
    have hR5 := maR_kf k5 (by decide) hR4
    have f5 : kf csK jsK μ μ5 := kf_tr f2 (kf_tr (kf_sub k3 (by decide) (by decide)) (kf_tr (kf_sub k4 (by decide) (by decide)) (kf_sub k5 (by decide) (by decide))))
    have e85 : μ5.1 0 8 = 1 := by rw [k5.2 8 (by decide), k4.2 8 (by decide), k3.2 8 (by decide)]; exact e82
    have e95 : μ5.1 0 9 = bI (bb B) := by rw [k5.2 9 (by decide), k4.2 9 (by decide), k3.2 9 (by decide)]; exact hs.1
    have k35 : kf [12, 13, 14, 15, 16, 17] [19, 25] μ3 μ5 := kf_tr (kf_sub k4 (by decide) (by decide)) (kf_sub k5 (by decide) (by decide))
    have hT : TM g μ5 := by
      refine ⟨hR5.2.1, by rw [hBe]; exact e95, fun _ => ?_⟩
      rw [hBe]
      refine ⟨hR5.2.2.1, hR5.2.2.2.1, hR5.2.2.2.2, ?_, fun q i t => ?_, ?_, vM_kf k5 (by decide) (VV_M hw hB hR4.2.2.1 hpl hR4.2.2.2.2), hrw, hpk⟩
      · unfold b14 at hb3 ⊢
        rw [k35.1 9 (by decide) (by decide)]; exact hb3
      · rw [← hA q i t]
        unfold aM
        rw [k35.1 9 (by decide) (by decide)]
      · unfold plM at hpl ⊢
        rw [k5.1 12 (by decide) (by decide), k5.2 19 (by decide)]; exact hpl
    exact ans μ5 (RG_ref hG' f5 e85 hT) hT
