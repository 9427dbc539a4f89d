/-! the class parses -/
theorem rn_acc {g : Gm} {B : Bs} {mf : Nat → Nat → Nat} {tc : Nat} {tk : Nat → Nat} {n : Nat} {c : Cf} (h : nmv mf tc tk c = 2000) : rn g B mf tc tk n c = (0, c) := by
  cases n <;> (unfold rn; rw [if_pos h])
theorem rn_err {g : Gm} {B : Bs} {mf : Nat → Nat → Nat} {tc : Nat} {tk : Nat → Nat} {n : Nat} {c : Cf} (h : nmv mf tc tk c = 0) : rn g B mf tc tk n c = (1, c) := by
  cases n <;> (unfold rn; rw [if_neg (by omega), if_pos h])
theorem rn_out {g : Gm} {B : Bs} {mf : Nat → Nat → Nat} {tc : Nat} {tk : Nat → Nat} {c : Cf} (h2 : ¬ nmv mf tc tk c = 2000) (h0 : ¬ nmv mf tc tk c = 0) : rn g B mf tc tk 0 c = (2, c) := by
  unfold rn; rw [if_neg h2, if_neg h0]
theorem rn_go {g : Gm} {B : Bs} {mf : Nat → Nat → Nat} {tc : Nat} {tk : Nat → Nat} {n : Nat} {c : Cf} (h2 : ¬ nmv mf tc tk c = 2000) (h0 : ¬ nmv mf tc tk c = 0) : rn g B mf tc tk (n + 1) c = rn g B mf tc tk n (nxc g B (nmv mf tc tk c) c) := by
  rw [rn, if_neg h2, if_neg h0]
theorem nmv_lt {g : Gm} (hw : gW g) {B : Bs} (hB : Bk g B) {mf : Nat → Nat → Nat} (hm : mP g B mf) {tc : Nat} {tk : Nat → Nat} (htk : ∀ i, i < tc → 1 ≤ tk i ∧ tk i < 14) {c : Cf} (hc : pOK B tc c) : nmv mf tc tk c < 4000 := by
  have hq := hc.2.1.2.1 (ch' c - 1) (by have := hc.1; omega)
  have hgn := hw.1
  unfold nmv
  rcases hm _ _ hq (tq_lt htk (ca c)) with h | h | ⟨s, e1, e2⟩ | ⟨r, e1, e2, e3⟩
  · omega
  · omega
  · have := Bk_100 hB _ _ _ e1
    omega
  · omega
def cS (tc : Nat) (c : Cf) (σ0 σ : tp_S) : Prop := ke [24, 26, 27] σ0 σ ∧ σ.1 24 4 = nI tc ∧ σ.1 24 5 = nI (ca c) ∧ σ.1 24 6 = nI (ch' c) ∧ σ.1 24 7 = nI (cr c) ∧ (∀ i, i < ch' c → σ.1 26 i = nI (cp c i)) ∧ ∀ i, i < cr c → σ.1 27 i = nI (cs c i)
theorem fu_i (f : Nat → Nat) (k v i : Nat) : nI (fu f k v i) = if i = k then nI v else nI (f i) := by
  unfold fu
  split <;> rfl
theorem cS_shf {tc : Nat} {c : Cf} {σ0 σ : tp_S} (h : cS tc c σ0 σ) (s : Nat) : cS tc (shf c s) σ0 (tp_si (tp_si (tp_si σ 24 5 (nI (ca c + 1))) 26 (ch' c) (nI s)) 24 6 (nI (ch' c + 1))) := by
  obtain ⟨h0, h1, h2, h3, h4, h5, h6⟩ := h
  refine ⟨ke_si (ke_si (ke_si h0 (by decide)) (by decide)) (by decide), ?_, ?_, si_at, ?_, fun i hi => ?_, fun i hi => ?_⟩
  · rw [si_nj (by decide), si_ne (by decide), si_nj (by decide)]; exact h1
  · rw [si_nj (by decide), si_ne (by decide), si_at]; rfl
  · rw [si_nj (by decide), si_ne (by decide), si_nj (by decide)]; exact h4
  · have hi' : i < ch' c + 1 := hi
    show _ = nI (fu (cp c) (ch' c) s i)
    rw [fu_i, si_ne (by decide)]
    by_cases e : i = ch' c
    · subst e
      rw [si_at, if_pos rfl]
    · rw [si_nj e, si_ne (by decide), if_neg e]
      exact h5 i (by omega)
  · rw [si_ne (by decide), si_ne (by decide), si_ne (by decide)]; exact h6 i hi
theorem cS_rdc {g : Gm} {tc : Nat} {c : Cf} {σ0 σ : tp_S} (h : cS tc c σ0 σ) {r : Nat} (t : Nat) : cS tc (rdc g c r t) σ0 (tp_si (tp_si (tp_si (tp_si (tp_si σ 27 (cr c) (nI r)) 24 7 (nI (cr c + 1))) 24 6 (nI (ch' c - gl g r))) 26 (ch' c - gl g r) (nI t)) 24 6 (nI (ch' c - gl g r + 1))) := by
  obtain ⟨h0, h1, h2, h3, h4, h5, h6⟩ := h
  refine ⟨ke_si (ke_si (ke_si (ke_si (ke_si h0 (by decide)) (by decide)) (by decide)) (by decide)) (by decide), ?_, ?_, si_at, ?_, fun i hi => ?_, fun i hi => ?_⟩
  · rw [si_nj (by decide), si_ne (by decide), si_nj (by decide), si_nj (by decide), si_ne (by decide)]; exact h1
  · rw [si_nj (by decide), si_ne (by decide), si_nj (by decide), si_nj (by decide), si_ne (by decide)]; exact h2
  · rw [si_nj (by decide), si_ne (by decide), si_nj (by decide), si_at]; rfl
  · have hi' : i < ch' c - gl g r + 1 := hi
    show _ = nI (fu (cp c) (ch' c - gl g r) t i)
    rw [fu_i, si_ne (by decide)]
    by_cases e : i = ch' c - gl g r
    · rw [e, si_at, if_pos rfl]
    · rw [si_nj e, si_ne (by decide), si_ne (by decide), si_ne (by decide), if_neg e]
      exact h5 i (by omega)
  · have hi' : i < cr c + 1 := hi
    show _ = nI (fu (cs c) (cr c) r i)
    rw [fu_i, si_ne (by decide), si_ne (by decide), si_ne (by decide), si_ne (by decide)]
    by_cases e : i = cr c
    · subst e
      rw [si_at, if_pos rfl]
    · rw [si_nj e, if_neg e]
      exact h6 i (by omega)
/-- what the parser reads -/
def eC (g : Gm) (B : Bs) (tc : Nat) (tk : Nat → Nat) (σ0 : tp_S) : Prop := (∃ op ok ol os, gC g op ok ol os σ0) ∧ tC g B σ0 ∧ tc ≤ 100 ∧ ∀ i, i < tc → σ0.1 25 i = nI (tk i)
theorem sp_next {g : Gm} {B : Bs} {tc : Nat} {tk : Nat → Nat} {σ0 σ : tp_S} (hE : eC g B tc tk σ0) {c : Cf} (hS : cS tc c σ0 σ) (ha : ca c ≤ tc) {K : Int32 → tp_S → Prop} (k : K (nI (tq tc tk (ca c))) σ) : tp_W shC m_Ps_nextToken 0 [some (.ref 24)] [] σ (tp_Qi K) := by
  obtain ⟨h0, h1, h2, h3, h4, h5, h6⟩ := hS
  have htc := hE.2.2.1
  refine bk_Ps_nextToken_0 ?_
  rw [h1, h2]
  unfold tq at k
  refine ⟨fun h => ?_, fun h => ⟨vp_in_nI (by have : ¬ tc ≤ ca c := fun w => h (nI_le w (by omega)); omega) (by decide), ?_⟩⟩
  · have := (nI_leI (by omega) (by omega)).mp h
    rw [if_neg (by omega)] at k
    exact k
  · have : ¬ tc ≤ ca c := fun w => h (nI_le w (by omega))
    rw [if_pos (by omega)] at k
    rw [nI_clamp (by omega), h0.1 25 (by decide), hE.2.2.2 _ (by omega)]
    exact k
theorem sp_mv_8 {g : Gm} (hw : gW g) {B : Bs} (hB : Bk g B) {tc : Nat} {tk : Nat → Nat} {σ0 σ : tp_S} (hE : eC g B tc tk σ0) {c : Cf} (hS : cS tc c σ0 σ) {q t : Nat} (hq : q < bn B) (ht : t < 14) {K : Int32 → tp_S → Prop} (k : K (nI (VV g B q t)) σ) : tp_W shC m_Pl_moveOn 0 [some (.ref 8), some (.int (nI q)), some (.int (nI t))] [] σ (tp_Qi K) := sp_moveV (VV_B hw hB) (vC_ke hS.1 (by decide) (by decide) hE.2.1.2.2.2.2.1) hq ht k
theorem pkC_ke {P : Pt} {σ τ : tp_S} {cs : List Nat} (hk : ke cs σ τ) (h18 : 18 ∉ cs ∧ 21 ∉ cs ∧ 22 ∉ cs) (h : pkC P σ) : pkC P τ := by
  unfold pkC at h ⊢
  rw [hk.1 18 h18.1, hk.1 21 h18.2.1, hk.1 22 h18.2.2]; exact h
theorem sp_mv_18 {g : Gm} (hw : gW g) {B : Bs} (hB : Bk g B) {tc : Nat} {tk : Nat → Nat} {σ0 σ : tp_S} (hE : eC g B tc tk σ0) {c : Cf} (hS : cS tc c σ0 σ) {q t : Nat} (hq : q < bn B) (ht : t < 14) {K : Int32 → tp_S → Prop} (k : K (nI (pm (bn B) (VV g B) q t)) σ) : tp_W shC m_Pk_moveOn 0 [some (.ref 18), some (.int (nI q)), some (.int (nI t)), none] [] σ (tp_Qi K) := by
  have hn := hB.n100
  have hV := VV_B hw hB
  have hwd : wd (bn B) q = 14 := by
    unfold wd
    rw [if_pos (by omega), if_pos hq]
  have hf : fnd (bn B) (VV g B) q t ≤ 3023 := by
    rw [fnd_en hn (by omega) (by omega)]
    exact en_lt hV _ _
  have h19 : σ.1 19 q = lv (dfl (bn B) (VV g B) q) := by
    rw [hS.1.1 19 (by decide)]
    exact (hE.2.1.2.2.2.2.2.1 q (by omega)).1
  refine bk_Pk_moveOn_0 _ _ (sp_lookUp hV (pkC_ke hS.1 (by decide) hE.2.1.2.2.2.2.2.2.1) (by omega) (by omega) ?_)
  unfold pm at k
  unfold lo
  by_cases h0 : fnd (bn B) (VV g B) q t = 0
  · rw [if_pos h0] at k ⊢
    refine ⟨fun _ => bk_Pk_moveByDefault_0 _ ⟨vp_in_nI (by omega) (by decide), ?_⟩, fun h => absurd rfl h⟩
    rw [nI_clamp (by omega), h19]
    unfold dvl at k
    cases ed : dfl (bn B) (VV g B) q with
    | none =>
      rw [ed] at k
      exact ⟨fun h => absurd rfl h, fun _ => k⟩
    | some v =>
      rw [ed] at k
      have := dfl_lt ed
      refine ⟨fun _ => ⟨vp_in_nI (by omega) (by decide), ?_⟩, fun h => absurd h (nI_neg1 (by omega))⟩
      have k' : K (nI (if q < 100 then 3000 + v else v)) σ := k
      rw [if_pos (by omega)] at k'
      show K (nI 3000 + nI v) σ
      rw [nI_add]
      exact k'
  · rw [if_neg h0] at k ⊢
    exact ⟨fun h => absurd h (nI_neg1 (by omega)), fun _ => k⟩
theorem sp_ld_8 {g : Gm} (hw : gW g) {B : Bs} (hB : Bk g B) {tc : Nat} {tk : Nat → Nat} {σ0 σ : tp_S} (hE : eC g B tc tk σ0) {c : Cf} (hS : cS tc c σ0 σ) {q kd t : Nat} (hk : kd < 8) (hl : bL B q (14 + kd) = some t) {K : Int32 → tp_S → Prop} (k : K (nI t) σ) : tp_W shC m_Pl_leadOf 0 [some (.ref 8), some (.int (nI q)), some (.int (nI kd))] [] σ (tp_Qi K) := by
  refine bk_Pl_leadOf_0 _ _ ?_
  rw [nI_add]
  refine sp_leadV (VV_B hw hB) (vC_ke hS.1 (by decide) (by decide) hE.2.1.2.2.2.2.1) (hB.l _ _ _ hl).1 hk ?_
  rw [(pm_k hw hB hk hl).1]
  unfold lo
  rw [if_neg (Bk_l0 hw hB hl)]
  exact k
theorem sp_ld_18 {g : Gm} (hw : gW g) {B : Bs} (hB : Bk g B) {tc : Nat} {tk : Nat → Nat} {σ0 σ : tp_S} (hE : eC g B tc tk σ0) {c : Cf} (hS : cS tc c σ0 σ) {q kd t : Nat} (hk : kd < 8) (hl : bL B q (14 + kd) = some t) {K : Int32 → tp_S → Prop} (k : K (nI t) σ) : tp_W shC m_Pk_leadOf 0 [some (.ref 18), some (.int (nI q)), some (.int (nI kd)), none] [] σ (tp_Qi K) := by
  have hn := hB.n100
  have hV := VV_B hw hB
  have hq := (hB.l _ _ _ hl).1
  have ht := Bk_100 hB _ _ _ hl
  have e := (pm_k hw hB hk hl).2
  have h19 : σ.1 19 (100 + kd) = lv (dfl (bn B) (VV g B) (100 + kd)) := by
    rw [hS.1.1 19 (by decide)]
    exact (hE.2.1.2.2.2.2.2.1 (100 + kd) (by omega)).1
  refine bk_Pk_leadOf_0 _ _ ?_
  rw [nI_add]
  refine sp_lookUp hV (pkC_ke hS.1 (by decide) hE.2.1.2.2.2.2.2.2.1) (by omega) (by omega) ?_
  unfold pm at e
  unfold lo
  by_cases h0 : fnd (bn B) (VV g B) (100 + kd) q = 0
  · rw [if_pos h0] at e ⊢
    refine ⟨fun _ => ⟨vp_in_nI (by omega) (by decide), ?_⟩, fun h => absurd rfl h⟩
    rw [nI_clamp (by omega), h19]
    unfold dvl at e
    cases ed : dfl (bn B) (VV g B) (100 + kd) with
    | none =>
      rw [ed] at e
      have e' : 0 = t := e
      exact absurd e'.symm (Bk_l0 hw hB hl)
    | some v =>
      rw [ed] at e
      have e' : (if 100 + kd < 100 then 3000 + v else v) = t := e
      rw [if_neg (by omega)] at e'
      rw [e']
      exact k
  · rw [if_neg h0] at e ⊢
    rw [e]
    exact ⟨fun h => absurd h (nI_neg1 (by omega)), fun _ => k⟩
theorem sp_red_8 {g : Gm} (hw : gW g) {B : Bs} (hB : Bk g B) {tc : Nat} {tk : Nat → Nat} {σ0 σ : tp_S} (hE : eC g B tc tk σ0) {c : Cf} (hS : cS tc c σ0 σ) {r t : Nat} (hr : r < gn g) (hgl : gl g r < ch' c) (hgk : gk g r < 8) (hl : bL B (cp c (ch' c - gl g r - 1)) (14 + gk g r) = some t) (hh : ch' c ≤ 2000) (hrd : cr c < 2000) {K : Int32 → tp_S → Prop} (k : ∀ τ, cS tc (rdc g c r t) σ0 τ → K (nI 1) τ) : tp_W shC m_Ps_reduce 0 [some (.ref 24), some (.int (nI r)), some (.ref 8), none, none] [] σ (tp_Qi K) := by
  have hS' := hS
  obtain ⟨h0, h1, h2, h3, h4, h5, h6⟩ := hS
  obtain ⟨op, ok, ol, os, hg⟩ := hE.1
  have hg' := gC_ke h0 (by decide) hg
  have hgn := hw.1
  have ht := Bk_100 hB _ _ _ hl
  obtain ⟨r1, r2, _⟩ := hg'.2.2.1 r hr
  refine bk_Ps_reduce_8_0 _ (bk_Gr_lengthOf_0 _ ⟨vp_in_nI (by omega) (by decide), ?_⟩)
  rw [nI_clamp (by omega), r2, h3, pk_sub (by omega)]
  refine ⟨fun _ => ?_, fun h => absurd (nI_le (by omega) (by omega)) h⟩
  rw [pk_sub (by omega)]
  refine ⟨vp_in_nI (by omega) (by decide), bk_Gr_kindOf_0 _ ⟨vp_in_nI (by omega) (by decide), ?_⟩⟩
  rw [nI_clamp (by omega), nI_clamp (by omega), r1, h5 _ (by omega)]
  refine sp_ld_8 hw hB hE hS' hgk hl ⟨fun _ => ?_, fun h => absurd h (nI_neg1 (by omega))⟩
  rw [h4]
  refine ⟨vp_in_nI (by omega) (by decide), bk_Ps_putOn_0 _ ?_⟩
  rw [nI_clamp (by omega), nI_add, si_at, nI_clamp (by omega), nI_add]
  exact ⟨vp_in_nI (by omega) (by decide), bo_1, k _ (cS_rdc hS' t)⟩
theorem sp_run_8 {g : Gm} (hw : gW g) {B : Bs} (hB : Bk g B) {tc : Nat} {tk : Nat → Nat} {σ0 : tp_S} (hE : eC g B tc tk σ0) (htk : ∀ i, i < tc → 1 ≤ tk i ∧ tk i < 14) {K : Int32 → tp_S → Prop} : ∀ (n s : Nat) (c : Cf) (σ : tp_S), s + n = 2000 → pOK B tc c → ch' c ≤ s + 1 → cr c ≤ s → cS tc c σ0 σ → (∀ τ, cS tc (rn g B (VV g B) tc tk n c).2 σ0 τ → K (nI (rn g B (VV g B) tc tk n c).1) τ) → tp_W shC m_Ps_run 24 [some (.ref 24), some (.ref 8), some (.int (nI s)), none] [] σ (tp_Qi K) := by
  have hm : mP g B (VV g B) := mP_V hB
  have htc := hE.2.2.1
  intro n
  induction n with
  | zero =>
    intro s c σ hs hc hh hr hS k
    obtain ⟨c1, c2, c3⟩ := hc
    have hml := nmv_lt hw hB hm htk ⟨c1, c2, c3⟩
    refine bk_Ps_run_8_24 _ ⟨fun h => absurd ((nI_ltI (by omega) (by omega)).mp h) (by omega), fun _ => ?_⟩
    rw [hS.2.2.2.1, pk_sub c1]
    refine ⟨vp_in_nI (by omega) (by decide), sp_next hE hS c3 ?_⟩
    rw [nI_clamp (by omega), hS.2.2.2.2.2.1 _ (by omega)]
    refine sp_mv_8 hw hB hE hS (c2.2.1 _ (by omega)) (tq_lt htk _) ?_
    show (¬ nI (nmv (VV g B) tc tk c) = nI 2000 → _) ∧ (nI (nmv (VV g B) tc tk c) = nI 2000 → _)
    refine ⟨fun m2 => ⟨fun m0 => ⟨fun _ => ?_, fun h => absurd (nI_le (by omega) (by omega)) h⟩, fun m0 => ?_⟩, fun m2 => ?_⟩
    · have m2' : ¬ nmv (VV g B) tc tk c = 2000 := fun z => m2 (by rw [z])
      have m0' : ¬ nmv (VV g B) tc tk c = 0 := fun z => m0 (by show nI (nmv (VV g B) tc tk c) = 0; rw [z]; rfl)
      rw [rn_out m2' m0'] at k
      simp only [nI_add]
      exact bk_Ps_run_8_24 _ ⟨fun _ => k σ hS, fun h => absurd (nI_lt (by omega) (by omega)) h⟩
    · have m0' : nmv (VV g B) tc tk c = 0 := (nI_z (by omega)).mp m0
      rw [rn_err m0'] at k
      exact k σ hS
    · have m2' : nmv (VV g B) tc tk c = 2000 := nI_same (by omega) (by omega) m2
      rw [rn_acc m2'] at k
      exact k σ hS
  | succ n ih =>
    intro s c σ hs hc hh hr hS k
    have hc' := hc
    obtain ⟨c1, c2, c3⟩ := hc
    have hml := nmv_lt hw hB hm htk ⟨c1, c2, c3⟩
    refine bk_Ps_run_8_24 _ ⟨fun h => absurd ((nI_ltI (by omega) (by omega)).mp h) (by omega), fun _ => ?_⟩
    rw [hS.2.2.2.1, pk_sub c1]
    refine ⟨vp_in_nI (by omega) (by decide), sp_next hE hS c3 ?_⟩
    rw [nI_clamp (by omega), hS.2.2.2.2.2.1 _ (by omega)]
    refine sp_mv_8 hw hB hE hS (c2.2.1 _ (by omega)) (tq_lt htk _) ?_
    show (¬ nI (nmv (VV g B) tc tk c) = nI 2000 → (¬ nI (nmv (VV g B) tc tk c) = 0 → (nI 2000 ≤ nI s → _) ∧ (¬ nI 2000 ≤ nI s → tp_W shC m_Ps_go 0 [some (.ref 24), some (.int (nI (nmv (VV g B) tc tk c))), some (.ref 8)] [] σ _)) ∧ _) ∧ (nI (nmv (VV g B) tc tk c) = nI 2000 → _)
    refine ⟨fun m2 => ⟨fun m0 => ⟨fun h => absurd h (nI_ge (by omega) (by omega)), fun _ => ?_⟩, fun m0 => ?_⟩, fun m2 => ?_⟩
    · have m2' : ¬ nmv (VV g B) tc tk c = 2000 := fun z => m2 (by rw [z])
      have m0' : ¬ nmv (VV g B) tc tk c = 0 := fun z => m0 (by rw [z]; rfl)
      rw [rn_go m2' m0'] at k
      rcases stp_cases hw hB hm htk hc' m0' m2' with ⟨x, hx, e, hat, en', hok⟩ | ⟨r, t, hrr, e, hgl, hg6, hgk, hq', hl, ht, en', hok⟩
      · rw [en'] at k
        rw [e]
        refine bk_Ps_go_8_0 _ ⟨fun _ => ?_, fun h => absurd (nI_lt (by omega) (by omega)) h⟩
        rw [hS.2.2.1, nI_add, pk_sub (by omega), show 1000 + x - 1000 = x by omega]
        refine bk_Ps_putOn_0 _ ?_
        rw [si_nj (by decide), hS.2.2.2.1, nI_clamp (by omega), nI_add]
        refine ⟨vp_in_nI (by omega) (by decide), bo_1, fun _ => ?_, fun h => absurd h n1_0⟩
        rw [nI_add]
        exact ih (s + 1) (shf c x) _ (by omega) hok (by show ch' c + 1 ≤ s + 1 + 1; omega) (by show cr c ≤ s + 1; omega) (cS_shf hS x) k
      · rw [en'] at k
        rw [e]
        refine bk_Ps_go_8_0 _ ⟨fun h => absurd ((nI_ltI (by omega) (by omega)).mp h) (by omega), fun _ => ?_⟩
        rw [pk_sub (by omega), show 3000 + r - 3000 = r by omega]
        refine sp_red_8 hw hB hE hS hrr hgl hgk hl (by omega) (by omega) (fun τ hτ => ⟨bo_1, fun _ => ?_, fun h => absurd h n1_0⟩)
        rw [nI_add]
        exact ih (s + 1) (rdc g c r t) τ (by omega) hok (by show ch' c - gl g r + 1 ≤ s + 1 + 1; omega) (by show cr c + 1 ≤ s + 1; omega) hτ k
    · have m0' : nmv (VV g B) tc tk c = 0 := (nI_z (by omega)).mp m0
      rw [rn_err m0'] at k
      exact k σ hS
    · have m2' : nmv (VV g B) tc tk c = 2000 := nI_same (by omega) (by omega) m2
      rw [rn_acc m2'] at k
      exact k σ hS
theorem sp_red_18 {g : Gm} (hw : gW g) {B : Bs} (hB : Bk g B) {tc : Nat} {tk : Nat → Nat} {σ0 σ : tp_S} (hE : eC g B tc tk σ0) {c : Cf} (hS : cS tc c σ0 σ) {r t : Nat} (hr : r < gn g) (hgl : gl g r < ch' c) (hgk : gk g r < 8) (hl : bL B (cp c (ch' c - gl g r - 1)) (14 + gk g r) = some t) (hh : ch' c ≤ 2000) (hrd : cr c < 2000) {K : Int32 → tp_S → Prop} (k : ∀ τ, cS tc (rdc g c r t) σ0 τ → K (nI 1) τ) : tp_W shC m_Ps_reduce 0 [some (.ref 24), some (.int (nI r)), some (.ref 18), none, none] [] σ (tp_Qi K) := by
  have hS' := hS
  obtain ⟨h0, h1, h2, h3, h4, h5, h6⟩ := hS
  obtain ⟨op, ok, ol, os, hg⟩ := hE.1
  have hg' := gC_ke h0 (by decide) hg
  have hgn := hw.1
  have ht := Bk_100 hB _ _ _ hl
  obtain ⟨r1, r2, _⟩ := hg'.2.2.1 r hr
  refine bk_Ps_reduce_18_0 _ (bk_Gr_lengthOf_0 _ ⟨vp_in_nI (by omega) (by decide), ?_⟩)
  rw [nI_clamp (by omega), r2, h3, pk_sub (by omega)]
  refine ⟨fun _ => ?_, fun h => absurd (nI_le (by omega) (by omega)) h⟩
  rw [pk_sub (by omega)]
  refine ⟨vp_in_nI (by omega) (by decide), bk_Gr_kindOf_0 _ ⟨vp_in_nI (by omega) (by decide), ?_⟩⟩
  rw [nI_clamp (by omega), nI_clamp (by omega), r1, h5 _ (by omega)]
  refine sp_ld_18 hw hB hE hS' hgk hl ⟨fun _ => ?_, fun h => absurd h (nI_neg1 (by omega))⟩
  rw [h4]
  refine ⟨vp_in_nI (by omega) (by decide), bk_Ps_putOn_0 _ ?_⟩
  rw [nI_clamp (by omega), nI_add, si_at, nI_clamp (by omega), nI_add]
  exact ⟨vp_in_nI (by omega) (by decide), bo_1, k _ (cS_rdc hS' t)⟩
theorem sp_run_18 {g : Gm} (hw : gW g) {B : Bs} (hB : Bk g B) {tc : Nat} {tk : Nat → Nat} {σ0 : tp_S} (hE : eC g B tc tk σ0) (htk : ∀ i, i < tc → 1 ≤ tk i ∧ tk i < 14) {K : Int32 → tp_S → Prop} : ∀ (n s : Nat) (c : Cf) (σ : tp_S), s + n = 2000 → pOK B tc c → ch' c ≤ s + 1 → cr c ≤ s → cS tc c σ0 σ → (∀ τ, cS tc (rn g B (pm (bn B) (VV g B)) tc tk n c).2 σ0 τ → K (nI (rn g B (pm (bn B) (VV g B)) tc tk n c).1) τ) → tp_W shC m_Ps_run 24 [some (.ref 24), some (.ref 18), some (.int (nI s)), none] [] σ (tp_Qi K) := by
  have hm : mP g B (pm (bn B) (VV g B)) := mP_pm hB
  have htc := hE.2.2.1
  intro n
  induction n with
  | zero =>
    intro s c σ hs hc hh hr hS k
    obtain ⟨c1, c2, c3⟩ := hc
    have hml := nmv_lt hw hB hm htk ⟨c1, c2, c3⟩
    refine bk_Ps_run_18_24 _ ⟨fun h => absurd ((nI_ltI (by omega) (by omega)).mp h) (by omega), fun _ => ?_⟩
    rw [hS.2.2.2.1, pk_sub c1]
    refine ⟨vp_in_nI (by omega) (by decide), sp_next hE hS c3 ?_⟩
    rw [nI_clamp (by omega), hS.2.2.2.2.2.1 _ (by omega)]
    refine sp_mv_18 hw hB hE hS (c2.2.1 _ (by omega)) (tq_lt htk _) ?_
    show (¬ nI (nmv (pm (bn B) (VV g B)) tc tk c) = nI 2000 → _) ∧ (nI (nmv (pm (bn B) (VV g B)) tc tk c) = nI 2000 → _)
    refine ⟨fun m2 => ⟨fun m0 => ⟨fun _ => ?_, fun h => absurd (nI_le (by omega) (by omega)) h⟩, fun m0 => ?_⟩, fun m2 => ?_⟩
    · have m2' : ¬ nmv (pm (bn B) (VV g B)) tc tk c = 2000 := fun z => m2 (by rw [z])
      have m0' : ¬ nmv (pm (bn B) (VV g B)) tc tk c = 0 := fun z => m0 (by show nI (nmv (pm (bn B) (VV g B)) tc tk c) = 0; rw [z]; rfl)
      rw [rn_out m2' m0'] at k
      simp only [nI_add]
      exact bk_Ps_run_18_24 _ ⟨fun _ => k σ hS, fun h => absurd (nI_lt (by omega) (by omega)) h⟩
    · have m0' : nmv (pm (bn B) (VV g B)) tc tk c = 0 := (nI_z (by omega)).mp m0
      rw [rn_err m0'] at k
      exact k σ hS
    · have m2' : nmv (pm (bn B) (VV g B)) tc tk c = 2000 := nI_same (by omega) (by omega) m2
      rw [rn_acc m2'] at k
      exact k σ hS
  | succ n ih =>
    intro s c σ hs hc hh hr hS k
    have hc' := hc
    obtain ⟨c1, c2, c3⟩ := hc
    have hml := nmv_lt hw hB hm htk ⟨c1, c2, c3⟩
    refine bk_Ps_run_18_24 _ ⟨fun h => absurd ((nI_ltI (by omega) (by omega)).mp h) (by omega), fun _ => ?_⟩
    rw [hS.2.2.2.1, pk_sub c1]
    refine ⟨vp_in_nI (by omega) (by decide), sp_next hE hS c3 ?_⟩
    rw [nI_clamp (by omega), hS.2.2.2.2.2.1 _ (by omega)]
    refine sp_mv_18 hw hB hE hS (c2.2.1 _ (by omega)) (tq_lt htk _) ?_
    show (¬ nI (nmv (pm (bn B) (VV g B)) tc tk c) = nI 2000 → (¬ nI (nmv (pm (bn B) (VV g B)) tc tk c) = 0 → (nI 2000 ≤ nI s → _) ∧ (¬ nI 2000 ≤ nI s → tp_W shC m_Ps_go 0 [some (.ref 24), some (.int (nI (nmv (pm (bn B) (VV g B)) tc tk c))), some (.ref 18)] [] σ _)) ∧ _) ∧ (nI (nmv (pm (bn B) (VV g B)) tc tk c) = nI 2000 → _)
    refine ⟨fun m2 => ⟨fun m0 => ⟨fun h => absurd h (nI_ge (by omega) (by omega)), fun _ => ?_⟩, fun m0 => ?_⟩, fun m2 => ?_⟩
    · have m2' : ¬ nmv (pm (bn B) (VV g B)) tc tk c = 2000 := fun z => m2 (by rw [z])
      have m0' : ¬ nmv (pm (bn B) (VV g B)) tc tk c = 0 := fun z => m0 (by rw [z]; rfl)
      rw [rn_go m2' m0'] at k
      rcases stp_cases hw hB hm htk hc' m0' m2' with ⟨x, hx, e, hat, en', hok⟩ | ⟨r, t, hrr, e, hgl, hg6, hgk, hq', hl, ht, en', hok⟩
      · rw [en'] at k
        rw [e]
        refine bk_Ps_go_18_0 _ ⟨fun _ => ?_, fun h => absurd (nI_lt (by omega) (by omega)) h⟩
        rw [hS.2.2.1, nI_add, pk_sub (by omega), show 1000 + x - 1000 = x by omega]
        refine bk_Ps_putOn_0 _ ?_
        rw [si_nj (by decide), hS.2.2.2.1, nI_clamp (by omega), nI_add]
        refine ⟨vp_in_nI (by omega) (by decide), bo_1, fun _ => ?_, fun h => absurd h n1_0⟩
        rw [nI_add]
        exact ih (s + 1) (shf c x) _ (by omega) hok (by show ch' c + 1 ≤ s + 1 + 1; omega) (by show cr c ≤ s + 1; omega) (cS_shf hS x) k
      · rw [en'] at k
        rw [e]
        refine bk_Ps_go_18_0 _ ⟨fun h => absurd ((nI_ltI (by omega) (by omega)).mp h) (by omega), fun _ => ?_⟩
        rw [pk_sub (by omega), show 3000 + r - 3000 = r by omega]
        refine sp_red_18 hw hB hE hS hrr hgl hgk hl (by omega) (by omega) (fun τ hτ => ⟨bo_1, fun _ => ?_, fun h => absurd h n1_0⟩)
        rw [nI_add]
        exact ih (s + 1) (rdc g c r t) τ (by omega) hok (by show ch' c - gl g r + 1 ≤ s + 1 + 1; omega) (by show cr c + 1 ≤ s + 1; omega) hτ k
    · have m0' : nmv (pm (bn B) (VV g B)) tc tk c = 0 := (nI_z (by omega)).mp m0
      rw [rn_err m0'] at k
      exact k σ hS
    · have m2' : nmv (pm (bn B) (VV g B)) tc tk c = 2000 := nI_same (by omega) (by omega) m2
      rw [rn_acc m2'] at k
      exact k σ hS
