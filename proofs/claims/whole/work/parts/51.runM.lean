/-! the reference parses -/
def mC (tc : Nat) (tk : Nat → Nat) (c : Cf) (μ0 μ : tp_S) : Prop := kf [4, 18, 19] [27, 28, 30] μ0 μ ∧ (∀ i, i ≤ tc → μ.1 4 i = nI (tq tc tk i)) ∧ μ.1 0 28 = nI (ca c) ∧ μ.1 0 30 = nI (ch' c) ∧ μ.1 0 27 = nI (cr c) ∧ (∀ i, i < ch' c → μ.1 19 i = nI (cp c i)) ∧ ∀ i, i < cr c → μ.1 18 i = nI (cs c i)
theorem mC_shf {tc : Nat} {tk : Nat → Nat} {c : Cf} {μ0 μ : tp_S} (h : mC tc tk c μ0 μ) (s : Nat) : mC tc tk (shf c s) μ0 (tp_si (tp_si (tp_si μ 19 (ch' c) (nI s)) 0 30 (nI (ch' c + 1))) 0 28 (nI (ca c + 1))) := by
  obtain ⟨h0, h1, h2, h3, h4, h5, h6⟩ := h
  refine ⟨kf_s0 (kf_s0 (kf_si h0 (by decide) (by decide)) (by decide)) (by decide), fun i hi => ?_, si_at, ?_, ?_, fun i hi => ?_, fun i hi => ?_⟩
  · rw [si_ne (by decide), si_ne (by decide), si_ne (by decide)]; exact h1 i hi
  · rw [si_nj (by decide), si_at]; rfl
  · rw [si_nj (by decide), si_nj (by decide), si_ne (by decide)]; exact h4
  · have hi' : i < ch' c + 1 := hi
    show _ = nI (fu (cp c) (ch' c) s i)
    rw [fu_i, si_ne (by decide), si_ne (by decide)]
    by_cases e : i = ch' c
    · subst e
      rw [si_at, if_pos rfl]
    · rw [si_nj e, if_neg e]
      exact h5 i (by omega)
  · rw [si_ne (by decide), si_ne (by decide), si_ne (by decide)]; exact h6 i hi
theorem mC_rdc {g : Gm} {tc : Nat} {tk : Nat → Nat} {c : Cf} {μ0 μ : tp_S} (h : mC tc tk c μ0 μ) {r : Nat} (t : Nat) : mC tc tk (rdc g c r t) μ0 (tp_si (tp_si (tp_si (tp_si (tp_si μ 18 (cr c) (nI r)) 0 27 (nI (cr c + 1))) 0 30 (nI (ch' c - gl g r))) 19 (ch' c - gl g r) (nI t)) 0 30 (nI (ch' c - gl g r + 1))) := by
  obtain ⟨h0, h1, h2, h3, h4, h5, h6⟩ := h
  refine ⟨kf_s0 (kf_si (kf_s0 (kf_s0 (kf_si h0 (by decide) (by decide)) (by decide)) (by decide)) (by decide) (by decide)) (by decide), fun i hi => ?_, ?_, si_at, ?_, fun i hi => ?_, fun i hi => ?_⟩
  · rw [si_ne (by decide), si_ne (by decide), si_ne (by decide), si_ne (by decide), si_ne (by decide)]; exact h1 i hi
  · rw [si_nj (by decide), si_ne (by decide), si_nj (by decide), si_nj (by decide), si_ne (by decide)]; exact h2
  · rw [si_nj (by decide), si_ne (by decide), si_nj (by decide), si_at]; rfl
  · have hi' : i < ch' c - gl g r + 1 := hi
    show _ = nI (fu (cp c) (ch' c - gl g r) t i)
    rw [fu_i, si_ne (by decide)]
    by_cases e : i = ch' c - gl g r
    · rw [e, si_at, if_pos rfl]
    · rw [si_nj e, si_ne (by decide), si_ne (by decide), si_ne (by decide), if_neg e]
      exact h5 i (by omega)
  · have hi' : i < cr c + 1 := hi
    show _ = nI (fu (cs c) (cr c) r i)
    rw [fu_i, si_ne (by decide), si_ne (by decide), si_ne (by decide), si_ne (by decide)]
    by_cases e : i = cr c
    · subst e
      rw [si_at, if_pos rfl]
    · rw [si_nj e, if_neg e]
      exact h6 i (by omega)
/-- what a row finds, or its default -/
theorem sp_Mfind {n : Nat} {V : Nat → Nat → Nat} (hB : vB n V) {μ : tp_S} (hP : pkM n (PF n V) μ) (hW : rwM' n V μ) {row k : Nat} (hr : rOk n row) (hk : k < 100) {K : Int32 → tp_S → Prop} (kk : K (nI (pm n V row k)) μ) : tp_W shM m_Mo_find 0 [some (.ref 0), some (.int (nI row)), some (.int (nI k)), none] [] μ (tp_Qi K) := by
  have hI := (PF_pJ hB.1 V).1
  have hl := pl_le hB.1 hI
  have hr8 := rOk_lt hB.1 hr
  have h13 := (hW row hr).1
  refine bk_Mo_find_0 _ _ ⟨vp_in_nI (by omega) (by decide), ?_⟩
  rw [nI_clamp (by omega), hP.2.2.1 row hr]
  unfold pm fnd at kk
  cases eb : pb (PF n V) row with
  | none =>
    rw [eb] at kk
    exact ⟨fun h => absurd h (by decide), fun _ => ⟨fun _ => sp_Mdval hr8 h13 kk, fun h => absurd (by decide) h⟩⟩
  | some b =>
    rw [eb] at kk
    have kk : K (nI (if (match po (PF n V) (b + k) with
      | none => 0
      | some (row', v) => if row' = row then v else 0) = 0 then dvl n V row else (match po (PF n V) (b + k) with
      | none => 0
      | some (row', v) => if row' = row then v else 0))) μ := kk
    have hbl := (hI.2.2.2.2 row b eb).1
    refine ⟨fun _ => ⟨vp_in_nI (by omega) (by decide), ?_⟩, fun h => absurd (nI_le (a := 0) (b := b) (by omega) (by omega)) h⟩
    show ((nI b + nI k) < 0 → _) ∧ (¬ (nI b + nI k) < 0 → vp_in (nI b + nI k) 6000 ∧ (¬ (μ.1 16 (nI b + nI k).toNatClampNeg) = nI row → _) ∧ ((μ.1 16 (nI b + nI k).toNatClampNeg) = nI row → vp_in (nI b + nI k) 6000 ∧ K (μ.1 17 (nI b + nI k).toNatClampNeg) μ))
    rw [nI_add]
    refine ⟨fun h => absurd h (nI_pos (by omega)), fun _ => ⟨vp_in_nI (by omega) (by decide), ?_⟩⟩
    rw [nI_clamp (by omega), hP.1 _ (by omega)]
    cases eo : po (PF n V) (b + k) with
    | none =>
      rw [eo] at kk
      exact ⟨fun _ => sp_Mdval hr8 h13 kk, fun h => absurd h.symm (nI_neg1 (by omega))⟩
    | some p =>
      obtain ⟨row', v⟩ := p
      rw [eo] at kk
      have kk' : K (nI (if (if row' = row then v else 0) = 0 then dvl n V row else (if row' = row then v else 0))) μ := kk
      obtain ⟨v1, v2, v3⟩ := pl_v hB hI eo
      refine ⟨fun h => ?_, fun h => ⟨vp_in_nI (by omega) (by decide), ?_⟩⟩
      · have hne : ¬ row' = row := fun z => h (by rw [z]; rfl)
        rw [if_neg hne, if_pos rfl] at kk'
        exact sp_Mdval hr8 h13 kk'
      · have heq : row' = row := nI_same (by omega) (by omega) h
        rw [if_pos heq, if_neg v3] at kk'
        rw [hP.2.1 _ row' v (by omega) eo]
        exact kk'
/-- what the reference reads -/
def eM (g : Gm) (B : Bs) (μ0 : tp_S) : Prop := (∃ op ok ol os, gM g op ok ol os μ0) ∧ tM g B μ0
theorem tM_kf {g : Gm} {B : Bs} {μ ν : tp_S} (hk : kf [4, 18, 19] [27, 28, 30] μ ν) (h : tM g B μ) : tM g B ν := tM_eq (hk.1 7 (by decide) (by decide)) (hk.1 9 (by decide) (by decide)) (hk.1 10 (by decide) (by decide)) (hk.1 12 (by decide) (by decide)) (hk.1 13 (by decide) (by decide)) (hk.1 14 (by decide) (by decide)) (hk.1 15 (by decide) (by decide)) (hk.1 16 (by decide) (by decide)) (hk.1 17 (by decide) (by decide)) (hk.2 16 (by decide)) (hk.2 19 (by decide)) (hk.2 25 (by decide)) h
/-- the table that is read: plain, or packed -/
noncomputable def mfx (g : Gm) (B : Bs) (w : Nat) : Nat → Nat → Nat := if w = 0 then VV g B else pm (bn B) (VV g B)
theorem mP_x {g : Gm} {B : Bs} (hB : Bk g B) (w : Nat) : mP g B (mfx g B w) := by
  unfold mfx
  split
  · exact mP_V hB
  · exact mP_pm hB
theorem sp_Mred {g : Gm} (hw : gW g) {B : Bs} (hB : Bk g B) {tc : Nat} {tk : Nat → Nat} {μ0 μ : tp_S} (hE : eM g B μ0) {c : Cf} (hS : mC tc tk c μ0 μ) {w : Nat} (hw2 : w < 2) {r t : Nat} (hr : r < gn g) (hgl : gl g r < ch' c) (hgk : gk g r < 8) (hl : bL B (cp c (ch' c - gl g r - 1)) (14 + gk g r) = some t) (hh : ch' c ≤ 2000) (hrd : cr c < 2000) {K : tp_S → Prop} (k : ∀ ν, mC tc tk (rdc g c r t) μ0 ν → K ν) : tp_W shM m_Mo_reduce 0 [some (.ref 0), some (.int (nI w)), some (.int (nI r)), none] [] μ (tp_Qv K) := by
  have hn := hB.n100
  have hV := VV_B hw hB
  have hS' := hS
  obtain ⟨h0, h1, h2, h3, h4, h5, h6⟩ := hS
  obtain ⟨op, ok, ol, os, hg⟩ := hE.1
  have hg' := gM_kf h0 (by decide) hg
  have hgn := hw.1
  have ht := Bk_100 hB _ _ _ hl
  have hq' := (hB.l _ _ _ hl).1
  obtain ⟨r1, r2, _⟩ := hg'.2.2.1 r hr
  refine bk_Mo_reduce_0 _ _ ?_
  rw [nI_clamp (by omega), r2, h3, h4, pk_sub (by omega), pk_sub (by omega), nI_clamp (by omega), nI_clamp (by omega), nI_add, h5 _ (by omega)]
  refine ⟨vp_in_nI (by omega) (by decide), vp_in_nI (by omega) (by decide), vp_in_nI (by omega) (by decide), ?_⟩
  have f1 : kf [4, 18, 19] [27, 28, 30] μ0 (tp_si (tp_si (tp_si μ 18 (cr c) (nI r)) 0 27 (nI (cr c + 1))) 0 30 (nI (ch' c - gl g r))) := kf_s0 (kf_s0 (kf_si h0 (by decide) (by decide)) (by decide)) (by decide)
  have e30 : (tp_si (tp_si (tp_si μ 18 (cr c) (nI r)) 0 27 (nI (cr c + 1))) 0 30 (nI (ch' c - gl g r))).1 0 30 = nI (ch' c - gl g r) := si_at
  have fin : K (tp_si (tp_si (tp_si (tp_si (tp_si μ 18 (cr c) (nI r)) 0 27 (nI (cr c + 1))) 0 30 (nI (ch' c - gl g r))) 19 (ch' c - gl g r) (nI t)) 0 30 (nI (ch' c - gl g r + 1))) := k _ (mC_rdc hS' t)
  have e1 : (tp_si (tp_si (tp_si μ 18 (cr c) (nI r)) 0 27 (nI (cr c + 1))) 0 30 (nI (ch' c - gl g r))).1 1 r = nI (gk g r) := by
    rw [si_ne (by decide), si_ne (by decide), si_ne (by decide)]; exact r1
  generalize tp_si (tp_si (tp_si μ 18 (cr c) (nI r)) 0 27 (nI (cr c + 1))) 0 30 (nI (ch' c - gl g r)) = μ1 at f1 e30 fin e1 ⊢
  have hM := tM_kf f1 hE.2
  have end' : tp_W shM m_Mo_reduce 95 [some (.ref 0), none, none, none] [.int (nI t), .int (nI (ch' c - gl g r)), .ref 19] μ1 (tp_Qv K) := by
    refine bk_Mo_reduce_95 _ _ ?_
    rw [e30, nI_clamp (by omega), nI_add]
    exact ⟨vp_in_nI (by omega) (by decide), fin⟩
  refine bk_Mo_reduce_47 _ _ _ ?_
  rw [nI_clamp (by omega), e1, e30]
  refine ⟨fun w1 => ⟨vp_in_nI (by omega) (by decide), ?_⟩, fun w0 => ⟨vp_in_nI (by omega) (by decide), ?_⟩⟩
  · rw [nI_add]
    refine sp_Mfind hV hM.2.2.2.2.2.2.2.2 hM.2.2.2.2.2.2.2.1 (Or.inr ⟨by omega, by omega⟩) (by omega) ?_
    rw [(pm_k hw hB hgk hl).2]
    exact end'
  · rw [pk_mul]
    simp only [nI_add]
    refine ⟨vp_in_nI (by omega) (by decide), ?_⟩
    rw [nI_clamp (by omega), Nat.add_assoc, hM.2.2.1 _ hq' (20 + gk g r) (by omega)]
    have e : ldv (bL B (cp c (ch' c - gl g r - 1))) (20 + gk g r) = nI t := by
      unfold ldv
      rw [if_neg (by omega), if_neg (by omega), show 20 + gk g r - 6 = 14 + gk g r by omega, hl]
      rfl
    rw [e]
    exact end'
theorem sp_Mrun {g : Gm} (hw : gW g) {B : Bs} (hB : Bk g B) {tc : Nat} {tk : Nat → Nat} (htc : tc ≤ 100) {μ0 : tp_S} (hE : eM g B μ0) (htk : ∀ i, i < tc → 1 ≤ tk i ∧ tk i < 14) {w : Nat} (hw2 : w < 2) {K : Int32 → tp_S → Prop} : ∀ (n s : Nat) (c : Cf) (μ : tp_S), s + n = 2000 → pOK B tc c → ch' c ≤ s + 1 → cr c ≤ s → mC tc tk c μ0 μ → (∀ ν, mC tc tk (rn g B (mfx g B w) tc tk n c).2 μ0 ν → K (nI (rn g B (mfx g B w) tc tk n c).1) ν) → tp_W shM m_Mo_parse 103 [some (.ref 0), some (.int (nI w)), none, some (.int (nI s)), none, none] [] μ (tp_Qi K) := by
  have hm := mP_x hB w
  have hn := hB.n100
  have hV := VV_B hw hB
  intro n
  -- the move
  have mv' : ∀ (s : Nat) (c : Cf) (μ : tp_S), s ≤ 2000 → pOK B tc c → ch' c ≤ s + 1 → mC tc tk c μ0 μ → (∀ v, v = nI (nmv (mfx g B w) tc tk c) → (¬ v = 0 →
        (¬ v = (nI 2000) →
          (¬ nI s = (nI 2000) →
            (v < (nI 3000) →
              vp_in (μ.1 0 30) 2102 ∧ tp_W shM m_Mo_parse 103 [some (.ref 0), some (.int (nI w)), none, some (.int (nI s + (nI 1))), none, none] [] (tp_si (tp_si (tp_si μ 19 (μ.1 0 30).toNatClampNeg (v - (nI 1000))) 0 30 ((μ.1 0 30) + (nI 1))) 0 28 ((μ.1 0 28) + (nI 1))) (tp_Qi K)) ∧
            (¬ v < (nI 3000) →
              tp_W shM m_Mo_reduce 0 [some (.ref 0), some (.int (nI w)), some (.int (v - (nI 3000))), none] [] μ (tp_Qv fun σ2 => tp_W shM m_Mo_parse 103 [some (.ref 0), some (.int (nI w)), none, some (.int (nI s + (nI 1))), none, none] [] σ2 (tp_Qi K)))) ∧
          (nI s = (nI 2000) →
            K (nI 2) μ)) ∧
        (v = (nI 2000) →
          K (nI 0) μ)) ∧
      (v = 0 →
        K (nI 1) μ)) → tp_W shM m_Mo_parse 103 [some (.ref 0), some (.int (nI w)), none, some (.int (nI s)), none, none] [] μ (tp_Qi K) := by
    intro s c μ hs hc hh hS tail
    obtain ⟨c1, c2, c3⟩ := hc
    have hM := tM_kf hS.1 hE.2
    have hq := c2.2.1 (ch' c - 1) (by omega)
    have htq := tq_lt htk (ca c)
    refine bk_Mo_parse_103 _ _ ?_
    have e19 := hS.2.2.2.2.2.1 (ch' c - 1) (by omega)
    have e4 := hS.2.1 (ca c) c3
    have e28 := hS.2.2.1
    have e30 := hS.2.2.2.1
    have p30 : (μ.1 0 30 - nI 1).toNatClampNeg = ch' c - 1 := by rw [e30, pk_sub c1]; exact nI_clamp (by omega)
    have p28 : (μ.1 0 28).toNatClampNeg = ca c := by rw [e28]; exact nI_clamp (by omega)
    have v28 : vp_in (μ.1 0 28) 101 := by rw [e28]; exact vp_in_nI (by omega) (by decide)
    rw [p30, p28, e19, e4]
    refine ⟨by rw [e30, pk_sub c1]; exact vp_in_nI (by omega) (by decide), fun w1 => ⟨v28, ?_⟩, fun w0 => ⟨v28, ?_⟩⟩
    · refine sp_Mfind hV hM.2.2.2.2.2.2.2.2 hM.2.2.2.2.2.2.2.1 (Or.inl hq) (by omega) ?_
      refine tail _ ?_
      have : ¬ w = 0 := fun z => w1 (by rw [z]; rfl)
      unfold nmv mfx
      rw [if_neg this]
    · have hz : w = 0 := (nI_z (by omega)).mp w0
      have e12 := hM.2.2.2.2.2.2.1.2.1 _ _ hq htq
      have p12 : (nI 14 * nI (cp c (ch' c - 1)) + nI (tq tc tk (ca c))).toNatClampNeg = 14 * cp c (ch' c - 1) + tq tc tk (ca c) := by
        rw [pk_mul, nI_add]; exact nI_clamp (by omega)
      rw [p12, e12]
      refine ⟨by rw [pk_mul, nI_add]; exact vp_in_nI (by omega) (by decide), tail _ ?_⟩
      unfold nmv mfx
      rw [if_pos hz]
  induction n with
  | zero =>
    intro s c μ hs hc hh hr hS k
    have hml := nmv_lt hw hB hm htk hc
    refine mv' s c μ (by omega) hc hh hS (fun v hv => ?_)
    subst hv
    refine ⟨fun m0 => ⟨fun m2 => ⟨fun h => absurd (by rw [show s = 2000 by omega]) h, fun _ => ?_⟩, fun m2 => ?_⟩, fun m0 => ?_⟩
    · have m2' : ¬ nmv (mfx g B w) tc tk c = 2000 := fun z => m2 (by rw [z])
      have m0' : ¬ nmv (mfx g B w) tc tk c = 0 := fun z => m0 (by rw [z]; rfl)
      rw [rn_out m2' m0'] at k
      exact k μ hS
    · have m2' : nmv (mfx g B w) tc tk c = 2000 := nI_same (by omega) (by omega) m2
      rw [rn_acc m2'] at k
      exact k μ hS
    · have m0' : nmv (mfx g B w) tc tk c = 0 := (nI_z (by omega)).mp m0
      rw [rn_err m0'] at k
      exact k μ hS
  | succ n ih =>
    intro s c μ hs hc hh hr hS k
    have hml := nmv_lt hw hB hm htk hc
    refine mv' s c μ (by omega) hc hh hS (fun v hv => ?_)
    subst hv
    refine ⟨fun m0 => ⟨fun m2 => ⟨fun _ => ?_, fun h => ?_⟩, fun m2 => ?_⟩, fun m0 => ?_⟩
    · have m2' : ¬ nmv (mfx g B w) tc tk c = 2000 := fun z => m2 (by rw [z])
      have m0' : ¬ nmv (mfx g B w) tc tk c = 0 := fun z => m0 (by rw [z]; rfl)
      rw [rn_go m2' m0'] at k
      rw [hS.2.2.2.1, hS.2.2.1]
      simp only [nI_add]
      rcases stp_cases hw hB hm htk hc m0' m2' with ⟨x, hx, e, hat, en', hok⟩ | ⟨r, t, hrr, e, hgl, hg6, hgk, hq', hl, ht, en', hok⟩
      · rw [en'] at k
        rw [e]
        refine ⟨fun _ => ⟨vp_in_nI (by omega) (by decide), ?_⟩, fun h => absurd (nI_lt (by omega) (by omega)) h⟩
        rw [pk_sub (by omega), show 1000 + x - 1000 = x by omega, nI_clamp (by omega)]
        exact ih (s + 1) (shf c x) _ (by omega) hok (by show ch' c + 1 ≤ s + 1 + 1; omega) (by show cr c ≤ s + 1; omega) (mC_shf hS x) k
      · rw [en'] at k
        rw [e]
        refine ⟨fun h => absurd ((nI_ltI (by omega) (by omega)).mp h) (by omega), fun _ => ?_⟩
        rw [pk_sub (by omega), show 3000 + r - 3000 = r by omega]
        refine sp_Mred hw hB hE hS hw2 hrr hgl hgk hl (by omega) (by omega) (fun ν hν => ?_)
        exact ih (s + 1) (rdc g c r t) ν (by omega) hok (by show ch' c - gl g r + 1 ≤ s + 1 + 1; omega) (by show cr c + 1 ≤ s + 1; omega) hν k
    · have := nI_same (by omega) (by omega) h
      omega
    · have m2' : nmv (mfx g B w) tc tk c = 2000 := nI_same (by omega) (by omega) m2
      rw [rn_acc m2'] at k
      exact k μ hS
    · have m0' : nmv (mfx g B w) tc tk c = 0 := (nI_z (by omega)).mp m0
      rw [rn_err m0'] at k
      exact k μ hS
