theorem sp_columnOf {σ : tp_S} {K : Int32 → tp_S → Prop} {x : Int32} (h1 : ∀ j, j < 14 → x = nI j → K (nI j) σ) (h2 : ∀ j, j < 8 → x = nI (20 + j) → K (nI (14 + j)) σ) (h3 : (∀ j, j < 14 → x ≠ nI j) → (∀ j, j < 8 → x ≠ nI (20 + j)) → K (-1) σ) : tp_W shC m_Tp_columnOf 0 [some (.int x)] [] σ (tp_Qi K) := by
  refine bk_Tp_columnOf_0 x (sp_isToken (fun hx => ⟨fun _ => ?_, fun h => absurd rfl h⟩) (fun j hj e => ⟨fun h => absurd h n1_0, fun _ => ?_⟩))
  · by_cases h0 : x < 0
    · have hn : ∀ j, j < 8 → x ≠ nI (20 + j) := fun j hj e => by rw [e] at h0; exact nI_pos (by omega) h0
      refine ⟨fun _ => h3 hx hn, fun h => ?_⟩
      exfalso
      refine h ?_
      rw [Int32.lt_iff_toInt_lt] at h0 ⊢
      rw [nI_toInt (by decide)]
      have e0 : (0 : Int32).toInt = 0 := by decide
      omega
    · obtain ⟨j, hj, rfl⟩ := nI_of h0
      refine ⟨fun h => ?_, fun h => ⟨fun h' => ?_, fun h' => ?_⟩⟩
      · have := (nI_ltI hj (by decide)).mp h
        exact h3 hx (fun i hi e => by have := (nI_eq hj (by omega)).mp e; omega)
      · have a1 : ¬ j < 20 := fun z => h ((nI_ltI hj (by decide)).mpr z)
        have a2 := (nI_ltI hj (by decide)).mp h'
        rw [nI_add, pk_sub (by omega)]
        have := h2 (j - 20) (by omega) (by rw [show 20 + (j - 20) = j by omega])
        rwa [show 14 + (j - 20) = 14 + j - 20 by omega] at this
      · have a2 : ¬ j < 28 := fun z => h' ((nI_ltI hj (by decide)).mpr z)
        exact h3 hx (fun i hi e => by have := (nI_eq hj (by omega)).mp e; omega)
  · rw [e]; exact h1 j hj e
/-- the reference's own test of a symbol -/
theorem sp_Mput {μ : tp_S} {K : Int32 → tp_S → Prop} {x : Int32} (h1 : ∀ j, 1 ≤ j → (j < 14 ∨ (20 ≤ j ∧ j < 28)) → x = nI j → tp_W shM m_Mo_put 34 [some (.ref 0), some (.int x), some (.int (nI 1))] [] (tp_si μ 0 0 (nI 0)) (tp_Qi K)) (h2 : (∀ j, 1 ≤ j → (j < 14 ∨ (20 ≤ j ∧ j < 28)) → x ≠ nI j) → tp_W shM m_Mo_put 34 [some (.ref 0), some (.int x), some (.int (nI 0))] [] (tp_si μ 0 0 (nI 0)) (tp_Qi K)) : tp_W shM m_Mo_put 0 [some (.ref 0), some (.int x), none] [] μ (tp_Qi K) := by
  by_cases h0 : x < 0
  · have hn : ∀ j, 1 ≤ j → (j < 14 ∨ (20 ≤ j ∧ j < 28)) → x ≠ nI j := fun j _ hj e => by rw [e] at h0; exact nI_pos (by omega) h0
    have lt : ∀ n, n < 2 ^ 31 → x < nI n := by
      intro n hn
      rw [Int32.lt_iff_toInt_lt] at h0 ⊢
      rw [nI_toInt hn]
      have e0 : (0 : Int32).toInt = 0 := by decide
      omega
    exact bk_Mo_put_0 x ⟨fun _ => ⟨fun _ => h2 hn, fun h => absurd (lt 20 (by decide)) h⟩, fun h => absurd (lt 1 (by decide)) h⟩
  · obtain ⟨j, hj, rfl⟩ := nI_of h0
    have iff : ∀ n, n < 2 ^ 31 → (nI j < nI n ↔ j < n) := fun n hn => nI_ltI hj hn
    have ile : ∀ n, n < 2 ^ 31 → (nI n ≤ nI j ↔ n ≤ j) := fun n hn => nI_leI hn hj
    have no : (¬ (1 ≤ j ∧ (j < 14 ∨ (20 ≤ j ∧ j < 28)))) → tp_W shM m_Mo_put 34 [some (.ref 0), some (.int (nI j)), some (.int (nI 0))] [] (tp_si μ 0 0 (nI 0)) (tp_Qi K) := fun z => h2 (fun i hi1 hi2 e => by
      have := (nI_eq hj (by omega)).mp e
      subst this
      exact z ⟨hi1, hi2⟩)
    refine bk_Mo_put_0 _ ⟨fun a => ?_, fun a => ?_⟩ <;> rw [iff 1 (by decide)] at a
    · refine ⟨fun _ => no (by omega), fun b => ?_⟩
      rw [iff 20 (by decide)] at b
      omega
    · refine ⟨fun b => ?_, fun b => ?_⟩ <;> rw [iff 14 (by decide)] at b
      · exact h1 j (by omega) (Or.inl b) rfl
      · refine ⟨fun c => ?_, fun c => ?_⟩ <;> rw [iff 20 (by decide)] at c
        · exact no (by omega)
        · refine ⟨fun d => ?_, fun d => ?_⟩ <;> rw [ile 28 (by decide)] at d
          · exact no (by omega)
          · exact h1 j (by omega) (Or.inr ⟨by omega, by omega⟩) rfl
section PUT
variable {TC TM : Gm → tp_S → Prop}
theorem ca_put (hTC : FrC TC) (hTM : FrM TM) : lw_case (Rel TC TM) m_Tp_put m_Mo_put 1 := by
  intro σ μ vs hvs hR
  obtain ⟨x, rfl⟩ := ls_one hvs
  have r1 := Rel_thrown (x := nI 0) hTM hR
  obtain ⟨g, op, ok, ol, os, tc, tk, h1, h2, h3, h4, h5, h6, h7, h8, h9, h10⟩ := hR
  have hn24 := h1.1
  -- a symbol that is none
  have bad : (∀ j, 1 ≤ j → (j < 14 ∨ (20 ≤ j ∧ j < 28)) → x ≠ nI j) → tp_W shM m_Mo_put 0 [some (.ref 0), some (.int x), none] [] μ (tp_Qi fun r' μ' => (-1 : Int32) = r' ∧ Rel TC TM σ μ') := by
    intro hx
    refine sp_Mput (fun j a b e => absurd e (hx j a b)) (fun _ => bk_Mo_put_34 _ _ ⟨fun _ => ⟨rfl, r1⟩, fun _ => ⟨fun _ => ⟨rfl, r1⟩, fun h => absurd rfl h⟩⟩)
  have shut : op = false → tp_W shM m_Mo_put 0 [some (.ref 0), some (.int x), none] [] μ (tp_Qi fun r' μ' => (-1 : Int32) = r' ∧ Rel TC TM σ μ') := by
    intro ho
    subst ho
    have e5 : (tp_si μ 0 0 (nI 0)).1 0 5 = 0 := by rw [si_nj (by decide), h4.2.1]; rfl
    exact sp_Mput (fun j a b e => bk_Mo_put_34 _ _ ⟨fun _ => ⟨rfl, r1⟩, fun h => absurd e5 h⟩) (fun _ => bk_Mo_put_34 _ _ ⟨fun _ => ⟨rfl, r1⟩, fun h => absurd e5 h⟩)
  -- a symbol that is one, of column c
  have good : ∀ c, 1 ≤ c → c < 22 → x = nI (s6 c) → tp_W shC m_Gr_extendRule 0 [some (.ref 1), some (.int (nI c)), none] [] σ (tp_Qi fun r σ' => tp_W shM m_Mo_put 0 [some (.ref 0), some (.int x), none] [] μ (tp_Qi fun r' μ' => r = r' ∧ Rel TC TM σ' μ')) := by
    intro c hc1 hc2 hx
    have hs6 : 1 ≤ s6 c ∧ (s6 c < 14 ∨ (20 ≤ s6 c ∧ s6 c < 28)) := by
      unfold s6; split <;> omega
    refine bk_Gr_extendRule_0 _ ⟨fun ho => ?_, fun ho => ⟨fun h => absurd h (nI_neg1 (by omega)), fun _ => ⟨fun h => absurd ((nI_z (by omega)).mp h) (by omega), fun _ => ?_⟩⟩⟩
    · rw [h3.2.1, bI_0] at ho
      exact shut ho
    · have hop : op = true := by
        rw [h3.2.1, bI_0] at ho
        simpa using ho
      subst hop
      obtain ⟨hlt, hw⟩ := h2 rfl
      have hC := h3.2.2.2.1 rfl
      have hM := h4.2.2.2.1 rfl
      have e13 : σ.1 1 3 = nI (gn g) := h3.1
      have m04 : μ.1 0 4 = nI (gn g + 1) := h4.1
      have hcl : (nI (gn g)).toNatClampNeg = gn g := nI_clamp (by omega)
      rw [e13, hcl, hC.2.1]
      have ol6 := hw.2.1
      -- the reference, behind its test
      have mo : ∀ K : Int32 → tp_S → Prop, (ol = 6 → K (-1) (tp_si μ 0 0 (nI 0))) → (ol < 6 → K (nI (ol + 1)) (tp_si (tp_si (tp_si μ 0 0 (nI 0)) 2 (6 * gn g + ol) x) 3 (gn g) (nI (ol + 1)))) → tp_W shM m_Mo_put 0 [some (.ref 0), some (.int x), none] [] μ (tp_Qi K) := by
        intro K k6 kl
        refine sp_Mput (fun j a b e => ?_) (fun h => absurd hx (h _ hs6.1 hs6.2))
        have e5 : ¬ (tp_si μ 0 0 (nI 0)).1 0 5 = 0 := by rw [si_nj (by decide), h4.2.1]; decide
        have e4 : (tp_si μ 0 0 (nI 0)).1 0 4 = nI (gn g + 1) := by rw [si_nj (by decide)]; exact m04
        have e3 : ∀ k, (tp_si μ 0 0 (nI 0)).1 3 k = μ.1 3 k := fun k => si_ne (by decide)
        refine bk_Mo_put_34 _ _ ⟨fun h => absurd h e5, fun _ => ⟨fun h => absurd h n1_0, fun _ => ?_⟩⟩
        rw [e4, pk_sub (by omega), Nat.add_sub_cancel, nI_clamp (by omega), e3, hM.2.1]
        refine ⟨vp_in_nI (by omega) (by decide), fun h6 => ?_, fun h6 => ?_⟩
        · have hl6 : ol < 6 := by
            rcases Nat.lt_or_ge ol 6 with z | z
            · exact z
            · exact absurd (by rw [show ol = 6 by omega]) h6
          refine bk_Mo_put_63 _ ?_
          rw [e4, pk_sub (by omega), Nat.add_sub_cancel, nI_clamp (by omega), e3, hM.2.1, pk_mul, nI_add, nI_add, nI_clamp (by omega)]
          refine ⟨vp_in_nI (by omega) (by decide), vp_in_nI (by omega) (by decide), vp_in_nI (by omega) (by decide), vp_in_nI (by omega) (by decide), vp_in_nI (by omega) (by decide), ?_⟩
          rw [si_at]
          exact kl hl6
        · have := (nI_eq (by omega) (by decide)).mp h6
          exact k6 this
      refine ⟨vp_in_nI (by omega) (by decide), fun hl => ?_, fun hl => ?_⟩
      · have hl6 : ol < 6 := (nI_ltI (by omega) (by decide)).mp hl
        rw [pk_mul, nI_add, nI_add, nI_add, nI_clamp (by omega), nI_clamp (by omega)]
        refine ⟨vp_in_nI (by omega) (by decide), vp_in_nI (by omega) (by decide), vp_in_nI (by omega) (by decide), vp_in_nI (by omega) (by decide), vp_in_nI (by omega) (by decide), vp_in_nI (by omega) (by decide), ?_⟩
        rw [si_at]
        refine mo _ (fun h => by omega) (fun _ => ⟨rfl, ?_⟩)
        refine ⟨g, true, ok, ol + 1, va_up os ol c, tc, tk, h1, fun _ => ⟨hlt, hw.1, by omega, fun p hp => ?_⟩, ?_, ?_, ?_, ?_, ?_, ?_, ?_, ?_⟩
        · by_cases q : p = ol
          · subst q; rw [va_up_self]; exact ⟨hc1, hc2⟩
          · rw [va_up_ne _ _ q]; exact hw.2.2 p (by omega)
        · obtain ⟨a1, a2, a3, a4, a5, a6, a7, a8⟩ := h3
          refine ⟨by simpa [si_1] using a1, by simpa [si_1] using a2, fun r hr => ?_, fun _ => ?_, fun r hr => ?_, ?_, ?_, ?_⟩
          · refine ruC_kept (by simp [si_1]) (by simp [si_1, Nat.ne_of_lt hr]) (fun p hp => ?_) (h1.2 r hr).2.1 (a3 r hr)
            simp [si_1, show 7 * r + p ≠ gn g * 7 + ol by omega, show 7 * r + p ≠ gn g * 7 + ol + 1 by omega]
          · refine ⟨by simpa [si_1] using hC.1, by simp [si_1], fun p hp => ?_, ?_⟩
            · by_cases q : p = ol
              · subst q
                simp [si_1, va_up_self, Nat.mul_comm]
              · rw [va_up_ne _ _ q]
                simpa [si_1, show 7 * gn g + p ≠ gn g * 7 + ol by omega, show 7 * gn g + p ≠ gn g * 7 + ol + 1 by omega] using hC.2.2.1 p (by omega)
            · simp [si_1, show 7 * gn g + (ol + 1) = gn g * 7 + ol + 1 by omega]
          · by_cases q : r = gn g
            · exact ⟨ol + 1, by omega, by simp [si_1, q]⟩
            · obtain ⟨v, hv, ev⟩ := a5 r hr
              exact ⟨v, hv, by simpa [si_1, q] using ev⟩
          · simpa [si_1, show 24 ≠ gn g by omega] using a6
          · simpa [si_1, show 168 ≠ gn g * 7 + ol by omega, show 168 ≠ gn g * 7 + ol + 1 by omega] using a7
          · simpa [si_1, show 169 ≠ gn g * 7 + ol by omega, show 169 ≠ gn g * 7 + ol + 1 by omega] using a8
        · obtain ⟨a1, a2, a3, a4, a5, a6, a7⟩ := h4
          refine ⟨by simpa [si_1] using a1, by simpa [si_1] using a2, fun r hr => ?_, fun _ => ?_, by simpa [si_1] using a5, ?_, ?_⟩
          · refine ruM_kept (by simp [si_1]) (by simp [si_1, Nat.ne_of_lt hr]) (fun p hp => ?_) (h1.2 r hr).2.1 (a3 r hr)
            simp [si_1, show 6 * r + p ≠ 6 * gn g + ol by omega]
          · refine ⟨by simpa [si_1] using hM.1, by simp [si_1], fun p hp => ?_⟩
            by_cases q : p = ol
            · subst q
              simp [si_1, va_up_self, hx]
            · rw [va_up_ne _ _ q]
              simpa [si_1, q] using hM.2.2 p (by omega)
          · simpa [si_1, show 144 ≠ 6 * gn g + ol by omega] using a6
          · simpa [si_1, show 24 ≠ gn g by omega] using a7
        · obtain ⟨a1, a2, a3, a4⟩ := h5
          exact ⟨a1, by simpa [si_1] using a2, by simpa [si_1] using a3, fun i hi => by simpa [si_1] using a4 i hi⟩
        · obtain ⟨a1, a2, rd, a3, a4, a5, a6⟩ := h6
          exact ⟨by simpa [si_1] using a1, by simpa [si_1] using a2, rd, a3, by simpa [si_1] using a4, by simpa [si_1] using a5, fun k hk => by simpa [si_1] using a6 k hk⟩
        · simpa [si_1] using h7
        · intro hz
          exact hTC g σ _ (fC_si (fC_si (fC_si (fC_rf σ) (by decide)) (by decide)) (by decide)) (h8 (by simpa [si_1] using hz))
        · simpa [si_1] using h9
        · intro hz
          exact hTM g μ _ (fM_si (fM_si (fM_s0 (fM_rf μ) (by decide)) (by decide)) (by decide)) (h10 (by simpa [si_1] using hz))
      · have : ol = 6 := by
          have : ¬ ol < 6 := fun z => hl ((nI_ltI (by omega) (by decide)).mpr z)
          omega
        exact mo _ (fun _ => ⟨rfl, r1⟩) (fun h => by omega)
  refine bk_Tp_put_0 x (sp_columnOf (fun j hj e => ?_) (fun j hj e => ?_) (fun a b => ?_))
  · by_cases h0 : j = 0
    · subst h0
      have hb := bad (fun i hi1 hi2 e' => by
        rw [e] at e'
        have := (nI_eq (by omega) (by omega)).mp e'
        omega)
      exact bk_Gr_extendRule_0 _ ⟨fun _ => hb, fun _ => ⟨fun _ => hb, fun _ => ⟨fun _ => hb, fun h => absurd rfl h⟩⟩⟩
    · exact good j (by omega) (by omega) (by rw [e]; unfold s6; rw [if_pos hj])
  · exact good (14 + j) (by omega) (by omega) (by rw [e]; unfold s6; rw [if_neg (by omega)]; congr 1; omega)
  · have hb := bad (fun i hi1 hi2 e' => by
      rcases hi2 with z | z
      · exact a i z e'
      · exact b (i - 20) (by omega) (by rw [e']; congr 1; omega))
    exact bk_Gr_extendRule_0 _ ⟨fun _ => hb, fun _ => ⟨fun _ => hb, fun h => absurd rfl h⟩⟩
end PUT
