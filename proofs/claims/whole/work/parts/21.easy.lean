/-! the calls that ask no tables -/
theorem sp_isKind {σ : tp_S} {K : Int32 → tp_S → Prop} {x : Int32} (h1 : (∀ j, j < 8 → x ≠ nI j) → K (nI 0) σ) (h2 : ∀ j, j < 8 → x = nI j → K (nI 1) σ) : tp_W shC m_Tp_isKind 0 [some (.int x)] [] σ (tp_Qi K) := by
  rcases nI_ix x 8 (by decide) with ⟨a, b⟩ | ⟨a, b⟩ | ⟨j, hj, e, a, b⟩
  · exact bk_Tp_isKind_0 x ⟨fun _ => ⟨bo_0, h1 (fun j hj e => b ⟨j, hj, e⟩)⟩, fun h => absurd a h⟩
  · refine bk_Tp_isKind_0 x ⟨fun h => absurd h a, fun _ => ⟨fun _ => ⟨bo_0, h1 (fun j hj e => ?_)⟩, fun h => absurd b h⟩⟩
    rw [e] at b
    exact nI_ge hj (by decide) b
  · exact bk_Tp_isKind_0 x ⟨fun h => absurd h a, fun _ => ⟨fun h => absurd h b, fun _ => ⟨bo_1, h2 j hj e⟩⟩⟩
theorem sp_isToken {σ : tp_S} {K : Int32 → tp_S → Prop} {x : Int32} (h1 : (∀ j, j < 14 → x ≠ nI j) → K (nI 0) σ) (h2 : ∀ j, j < 14 → x = nI j → K (nI 1) σ) : tp_W shC m_Tp_isToken 0 [some (.int x)] [] σ (tp_Qi K) := by
  rcases nI_ix x 14 (by decide) with ⟨a, b⟩ | ⟨a, b⟩ | ⟨j, hj, e, a, b⟩
  · exact bk_Tp_isToken_0 x ⟨fun _ => ⟨bo_0, h1 (fun j hj e => b ⟨j, hj, e⟩)⟩, fun h => absurd a h⟩
  · refine bk_Tp_isToken_0 x ⟨fun h => absurd h a, fun _ => ⟨fun _ => ⟨bo_0, h1 (fun j hj e => ?_)⟩, fun h => absurd b h⟩⟩
    rw [e] at b
    exact nI_ge hj (by decide) b
  · exact bk_Tp_isToken_0 x ⟨fun h => absurd h a, fun _ => ⟨fun h => absurd h b, fun _ => ⟨bo_1, h2 j hj e⟩⟩⟩
theorem bI_0 {b : Bool} : bI b = 0 ↔ b = false := by cases b <;> decide
theorem ruC_kept {σ σ' : tp_S} {r k l : Nat} {s : Nat → Nat} (h2 : σ'.1 2 r = σ.1 2 r) (h3 : σ'.1 3 r = σ.1 3 r) (h4 : ∀ p, p ≤ 6 → σ'.1 4 (7 * r + p) = σ.1 4 (7 * r + p)) (hl : l ≤ 6) (h : ruC σ r k l s) : ruC σ' r k l s :=
  ⟨h2.trans h.1, h3.trans h.2.1, fun p hp => (h4 p (by omega)).trans (h.2.2.1 p hp), (h4 l hl).trans h.2.2.2⟩
theorem ruM_kept {μ μ' : tp_S} {r k l : Nat} {s : Nat → Nat} (h1 : μ'.1 1 r = μ.1 1 r) (h3 : μ'.1 3 r = μ.1 3 r) (h2 : ∀ p, p < 6 → μ'.1 2 (6 * r + p) = μ.1 2 (6 * r + p)) (hl : l ≤ 6) (h : ruM μ r k l s) : ruM μ' r k l s :=
  ⟨h1.trans h.1, h3.trans h.2.1, fun p hp => (h2 p (by omega)).trans (h.2.2 p hp)⟩
def FrC (TC : Gm → tp_S → Prop) : Prop := ∀ g σ σ', fC σ σ' → TC g σ → TC g σ'
def FrM (TM : Gm → tp_S → Prop) : Prop := ∀ g μ μ', fM μ μ' → TM g μ → TM g μ'
theorem fC_rf (σ : tp_S) : fC σ σ := ⟨fun _ _ => rfl, fun _ _ => rfl⟩
theorem fC_si {σ τ : tp_S} {a j : Nat} {x : Int32} (h : fC σ τ) (ha : a ∉ [6, 7, 8, 9, 10, 16, 18, 19, 20, 21, 22]) : fC σ (tp_si τ a j x) :=
  ⟨fun b hb => (si_nc (b := b) (a := a) (fun e => ha (by rw [← e]; exact hb))).trans (h.1 b hb), h.2⟩
theorem fM_rf (μ : tp_S) : fM μ μ := ⟨fun _ _ => rfl, fun _ _ => rfl⟩
theorem fM_si {μ ν : tp_S} {a j : Nat} {x : Int32} (h : fM μ ν) (ha : a ∉ [0, 5, 6, 7, 9, 10, 12, 13, 14, 15, 16, 17]) : fM μ (tp_si ν a j x) :=
  ⟨fun b hb => (si_nc (b := b) (a := a) (fun e => ha (by rw [← e]; exact List.mem_cons_of_mem _ hb))).trans (h.1 b hb), fun k hk => (si_ne (b := 0) (a := a) (fun e => ha (by rw [← e]; exact List.mem_cons_self))).trans (h.2 k hk)⟩
theorem fM_s0 {μ ν : tp_S} {j : Nat} {x : Int32} (h : fM μ ν) (hj : j ∉ [9, 16, 19, 25]) : fM μ (tp_si ν 0 j x) :=
  ⟨fun b hb => (si_nc (b := b) (a := 0) (fun e => by subst e; simp at hb)).trans (h.1 b hb), fun k hk => (si_nj (k := k) (j := j) (fun e => hj (by rw [← e]; exact hk))).trans (h.2 k hk)⟩
section EASY
variable {TC TM : Gm → tp_S → Prop}
/-- only what is no part of it has changed -/
theorem Rel_thrown (hTM : FrM TM) {σ μ : tp_S} {x : Int32} (h : Rel TC TM σ μ) : Rel TC TM σ (tp_si μ 0 0 x) := by
  obtain ⟨g, op, ok, ol, os, tc, tk, h1, h2, h3, h4, h5, h6, h7, h8, h9, h10⟩ := h
  have e0 : ∀ j, j ≠ 0 → (tp_si μ 0 0 x).1 0 j = μ.1 0 j := fun j hj => si_nj hj
  have e1 : ∀ a, a ≠ 0 → (tp_si μ 0 0 x).1 a = μ.1 a := fun a ha => si_nc ha
  refine ⟨g, op, ok, ol, os, tc, tk, h1, h2, h3, ?_, ?_, ?_, h7, h8, ?_, ?_⟩
  · obtain ⟨a1, a2, a3, a4, a5, a6, a7⟩ := h4
    refine ⟨(e0 4 (by decide)).trans a1, (e0 5 (by decide)).trans a2, fun r hr => ?_, fun ho => ?_, ?_, ?_, ?_⟩
    · exact ruM_kept (by rw [e1 1 (by decide)]) (by rw [e1 3 (by decide)]) (fun p hp => by rw [e1 2 (by decide)]) (h1.2 r hr).2.1 (a3 r hr)
    · exact ruM_kept (by rw [e1 1 (by decide)]) (by rw [e1 3 (by decide)]) (fun p hp => by rw [e1 2 (by decide)]) (h2 ho).2.2.1 (a4 ho)
    · rw [e1 1 (by decide)]; exact a5
    · rw [e1 2 (by decide)]; exact a6
    · rw [e1 3 (by decide)]; exact a7
  · obtain ⟨a1, a2, a3, a4⟩ := h5
    exact ⟨a1, a2, (e0 7 (by decide)).trans a3, fun i hi => by rw [e1 4 (by decide)]; exact a4 i hi⟩
  · obtain ⟨a1, a2, rd, a3, a4, a5, a6⟩ := h6
    exact ⟨a1.trans (e0 28 (by decide)).symm, a2.trans (e0 30 (by decide)).symm, rd, a3, a4, (e0 27 (by decide)).trans a5, fun k hk => by rw [e1 18 (by decide)]; exact a6 k hk⟩
  · rw [e0 8 (by decide)]; exact h9
  · rw [e0 8 (by decide)]
    intro hk
    exact hTM g μ _ (fM_s0 (fM_rf μ) (by decide)) (h10 hk)
theorem ls_one {vs : List Int32} (h : vs.length = 1) : ∃ x, vs = [x] := by
  match vs, h with
  | [x], _ => exact ⟨x, rfl⟩
theorem ls_two {vs : List Int32} (h : vs.length = 2) : ∃ x y, vs = [x, y] := by
  match vs, h with
  | [x, y], _ => exact ⟨x, y, rfl⟩
theorem ls_three {vs : List Int32} (h : vs.length = 3) : ∃ x y z, vs = [x, y, z] := by
  match vs, h with
  | [x, y, z], _ => exact ⟨x, y, z, rfl⟩
theorem ls_nil {vs : List Int32} (h : vs.length = 0) : vs = [] := List.length_eq_zero_iff.mp h

theorem ca_begin (hTC : FrC TC) (hTM : FrM TM) : lw_case (Rel TC TM) m_Tp_begin m_Mo_begin 1 := by
  intro σ μ vs hvs hR
  obtain ⟨x, rfl⟩ := ls_one hvs
  have hR' := hR
  obtain ⟨g, op, ok, ol, os, tc, tk, h1, h2, h3, h4, h5, h6, h7, h8, h9, h10⟩ := hR'
  refine bk_Tp_begin_0 x (bk_Gr_openRule_0 x ⟨fun ho => ?_, fun ho => ?_⟩)
  · have hop : op = true := by
      rw [h3.2.1, bI_0] at ho
      simpa using ho
    refine bk_Mo_begin_0 x ⟨fun _ => ⟨rfl, Rel_thrown hTM hR⟩, fun h => ?_⟩
    rw [h4.2.1, bI_0, hop] at h
    cases h
  · rw [h3.2.1, bI_0] at ho
    subst ho
    have hn := h1.1
    refine sp_isKind (fun hx => ⟨fun _ => ?_, fun h => absurd rfl h⟩) (fun j hj e => ⟨fun h => absurd h n1_0, fun _ => ⟨fun hlt => ?_, fun hge => ?_⟩⟩)
    · refine bk_Mo_begin_0 x ⟨fun h => absurd (by rw [h4.2.1]; rfl) h, fun _ => ⟨fun _ => ⟨rfl, Rel_thrown hTM hR⟩, fun hx0 => ⟨fun _ => ⟨rfl, Rel_thrown hTM hR⟩, fun hx8 => ?_⟩⟩⟩
      exfalso
      rcases nI_ix x 8 (by decide) with ⟨a, b⟩ | ⟨a, b⟩ | ⟨j, hj, e, a, b⟩
      · exact hx0 a
      · exact hx8 b
      · exact hx j hj e
    · rw [h3.1] at hlt ⊢
      have hlt' : gn g < 24 := (nI_ltI (by omega) (by decide)).mp hlt
      rw [nI_clamp (by omega), pk_mul, nI_clamp (by omega)]
      refine ⟨bo_1, vp_in_nI hlt' (by decide), vp_in_nI (by omega) (by decide), vp_in_nI (by omega) (by decide), ?_⟩
      have hm4 : μ.1 0 4 = nI (gn g) := h4.1
      refine bk_Mo_begin_0 x ⟨fun h => absurd (by rw [h4.2.1]; rfl) h, fun _ => ⟨fun h => absurd h (by rw [e]; exact nI_pos (by omega)), fun _ => ⟨fun h => absurd h (by rw [e]; exact nI_ge hj (by decide)), fun _ => ⟨fun _ => ?_, fun h => ?_⟩⟩⟩⟩
      · rw [hm4, nI_clamp (by omega)]
        refine ⟨vp_in_nI (by omega) (by decide), vp_in_nI (by omega) (by decide), bo_1, ?_, ?_⟩
        · rw [nI_add, pk_sub (by omega)]; rfl
        · refine ⟨g, true, j, 0, fun _ => 0, tc, tk, h1, fun _ => ⟨hlt', hj, by omega, fun p hp => by omega⟩, ?_, ?_, ?_, ?_, ?_, ?_, ?_, ?_⟩
          · obtain ⟨a1, a2, a3, a4, a5, a6, a7, a8⟩ := h3
            refine ⟨?_, ?_, fun r hr => ?_, fun _ => ?_, fun r hr => ?_, ?_, ?_, ?_⟩
            · simpa [si_1] using a1
            · simp [si_1]; rfl
            · have := (h1.2 r hr).2.1
              refine ruC_kept ?_ ?_ (fun p hp => ?_) this (a3 r hr)
              · simp [si_1, Nat.ne_of_lt hr]
              · simp [si_1, Nat.ne_of_lt hr]
              · simp [si_1, show 7 * r + p ≠ gn g * 7 by omega]
            · refine ⟨by simp [si_1, e], by simp [si_1], fun p hp => by omega, by simp [si_1, Nat.mul_comm]⟩
            · by_cases hrn : r = gn g
              · exact ⟨0, by omega, by simp [si_1, hrn]⟩
              · obtain ⟨v, hv, ev⟩ := a5 r hr
                exact ⟨v, hv, by simpa [si_1, hrn] using ev⟩
            · simpa [si_1, show 24 ≠ gn g by omega] using a6
            · simpa [si_1, show 168 ≠ gn g * 7 by omega] using a7
            · simpa [si_1, show 169 ≠ gn g * 7 by omega] using a8
          · obtain ⟨a1, a2, a3, a4, a5, a6, a7⟩ := h4
            refine ⟨?_, ?_, fun r hr => ?_, fun _ => ?_, ?_, ?_, ?_⟩
            · simp [si_1, nI_add]
            · simp [si_1]; rfl
            · have := (h1.2 r hr).2.1
              refine ruM_kept ?_ ?_ (fun p hp => ?_) this (a3 r hr)
              · simp [si_1, Nat.ne_of_lt hr]
              · simp [si_1, Nat.ne_of_lt hr]
              · simp [si_1]
            · exact ⟨by simp [si_1, e], by simp [si_1], fun p hp => by omega⟩
            · simpa [si_1, show 24 ≠ gn g by omega] using a5
            · simpa [si_1] using a6
            · simpa [si_1, show 24 ≠ gn g by omega] using a7
          · obtain ⟨a1, a2, a3, a4⟩ := h5
            exact ⟨a1, by simpa [si_1] using a2, by simpa [si_1] using a3, fun i hi => by simpa [si_1] using a4 i hi⟩
          · obtain ⟨a1, a2, rd, a3, a4, a5, a6⟩ := h6
            exact ⟨by simpa [si_1] using a1, by simpa [si_1] using a2, rd, a3, by simpa [si_1] using a4, by simpa [si_1] using a5, fun k hk => by simpa [si_1] using a6 k hk⟩
          · simpa [si_1] using h7
          · intro hz
            exact hTC g σ _ (fC_si (fC_si (fC_si (fC_si (fC_rf σ) (by decide)) (by decide)) (by decide)) (by decide)) (h8 (by simpa [si_1] using hz))
          · simpa [si_1] using h9
          · intro hz
            exact hTM g μ _ (fM_s0 (fM_s0 (fM_si (fM_si (fM_s0 (fM_rf μ) (by decide)) (by decide)) (by decide)) (by decide)) (by decide)) (h10 (by simpa [si_1] using hz))
      · rw [hm4] at h
        exact absurd ((nI_eq (by omega) (by decide)).mp h) (by omega)
    · rw [h3.1] at hge
      have hn24 : gn g = 24 := by
        have : ¬ gn g < 24 := fun z => hge ((nI_ltI (by omega) (by decide)).mpr z)
        omega
      refine bk_Mo_begin_0 x ⟨fun h => absurd (by rw [h4.2.1]; rfl) h, fun _ => ⟨fun h => absurd h (by rw [e]; exact nI_pos (by omega)), fun _ => ⟨fun h => absurd h (by rw [e]; exact nI_ge hj (by decide)), fun _ => ⟨fun h => ?_, fun _ => ⟨rfl, Rel_thrown hTM hR⟩⟩⟩⟩⟩
      exact absurd (by rw [h4.1, hn24]; rfl) h
theorem ca_close (hTC : FrC TC) (hTM : FrM TM) : lw_case (Rel TC TM) m_Tp_close m_Mo_close 0 := by
  intro σ μ vs hvs hR
  obtain rfl := ls_nil hvs
  have hR' := hR
  obtain ⟨g, op, ok, ol, os, tc, tk, h1, h2, h3, h4, h5, h6, h7, h8, h9, h10⟩ := hR'
  refine bk_Tp_close_0 (bk_Gr_closeRule_0 ⟨fun ho => ⟨bo_0, bo_1, fun _ => ⟨bo_1, ?_⟩, fun h => absurd h n1_0⟩, fun ho => ⟨bo_0, fun h => absurd rfl h, fun _ => ?_⟩⟩)
  · have hop : op = true := by
      rw [h3.2.1, bI_0] at ho
      simpa using ho
    subst hop
    obtain ⟨hlt, hw⟩ := h2 rfl
    refine bk_Mo_close_0 ⟨fun _ => ⟨bo_0, bo_0, rfl, ?_⟩, fun h => ?_⟩
    · refine ⟨(gn g + 1, va_up (gk g) (gn g) ok, va_up (gl g) (gn g) ol, va_up (gs g) (gn g) os), false, 0, 0, fun _ => 0, tc, tk, ⟨by show gn g + 1 ≤ 24; omega, fun r hr => ?_⟩, fun h => (by cases h), ?_, ?_, ?_, ?_, ?_, ?_, ?_, ?_⟩
      · have hr' : r < gn g + 1 := hr
        by_cases e : r = gn g
        · show ruW (va_up (gk g) (gn g) ok r) (va_up (gl g) (gn g) ol r) (va_up (gs g) (gn g) os r)
          rw [e, va_up_self, va_up_self, va_up_self]; exact hw
        · show ruW (va_up (gk g) (gn g) ok r) (va_up (gl g) (gn g) ol r) (va_up (gs g) (gn g) os r)
          rw [va_up_ne _ _ e, va_up_ne _ _ e, va_up_ne _ _ e]; exact h1.2 r (by omega)
      · obtain ⟨a1, a2, a3, a4, a5, a6, a7, a8⟩ := h3
        refine ⟨?_, by simp [si_1]; rfl, fun r hr => ?_, fun h => (by cases h), fun r hr => by simpa [si_1] using a5 r hr, by simpa [si_1] using a6, by simpa [si_1] using a7, by simpa [si_1] using a8⟩
        · simp [si_1, a1, nI_add]
        · have hr' : r < gn g + 1 := hr
          by_cases e : r = gn g
          · have := a4 rfl
            show ruC _ r (va_up (gk g) (gn g) ok r) (va_up (gl g) (gn g) ol r) (va_up (gs g) (gn g) os r)
            rw [e, va_up_self, va_up_self, va_up_self]
            simpa [ruC, si_1] using this
          · have := a3 r (by omega)
            show ruC _ r (va_up (gk g) (gn g) ok r) (va_up (gl g) (gn g) ol r) (va_up (gs g) (gn g) os r)
            rw [va_up_ne _ _ e, va_up_ne _ _ e, va_up_ne _ _ e]
            simpa [ruC, si_1] using this
      · obtain ⟨a1, a2, a3, a4, a5, a6, a7⟩ := h4
        refine ⟨?_, by simp [si_1]; rfl, fun r hr => ?_, fun h => (by cases h), by simpa [si_1] using a5, by simpa [si_1] using a6, by simpa [si_1] using a7⟩
        · simp [si_1]; exact a1
        · have hr' : r < gn g + 1 := hr
          by_cases e : r = gn g
          · have := a4 rfl
            show ruM _ r (va_up (gk g) (gn g) ok r) (va_up (gl g) (gn g) ol r) (va_up (gs g) (gn g) os r)
            rw [e, va_up_self, va_up_self, va_up_self]
            simpa [ruM, si_1] using this
          · have := a3 r (by omega)
            show ruM _ r (va_up (gk g) (gn g) ok r) (va_up (gl g) (gn g) ol r) (va_up (gs g) (gn g) os r)
            rw [va_up_ne _ _ e, va_up_ne _ _ e, va_up_ne _ _ e]
            simpa [ruM, si_1] using this
      · obtain ⟨a1, a2, a3, a4⟩ := h5
        exact ⟨a1, by simpa [si_1] using a2, by simpa [si_1] using a3, fun i hi => by simpa [si_1] using a4 i hi⟩
      · obtain ⟨a1, a2, rd, a3, a4, a5, a6⟩ := h6
        exact ⟨by simpa [si_1] using a1, by simpa [si_1] using a2, rd, a3, by simpa [si_1] using a4, by simpa [si_1] using a5, fun k hk => by simpa [si_1] using a6 k hk⟩
      · exact Or.inr (by simp [si_1]; rfl)
      · intro h
        simp [si_1] at h
        exact absurd h n1_0
      · exact Or.inl (by simp [si_1]; rfl)
      · intro h
        simp [si_1] at h
        exact absurd h (by decide)
    · rw [h4.2.1] at h
      exact absurd h (by decide)
  · rw [h3.2.1, bI_0] at ho
    subst ho
    refine bk_Mo_close_0 ⟨fun h => absurd (by rw [h4.2.1]; rfl) h, fun _ => ⟨rfl, Rel_thrown hTM hR⟩⟩
theorem ca_clear (hTC : FrC TC) (hTM : FrM TM) : lw_case (Rel TC TM) m_Tp_clear m_Mo_clear 0 := by
  intro σ μ vs hvs hR
  obtain rfl := ls_nil hvs
  obtain ⟨g, op, ok, ol, os, tc, tk, h1, h2, h3, h4, h5, h6, h7, h8, h9, h10⟩ := hR
  have fin : Rel TC TM (tp_si (tp_si (tp_si σ 0 7 (nI 1)) 1 4 (nI 0)) 1 3 (nI 0)) (tp_si (tp_si (tp_si (tp_si μ 0 0 (nI 0)) 0 4 (nI 0)) 0 5 (nI 0)) 0 8 (nI 0)) := by
    refine ⟨(0, gk g, gl g, gs g), false, 0, 0, fun _ => 0, tc, tk, ⟨by show 0 ≤ 24; omega, fun r hr => absurd hr (Nat.not_lt_zero r)⟩, fun h => (by cases h), ?_, ?_, ?_, ?_, ?_, ?_, ?_, ?_⟩
    · obtain ⟨a1, a2, a3, a4, a5, a6, a7, a8⟩ := h3
      exact ⟨by simp [si_1], by simp [si_1]; rfl, fun r hr => absurd hr (Nat.not_lt_zero r), fun h => (by cases h), fun r hr => by simpa [si_1] using a5 r hr, by simpa [si_1] using a6, by simpa [si_1] using a7, by simpa [si_1] using a8⟩
    · obtain ⟨a1, a2, a3, a4, a5, a6, a7⟩ := h4
      exact ⟨by simp [si_1], by simp [si_1]; rfl, fun r hr => absurd hr (Nat.not_lt_zero r), fun h => (by cases h), by simpa [si_1] using a5, by simpa [si_1] using a6, by simpa [si_1] using a7⟩
    · obtain ⟨a1, a2, a3, a4⟩ := h5
      exact ⟨a1, by simpa [si_1] using a2, by simpa [si_1] using a3, fun i hi => by simpa [si_1] using a4 i hi⟩
    · obtain ⟨a1, a2, rd, a3, a4, a5, a6⟩ := h6
      exact ⟨by simpa [si_1] using a1, by simpa [si_1] using a2, rd, a3, by simpa [si_1] using a4, by simpa [si_1] using a5, fun k hk => by simpa [si_1] using a6 k hk⟩
    · exact Or.inr (by simp [si_1]; rfl)
    · intro h
      simp [si_1] at h
      exact absurd h n1_0
    · exact Or.inl (by simp [si_1]; rfl)
    · intro h
      simp [si_1] at h
      exact absurd h (by decide)
  refine bk_Tp_clear_0 ⟨bo_1, bk_Gr_forgetRules_0 ⟨fun ho => ⟨bo_0, ?_⟩, fun ho => ⟨bo_0, ?_⟩⟩⟩
  · have ho' : bI op = 0 := by rw [← h3.2.1]; exact ho
    rw [bI_0] at ho'
    subst ho'
    refine bk_Mo_clear_0 ⟨bo_0, bo_0, ?_, fin⟩
    show σ.1 1 3 = μ.1 0 4
    rw [h3.1, h4.1]; rfl
  · have ho' : ¬ bI op = 0 := by rw [← h3.2.1]; exact ho
    rw [bI_0] at ho'
    have : op = true := by simpa using ho'
    subst this
    refine bk_Mo_clear_0 ⟨bo_0, bo_0, ?_, fin⟩
    show σ.1 1 3 + nI 1 = μ.1 0 4
    rw [h3.1, h4.1, nI_add]; rfl
theorem ca_drop (hTC : FrC TC) (hTM : FrM TM) : lw_case (Rel TC TM) m_Tp_drop m_Mo_drop 0 := by
  intro σ μ vs hvs hR
  obtain rfl := ls_nil hvs
  obtain ⟨g, op, ok, ol, os, tc, tk, h1, h2, h3, h4, h5, h6, h7, h8, h9, h10⟩ := hR
  refine bk_Tp_drop_0 (bk_Ps_forgetTokens_0 (bk_Mo_drop_0 ⟨h5.2.1.trans h5.2.2.1.symm, ?_⟩))
  refine ⟨g, op, ok, ol, os, 0, tk, h1, h2, ?_, ?_, ?_, ?_, ?_, ?_, ?_, ?_⟩
  · simpa [gC, ruC, si_1] using h3
  · simpa [gM, ruM, si_1] using h4
  · exact ⟨by omega, by simp [si_1], by simp [si_1], fun i hi => absurd hi (Nat.not_lt_zero i)⟩
  · simpa [paR, si_1] using h6
  · simpa [si_1] using h7
  · intro hz
    exact hTC g σ _ (fC_si (fC_rf σ) (by decide)) (h8 (by simpa [si_1] using hz))
  · simpa [si_1] using h9
  · intro hz
    exact hTM g μ _ (fM_s0 (fM_s0 (fM_rf μ) (by decide)) (by decide)) (h10 (by simpa [si_1] using hz))
theorem ca_parsed (hTC : FrC TC) (hTM : FrM TM) : lw_case (Rel TC TM) m_Tp_parsed m_Mo_parsed 1 := by
  intro σ μ vs hvs hR
  obtain ⟨x, rfl⟩ := ls_one hvs
  have hR' := hR
  obtain ⟨g, op, ok, ol, os, tc, tk, h1, h2, h3, h4, h5, ⟨a1, a2, rd, a3, a4, a5, a6⟩, h7, h8, h9, h10⟩ := hR'
  have h01 : ¬ nI 1 = 0 := by decide
  have h02 : ¬ nI 2 = 0 := by decide
  have h12 : ¬ nI 2 = nI 1 := by decide
  refine bk_Tp_parsed_0 x ⟨fun e => bk_Ps_reductions_0 ?_, fun e0 => ⟨fun e => bk_Ps_endedAt_0 ?_, fun e1 => ⟨fun e => bk_Ps_pileHeight_0 ?_, fun e2 => ?_⟩⟩⟩
  · subst e
    exact bk_Mo_parsed_0 _ ⟨fun h => absurd rfl h, fun _ => ⟨a4.trans a5.symm, Rel_thrown hTM hR⟩⟩
  · subst e
    exact bk_Mo_parsed_0 _ ⟨fun _ => ⟨fun h => absurd rfl h, fun _ => ⟨a1, Rel_thrown hTM hR⟩⟩, fun h => absurd h h01⟩
  · subst e
    exact bk_Mo_parsed_0 _ ⟨fun _ => ⟨fun _ => ⟨fun h => absurd rfl h, fun _ => ⟨a2, Rel_thrown hTM hR⟩⟩, fun h => absurd h h12⟩, fun h => absurd h h02⟩
  · exact bk_Mo_parsed_0 _ ⟨fun _ => ⟨fun _ => ⟨fun _ => ⟨rfl, Rel_thrown hTM hR⟩, fun h => absurd h e2⟩, fun h => absurd h e1⟩, fun h => absurd h e0⟩
theorem ca_reduction (hTC : FrC TC) (hTM : FrM TM) : lw_case (Rel TC TM) m_Tp_reduction m_Mo_reduction 1 := by
  intro σ μ vs hvs hR
  obtain ⟨x, rfl⟩ := ls_one hvs
  have hR' := hR
  obtain ⟨g, op, ok, ol, os, tc, tk, h1, h2, h3, h4, h5, ⟨a1, a2, rd, a3, a4, a5, a6⟩, h7, h8, h9, h10⟩ := hR'
  have r1 := Rel_thrown (x := nI 0) hTM hR
  refine bk_Tp_reduction_0 x (bk_Ps_reducedBy_0 x ?_)
  rw [a4]
  rcases nI_ix x rd (by omega) with ⟨a, b⟩ | ⟨a, b⟩ | ⟨j, hj, e, a, b⟩
  · refine ⟨fun _ => bk_Mo_reduction_0 x ?_, fun h => absurd a h⟩
    rw [a5]
    exact ⟨fun _ => ⟨rfl, r1⟩, fun h => absurd a h⟩
  · refine ⟨fun h => absurd h a, fun _ => ⟨fun _ => bk_Mo_reduction_0 x ?_, fun h => absurd b h⟩⟩
    rw [a5]
    exact ⟨fun h => absurd h a, fun _ => ⟨fun _ => ⟨rfl, r1⟩, fun h => absurd b h⟩⟩
  · refine ⟨fun h => absurd h a, fun _ => ⟨fun h => absurd h b, fun _ => ⟨by rw [e]; exact vp_in_nI (by omega) (by decide), bk_Mo_reduction_0 x ?_⟩⟩⟩
    rw [a5]
    refine ⟨fun h => absurd h a, fun _ => ⟨fun h => absurd h b, fun _ => ⟨by rw [e]; exact vp_in_nI (by omega) (by decide), ?_, r1⟩⟩⟩
    rw [e, nI_clamp (by omega)]
    exact a6 j hj
theorem ca_token (hTC : FrC TC) (hTM : FrM TM) : lw_case (Rel TC TM) m_Tp_token m_Mo_token 1 := by
  intro σ μ vs hvs hR
  obtain ⟨x, rfl⟩ := ls_one hvs
  have r1 := Rel_thrown (x := nI 0) hTM hR
  obtain ⟨g, op, ok, ol, os, tc, tk, h1, h2, h3, h4, ⟨b1, b2, b3, b4⟩, h6, h7, h8, h9, h10⟩ := hR
  have nt : (∀ j, j < 14 → x ≠ nI j) ∨ x = 0 → tp_W shM m_Mo_token 0 [some (.ref 0), some (.int x)] [] μ (tp_Qi fun r' μ' => (-1 : Int32) = r' ∧ Rel TC TM σ μ') := by
    intro hx
    refine bk_Mo_token_0 x ⟨fun _ => ⟨rfl, r1⟩, fun h0 => ⟨fun _ => ⟨rfl, r1⟩, fun h14 => ?_⟩⟩
    exfalso
    rcases nI_ix x 14 (by decide) with ⟨a, b⟩ | ⟨a, b⟩ | ⟨j, hj, e, a, b⟩
    · refine h0 ?_
      rw [Int32.lt_iff_toInt_lt] at a ⊢
      have e1 : (nI 1).toInt = 1 := by decide
      have e0 : (0 : Int32).toInt = 0 := by decide
      omega
    · exact h14 b
    · rcases hx with hx | hx
      · exact hx j hj e
      · rw [hx] at h0
        exact h0 (by decide)
  refine bk_Tp_token_0 x (bk_Ps_addToken_0 x ⟨fun e => nt (Or.inr e), fun e0 => sp_isToken (fun hx => ⟨fun _ => nt (Or.inl hx), fun h => absurd rfl h⟩) (fun j hj e => ⟨fun h => absurd h n1_0, fun _ => ?_⟩)⟩)
  have hj0 : 1 ≤ j := by
    rcases Nat.eq_zero_or_pos j with z | z
    · exact absurd (by rw [e, z]; rfl) e0
    · exact z
  have g1 : ¬ x < nI 1 := by rw [e]; exact nI_nlt hj0 (by omega)
  have g14 : ¬ nI 14 ≤ x := by rw [e]; exact nI_ge hj (by decide)
  rw [b2]
  refine ⟨fun hlt => ?_, fun hge => ?_⟩
  · have hlt' : tc < 100 := (nI_ltI (by omega) (by decide)).mp hlt
    rw [nI_clamp (by omega)]
    refine ⟨vp_in_nI hlt' (by decide), bk_Mo_token_0 x ⟨fun h => absurd h g1, fun _ => ⟨fun h => absurd h g14, fun _ => ?_⟩⟩⟩
    rw [b3]
    refine ⟨fun _ => ?_, fun h => absurd ((nI_eq (by omega) (by decide)).mp h) (by omega)⟩
    rw [nI_clamp (by omega)]
    refine ⟨vp_in_nI (by omega) (by decide), rfl, ?_⟩
    refine ⟨g, op, ok, ol, os, tc + 1, va_up tk tc j, h1, h2, ?_, ?_, ?_, ?_, ?_, ?_, ?_, ?_⟩
    · simpa [gC, ruC, si_1] using h3
    · simpa [gM, ruM, si_1] using h4
    · refine ⟨by omega, by simp [si_1, nI_add], by simp [si_1, nI_add], fun i hi => ?_⟩
      by_cases q : i = tc
      · subst q
        simp [si_1, va_up, e, hj, hj0]
      · simpa [si_1, va_up, q] using b4 i (by omega)
    · simpa [paR, si_1] using h6
    · simpa [si_1] using h7
    · intro hz
      exact hTC g σ _ (fC_si (fC_si (fC_rf σ) (by decide)) (by decide)) (h8 (by simpa [si_1] using hz))
    · simpa [si_1] using h9
    · intro hz
      exact hTM g μ _ (fM_s0 (fM_si (fM_s0 (fM_rf μ) (by decide)) (by decide)) (by decide)) (h10 (by simpa [si_1] using hz))
  · have : tc = 100 := by
      have : ¬ tc < 100 := fun z => hge ((nI_ltI (by omega) (by decide)).mpr z)
      omega
    subst this
    refine bk_Mo_token_0 x ⟨fun h => absurd h g1, fun _ => ⟨fun h => absurd h g14, fun _ => ⟨fun h => absurd b3 h, fun _ => ⟨rfl, r1⟩⟩⟩⟩
end EASY
