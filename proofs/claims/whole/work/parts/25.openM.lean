/-! the reference's openings -/
abbrev gOffM (cs : List Nat) : Prop := 0 ∉ cs ∧ 1 ∉ cs ∧ 2 ∉ cs ∧ 3 ∉ cs
theorem gM_eq {g : Gm} {op : Bool} {ok ol : Nat} {os : Nat → Nat} {μ ν : tp_S} (h4 : ν.1 0 4 = μ.1 0 4) (h5 : ν.1 0 5 = μ.1 0 5) (h1 : ν.1 1 = μ.1 1) (h2 : ν.1 2 = μ.1 2) (h3 : ν.1 3 = μ.1 3) (h : gM g op ok ol os μ) : gM g op ok ol os ν := by
  unfold gM ruM at h ⊢
  rw [h4, h5, h1, h2, h3]
  exact h
theorem gM_ke {g : Gm} {op : Bool} {ok ol : Nat} {os : Nat → Nat} {μ ν : tp_S} {cs : List Nat} (hk : ke cs μ ν) (ho : gOffM cs) (h : gM g op ok ol os μ) : gM g op ok ol os ν := gM_eq (by rw [hk.1 0 ho.1]) (by rw [hk.1 0 ho.1]) (hk.1 1 ho.2.1) (hk.1 2 ho.2.2.1) (hk.1 3 ho.2.2.2) h
def rwM (μ : tp_S) (r l : Nat) (s : Nat → Nat) : Prop := r ≤ 24 ∧ l ≤ 6 ∧ 6 * r + l ≤ 149 ∧ μ.1 3 r = nI l ∧ ∀ p, p < l → μ.1 2 (6 * r + p) = nI (s6 (s p)) ∧ s p < 22
theorem rwM_of {g : Gm} {op : Bool} {ok ol : Nat} {os : Nat → Nat} {μ : tp_S} (hw : gW g) (h : gM g op ok ol os μ) {r : Nat} (hr : r < gn g ∨ r = 24) : rwM μ r (rl g r) (rs g r) := by
  have hn := hw.1
  rcases hr with hr | rfl
  · obtain ⟨a1, a2, a3⟩ := hw.2 r hr
    obtain ⟨b1, b2, b3⟩ := h.2.2.1 r hr
    rw [rl_c (by omega), rs_c (by omega)]
    exact ⟨by omega, a2, by omega, b2, fun p hp => ⟨b3 p hp, (a3 p hp).2⟩⟩
  · obtain ⟨a1, a2, a3, a4, a5, a6, a7⟩ := h
    exact ⟨by omega, by show 1 ≤ 6; decide, by show 6 * 24 + 1 ≤ 149; decide, a7, fun p hp => ⟨by have : p < 1 := hp; rw [show p = 0 by omega]; exact a6, by show 14 < 22; decide⟩⟩
theorem sp_MisKind {μ : tp_S} {K : Int32 → tp_S → Prop} {c : Nat} (hc : c < 22) (h1 : c < 14 → K (nI 0) μ) (h2 : 14 ≤ c → K (nI 1) μ) : tp_W shM m_Mo_isKind 0 [some (.int (nI (s6 c)))] [] μ (tp_Qi K) := by
  have hs : s6 c < 28 := by unfold s6; split <;> omega
  refine bk_Mo_isKind_0 _ ⟨fun h => ⟨bo_0, h1 ?_⟩, fun h => ⟨bo_1, h2 ?_⟩⟩
  · have := (nI_ltI (by omega) (by decide)).mp h
    unfold s6 at this; split at this <;> omega
  · have : ¬ s6 c < 20 := fun z => h ((nI_ltI (by omega) (by decide)).mpr z)
    unfold s6 at this; split at this <;> omega
theorem sp_Mclosed {g : Gm} {op : Bool} {ok ol : Nat} {os : Nat → Nat} {μ : tp_S} (hw : gW g) (h : gM g op ok ol os μ) {K : Int32 → tp_S → Prop} (k : K (nI (gn g)) μ) : tp_W shM m_Mo_closed 0 [some (.ref 0)] [] μ (tp_Qi K) := by
  have hn := hw.1
  cases op with
  | false =>
    refine bk_Mo_closed_0 ⟨fun _ => ?_, fun z => absurd (by rw [h.2.1]; rfl) z⟩
    rw [h.1]; exact k
  | true =>
    refine bk_Mo_closed_0 ⟨fun z => ?_, fun _ => ?_⟩
    · rw [h.2.1] at z; exact absurd z (by decide)
    · rw [h.1]
      show K (nI (gn g + 1) - nI 1) μ
      rw [pk_sub (by omega), Nat.add_sub_cancel]; exact k
/-- what the reference says of a kind -/
def oM (μ : tp_S) (k b : Nat) : Prop := (b < 14 ∧ bt (μ.1 6 k) b = true) ∨ (b = 14 ∧ μ.1 5 k = 1)
theorem oM_14 {μ : tp_S} {k : Nat} : oM μ k 14 ↔ μ.1 5 k = 1 := ⟨fun h => h.elim (fun q => by omega) (fun q => q.2), fun h => Or.inr ⟨rfl, h⟩⟩
theorem oM_lt {μ : tp_S} {k b : Nat} (hb : b < 14) : oM μ k b ↔ bt (μ.1 6 k) b = true := ⟨fun h => h.elim (fun q => q.2) (fun q => by omega), fun h => Or.inl ⟨hb, h⟩⟩
def eB (μ : tp_S) : Prop := ∀ k, k < 8 → μ.1 5 k = 0 ∨ μ.1 5 k = 1
theorem s6_lo {c : Nat} (h : c < 14) : s6 c = c := if_pos h
theorem s6_hi {c : Nat} (h : 14 ≤ c) : s6 c = c + 6 := if_neg (by omega)
theorem sp_first_8 {μ : tp_S} {r l : Nat} {s : Nat → Nat} (hw : rwM μ r l s) (he : eB μ) (hf : ∀ k i, k < 8 → i < 32 → bt (μ.1 6 k) i = true → i < 14) {K : Int32 → tp_S → Prop} : ∀ (n p : Nat) (acc : Int32), p + n = l → (∀ m, (∀ i, i < 32 → (bt m i = true ↔ (bt acc i = true ∨ (i < 14 ∧ ro (oM μ) s n p i)))) → K m μ) → tp_W shM m_Mo_firstFrom 8 [some (.ref 0), some (.int (nI r)), none, some (.int acc), some (.int (nI 1)), some (.int (nI p)), none] [] μ (tp_Qi K) := by
  obtain ⟨hr, hl, hrl, hln, hsy⟩ := hw
  intro n
  induction n with
  | zero =>
    intro p acc hp k
    refine bk_Mo_firstFrom_8 _ _ _ _ ⟨vp_in_nI (by omega) (by decide), ?_⟩
    rw [nI_clamp (by omega), hln]
    refine ⟨fun _ => k _ (fun i hi => ?_), fun h => absurd (nI_le (by omega) (by omega)) h⟩
    constructor
    · exact Or.inl
    · rintro (h | ⟨h1, h2⟩)
      · exact h
      · have : i = 14 := h2
        omega
  | succ n ih =>
    intro p acc hp k
    have hs22 := (hsy p (by omega)).2
    -- with no more behind it
    have off : ∀ acc', (∀ i, i < 32 → (bt acc' i = true ↔ (bt acc i = true ∨ (i < 14 ∧ ro (oM μ) s (n + 1) p i)))) → tp_W shM m_Mo_firstFrom 8 [some (.ref 0), some (.int (nI r)), none, some (.int acc'), some (.int (nI 0)), some (.int (nI (p + 1))), none] [] μ (tp_Qi K) := by
      intro acc' h
      refine bk_Mo_firstFrom_8 _ _ _ _ ⟨vp_in_nI (by omega) (by decide), fun _ => k _ h, fun _ => ⟨fun _ => k _ h, fun h0 => absurd rfl h0⟩⟩
    refine bk_Mo_firstFrom_8 _ _ _ _ ⟨vp_in_nI (by omega) (by decide), ?_⟩
    rw [nI_clamp (by omega), hln, pk_mul, nI_add, nI_clamp (by omega), (hsy p (by omega)).1, nI_add]
    refine ⟨fun h => absurd ((nI_leI (by omega) (by omega)).mp h) (by omega), fun _ => ⟨fun h => absurd h n1_0, fun _ => ⟨vp_in_nI (by omega) (by decide), ?_⟩⟩⟩
    refine sp_MisKind hs22 (fun hlo => ⟨fun _ => ?_, fun h => absurd rfl h⟩) (fun hhi => ⟨fun h => absurd h n1_0, fun _ => ?_⟩)
    · refine sp_MisKind hs22 (fun _ => ⟨fun _ => off _ (fun i hi => ?_), fun h => absurd rfl h⟩) (fun h => by omega)
      rw [s6_lo hlo, b_or, b_pow (s p) (by omega) hi, ro_s]
      simp only [Bool.or_eq_true, decide_eq_true_eq]
      constructor
      · rintro (h | h)
        · exact Or.inl h
        · exact Or.inr ⟨by omega, Or.inl ⟨hlo, h⟩⟩
      · rintro (h | ⟨h1, h | ⟨h, _⟩⟩)
        · exact Or.inl h
        · exact Or.inr h.2
        · omega
    · rw [s6_hi hhi, pk_sub (by omega), show s p + 6 - 20 = s p - 14 by omega, nI_clamp (by omega)]
      have hk8 : s p - 14 < 8 := by omega
      have hv : ∀ i, i < 32 → (bt (acc ||| μ.1 6 (s p - 14)) i = true ↔ (bt acc i = true ∨ (i < 14 ∧ oM μ (s p - 14) i))) := by
        intro i hi
        rw [b_or]
        simp only [Bool.or_eq_true]
        constructor
        · rintro (h | h)
          · exact Or.inl h
          · have := hf _ _ hk8 hi h
            exact Or.inr ⟨this, (oM_lt this).mpr h⟩
        · rintro (h | ⟨h1, h2⟩)
          · exact Or.inl h
          · exact Or.inr ((oM_lt h1).mp h2)
      refine ⟨vp_in_nI (by omega) (by decide), ?_⟩
      rw [← s6_hi hhi]
      refine sp_MisKind hs22 (fun h => by omega) (fun _ => ⟨fun h => absurd h n1_0, fun _ => ⟨vp_in_nI (by omega) (by decide), fun h0 => off _ (fun i hi => ?_), fun h0 => ?_⟩⟩)
      · have hne : ¬ oM μ (s p - 14) 14 := by rw [oM_14, h0]; decide
        rw [hv i hi, ro_s]
        constructor
        · rintro (h | h)
          · exact Or.inl h
          · exact Or.inr ⟨h.1, Or.inr ⟨hhi, Or.inl h⟩⟩
        · rintro (h | ⟨h1, h | ⟨_, h | ⟨h, _⟩⟩⟩)
          · exact Or.inl h
          · omega
          · exact Or.inr h
          · exact absurd h hne
      · have hyes : oM μ (s p - 14) 14 := by
          rw [oM_14]
          exact (he _ hk8).resolve_left h0
        refine ih (p + 1) _ (by omega) (fun m hm => k m (fun i hi => ?_))
        rw [hm i hi, hv i hi, ro_s]
        constructor
        · rintro ((h | h) | ⟨h1, h2⟩)
          · exact Or.inl h
          · exact Or.inr ⟨h.1, Or.inr ⟨hhi, Or.inl h⟩⟩
          · exact Or.inr ⟨h1, Or.inr ⟨hhi, Or.inr ⟨hyes, h2⟩⟩⟩
        · rintro (h | ⟨h1, h | ⟨_, h | ⟨_, h⟩⟩⟩)
          · exact Or.inl (Or.inl h)
          · omega
          · exact Or.inl (Or.inr h)
          · exact Or.inr ⟨h1, h⟩
theorem sp_first {μ : tp_S} {r l : Nat} {s : Nat → Nat} (hw : rwM μ r l s) (he : eB μ) (hf : ∀ k i, k < 8 → i < 32 → bt (μ.1 6 k) i = true → i < 14) {K : Int32 → tp_S → Prop} {p : Nat} (hp : p ≤ l) (k : ∀ m, (∀ i, i < 32 → (bt m i = true ↔ (i < 14 ∧ ro (oM μ) s (l - p) p i))) → K m μ) : tp_W shM m_Mo_firstFrom 0 [some (.ref 0), some (.int (nI r)), some (.int (nI p)), none, none, none, none] [] μ (tp_Qi K) := by
  refine bk_Mo_firstFrom_0 _ _ (sp_first_8 hw he hf (l - p) p (nI 0) (by omega) (fun m hm => k m (fun i hi => ?_)))
  rw [hm i hi]
  have : bt (nI 0) i = false := b_0 i
  rw [this]
  simp
theorem sp_empty_5 {μ : tp_S} {r l : Nat} {s : Nat → Nat} (hw : rwM μ r l s) (he : eB μ) {K : Int32 → tp_S → Prop} : ∀ (n p : Nat) (x : Int32), p + n = l → (x = 0 ∨ x = 1) → ((x = 1 ∧ ro (oM μ) s n p 14) → K (nI 1) μ) → (¬ (x = 1 ∧ ro (oM μ) s n p 14) → K (nI 0) μ) → tp_W shM m_Mo_isEmptyFrom 5 [some (.ref 0), some (.int (nI r)), none, some (.int x), some (.int (nI p)), none] [] μ (tp_Qi K) := by
  obtain ⟨hr, hl, hrl, hln, hsy⟩ := hw
  intro n
  induction n with
  | zero =>
    intro p x hp hx k1 k0
    refine bk_Mo_isEmptyFrom_5 _ _ _ ⟨vp_in_nI (by omega) (by decide), ?_⟩
    rw [nI_clamp (by omega), hln]
    refine ⟨fun _ => ⟨hx, ?_⟩, fun h => absurd (nI_le (by omega) (by omega)) h⟩
    rcases hx with rfl | rfl
    · exact k0 (fun h => absurd h.1 (by decide))
    · exact k1 ⟨rfl, rfl⟩
  | succ n ih =>
    intro p x hp hx k1 k0
    have hs22 := (hsy p (by omega)).2
    refine bk_Mo_isEmptyFrom_5 _ _ _ ⟨vp_in_nI (by omega) (by decide), ?_⟩
    rw [nI_clamp (by omega), hln, pk_mul, nI_add, nI_clamp (by omega), (hsy p (by omega)).1, nI_add]
    have no : ¬ (x = 1 ∧ ro (oM μ) s (n + 1) p 14) → tp_W shM m_Mo_isEmptyFrom 5 [some (.ref 0), some (.int (nI r)), none, some (.int (nI 0)), some (.int (nI (p + 1))), none] [] μ (tp_Qi K) := fun h => ih (p + 1) (nI 0) (by omega) (Or.inl rfl) (fun q => absurd q.1 (by decide)) (fun _ => k0 h)
    refine ⟨fun h => absurd ((nI_leI (by omega) (by omega)).mp h) (by omega), fun _ => ⟨vp_in_nI (by omega) (by decide), fun h0 => no (fun q => ?_), fun h0 => ?_⟩⟩
    · rw [h0] at q; exact absurd q.1 (by decide)
    · have hx1 : x = 1 := hx.resolve_left h0
      refine sp_MisKind hs22 (fun hlo => ⟨fun _ => no (fun q => ?_), fun h => absurd rfl h⟩) (fun hhi => ⟨fun h => absurd h n1_0, fun _ => ?_⟩)
      · rcases ro_s.mp q.2 with h | ⟨h, _⟩
        · omega
        · omega
      · rw [s6_hi hhi, pk_sub (by omega), show s p + 6 - 20 = s p - 14 by omega, nI_clamp (by omega)]
        refine ⟨vp_in_nI (by omega) (by decide), fun h5 => no (fun q => ?_), fun h5 => ?_⟩
        · rcases ro_s.mp q.2 with h | ⟨_, h | ⟨h, _⟩⟩
          · omega
          · omega
          · rw [oM_14, h5] at h; exact absurd h (by decide)
        · have hyes : oM μ (s p - 14) 14 := oM_14.mpr ((he _ (by omega)).resolve_left h5)
          refine ih (p + 1) (nI 1) (by omega) (Or.inr rfl) (fun q => k1 ⟨hx1, ro_s.mpr (Or.inr ⟨hhi, Or.inr ⟨hyes, q.2⟩⟩)⟩) (fun q => k0 (fun z => q ⟨rfl, ?_⟩))
          rcases ro_s.mp z.2 with h | ⟨_, h | ⟨_, h⟩⟩
          · omega
          · omega
          · exact h
theorem sp_empty {μ : tp_S} {r l : Nat} {s : Nat → Nat} (hw : rwM μ r l s) (he : eB μ) {K : Int32 → tp_S → Prop} {p : Nat} (hp : p ≤ l) (k1 : ro (oM μ) s (l - p) p 14 → K (nI 1) μ) (k0 : ¬ ro (oM μ) s (l - p) p 14 → K (nI 0) μ) : tp_W shM m_Mo_isEmptyFrom 0 [some (.ref 0), some (.int (nI r)), some (.int (nI p)), none, none, none] [] μ (tp_Qi K) :=
  bk_Mo_isEmptyFrom_0 _ _ (sp_empty_5 hw he (l - p) p (nI 1) (by omega) (Or.inr rfl) (fun q => k1 q.2) (fun q => k0 (fun z => q ⟨rfl, z⟩)))
