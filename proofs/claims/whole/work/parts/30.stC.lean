/-! the candidate: a set of items -/
theorem sp_stands {σ : tp_S} {c : Nat} (hc : c < 22) {K : Int32 → tp_S → Prop} (k1 : (∃ i, i < 192 ∧ ib σ 14 0 i ∧ ib σ 12 c i) → K (nI 1) σ) (k0 : (¬ ∃ i, i < 192 ∧ ib σ 14 0 i ∧ ib σ 12 c i) → K (nI 0) σ) : tp_W shC m_St_candidateStandsBefore 0 [some (.ref 10), some (.int (nI c)), none] [] σ (tp_Qi K) := by
  refine bk_St_candidateStandsBefore_0 _ ?_
  suffices h : ∀ (n w : Nat), w + n = 3 → (∀ i, i < 64 * w → ¬ (ib σ 14 0 i ∧ ib σ 12 c i)) → tp_W shC m_St_candidateStandsBefore 2 [some (.ref 10), some (.int (nI c)), some (.int (nI w))] [] σ (tp_Qi K) from h 3 0 rfl (fun i hi => by omega)
  intro n
  induction n with
  | zero =>
    intro w hw hno
    refine bk_St_candidateStandsBefore_2 _ _ ⟨fun _ => ⟨bo_0, k0 (fun ⟨i, h1, h2⟩ => hno i (by omega) h2)⟩, fun h => absurd (nI_le (by omega) (by omega)) h⟩
  | succ n ih =>
    intro w hw hno
    refine bk_St_candidateStandsBefore_2 _ _ ⟨fun h => absurd ((nI_leI (by omega) (by omega)).mp h) (by omega), fun _ => ?_⟩
    rw [pk_mul, nI_add, nI_add, nI_clamp (by omega), nI_clamp (by omega), lcmp_0]
    refine ⟨vp_in_nI (by omega) (by decide), vp_in_nI (by omega) (by decide), fun h => ih (w + 1) (by omega) (fun i hi hb => ?_), fun h => ⟨bo_1, k1 ?_⟩⟩
    · by_cases q : i < 64 * w
      · exact hno i q hb
      · rw [lb_nz] at h
        have := h (i % 64) (by omega)
        rw [lb_and] at this
        obtain ⟨b1, b2⟩ := hb
        unfold ib at b1 b2
        rw [show 3 * 0 + i / 64 = w by omega] at b1
        rw [show 3 * c + i / 64 = c * 3 + w by omega] at b2
        rw [b1, b2] at this
        cases this
    · have : ∃ j, j < 64 ∧ lb (σ.2 14 w &&& σ.2 12 (c * 3 + w)) j = true := by
        refine Classical.byContradiction (fun hn => h (lb_nz.mpr (fun j hj => ?_)))
        cases e : lb (σ.2 14 w &&& σ.2 12 (c * 3 + w)) j with
        | false => rfl
        | true => exact absurd ⟨j, hj, e⟩ hn
      obtain ⟨j, hj, e⟩ := this
      rw [lb_and, Bool.and_eq_true] at e
      refine ⟨64 * w + j, by omega, ?_, ?_⟩
      · unfold ib
        rw [show 3 * 0 + (64 * w + j) / 64 = w by omega, show (64 * w + j) % 64 = j by omega]; exact e.1
      · unfold ib
        rw [show 3 * c + (64 * w + j) / 64 = c * 3 + w by omega, show (64 * w + j) % 64 = j by omega]; exact e.2
def cd (σ : tp_S) (i : Nat) : Prop := i < 192 ∧ ib σ 14 0 i
theorem sp_complete {g : Gm} {σ : tp_S} (hw : gW g) (hmk : mkB g σ) (hbr : brG g σ) {K : tp_S → Prop} (k : ∀ τ, ke [14] σ τ → (∀ i, cd τ i ↔ Cl g (cd σ) i) → K τ) : tp_W shC m_St_complete 0 [some (.ref 10), none, none] [] σ (tp_Qv K) := by
  have hn24 := hw.1
  refine bk_St_complete_0 ?_
  suffices h : ∀ (n kk : Nat) (τ : tp_S), kk + n = 8 → ke [14] σ τ → (∀ i, cd σ i → cd τ i) → (∀ i, cd τ i → Cl g (cd σ) i) → (∀ kd, kd < kk → (∃ i, cd τ i ∧ bcs g i (14 + kd)) → ∀ r, r < gn g → Rk g kd (gk g r) → cd τ (7 * r)) → tp_W shC m_St_complete 2 [some (.ref 10), some (.int (nI kk)), none] [] τ (tp_Qv K) from
    h 8 0 σ rfl (ke_rf _ _) (fun _ h => h) (fun _ h => Cl_in h) (fun kd h => absurd h (Nat.not_lt_zero kd))
  intro n
  induction n with
  | zero =>
    intro kk τ hkk hk h1 h2 h3
    refine bk_St_complete_2 _ ⟨fun _ => k τ hk (fun i => Cl_eq h1 (fun i r hi hr hb => ?_) h2 i), fun h => absurd (nI_le (by omega) (by omega)) h⟩
    have w1 := (hw.2 r hr).1
    exact h3 (gk g r) (by omega) ⟨i, hi, hb⟩ r hr (Rk_rf _ _)
  | succ n ih =>
    intro kk τ hkk hk h1 h2 h3
    have e12 : ∀ c i, ib τ 12 c i ↔ ib σ 12 c i := fun c i => ib_ke hk (by decide) c i
    have e13 : ∀ c i, ib τ 13 c i ↔ ib σ 13 c i := fun c i => ib_ke hk (by decide) c i
    refine bk_St_complete_2 _ ⟨fun h => absurd ((nI_leI (by omega) (by omega)).mp h) (by omega), fun _ => ?_⟩
    rw [nI_add, nI_add]
    have bt : ∀ i, i < 192 → (ib τ 12 (14 + kk) i ↔ bcs g i (14 + kk)) := fun i hi => (e12 _ _).trans (hmk (14 + kk) i (by omega) hi)
    refine sp_stands (by omega) (fun hex => ⟨fun h => absurd h n1_0, fun _ => ?_⟩) (fun hno => ⟨fun _ => ih (kk + 1) τ (by omega) hk h1 h2 (fun kd hkd hx => ?_), fun h => absurd rfl h⟩)
    · obtain ⟨i0, hi0, b1, b2⟩ := hex
      have b2' := (bt i0 hi0).mp b2
      -- the words are joined
      suffices h : ∀ (m w : Nat) (υ : tp_S), w + m = 3 → ke [14] τ υ → (∀ j, υ.2 14 j = if j < w then τ.2 14 j ||| τ.2 13 (3 * kk + j) else τ.2 14 j) → tp_W shC m_St_complete 21 [some (.ref 10), some (.int (nI kk)), some (.int (nI w))] [] υ (tp_Qv K) from
        h 3 0 τ rfl (ke_rf _ _) (fun j => by rw [if_neg (by omega)])
      intro m
      induction m with
      | zero =>
        intro w υ hw3 hku hv
        have hw3' : w = 3 := by omega
        subst hw3'
        have cdu : ∀ i, cd υ i ↔ (cd τ i ∨ (i < 192 ∧ ib σ 13 kk i)) := by
          intro i
          unfold cd ib
          constructor
          · rintro ⟨hi, h⟩
            rw [hv, if_pos (by omega), lb_or, Bool.or_eq_true] at h
            rcases h with h | h
            · exact Or.inl ⟨hi, h⟩
            · refine Or.inr ⟨hi, ?_⟩
              rw [hk.2 13 (by decide)] at h
              rwa [show 3 * kk + (3 * 0 + i / 64) = 3 * kk + i / 64 by omega] at h
          · rintro (⟨hi, h⟩ | ⟨hi, h⟩)
            · refine ⟨hi, ?_⟩
              rw [hv, if_pos (by omega), lb_or, h]; rfl
            · refine ⟨hi, ?_⟩
              rw [hv, if_pos (by omega), lb_or, hk.2 13 (by decide), show 3 * kk + (3 * 0 + i / 64) = 3 * kk + i / 64 by omega, h]
              simp
        have br : ∀ i, i < 192 → (ib σ 13 kk i ↔ ∃ r, r < gn g ∧ Rk g kk (gk g r) ∧ i = 7 * r) := fun i hi => hbr kk i (by omega) hi
        refine bk_St_complete_21 _ _ ⟨fun _ => ?_, fun h => absurd (nI_le (by omega) (by omega)) h⟩
        rw [nI_add]
        refine ih (kk + 1) υ (by omega) (ke_tr hk hku) (fun i h => (cdu i).mpr (Or.inl (h1 i h))) (fun i h => ?_) (fun kd hkd hx r hr hR => ?_)
        · rcases (cdu i).mp h with h | ⟨hi, h⟩
          · exact h2 i h
          · obtain ⟨r, a1, a2, rfl⟩ := (br i hi).mp h
            exact cCl_Rk hw (Cl_cl g _) (h2 i0 ⟨hi0, b1⟩) b2' a2 r a1 rfl
        · -- kd stands first, or did before
          have inbr : Rk g kk kd → cd υ (7 * r) := fun z => (cdu _).mpr (Or.inr ⟨by omega, (br _ (by omega)).mpr ⟨r, hr, Rk_tr z hR, rfl⟩⟩)
          by_cases e : kd = kk
          · exact inbr (by rw [e]; exact Rk_rf _ _)
          · obtain ⟨i, hi, hb⟩ := hx
            rcases (cdu i).mp hi with hi | ⟨hi, hi'⟩
            · exact (cdu _).mpr (Or.inl (h3 kd (by omega) ⟨i, hi, hb⟩ r hr hR))
            · obtain ⟨r2, a1, a2, a3⟩ := (br i hi).mp hi'
              have := bcs_at hw (r := r2) (p := 0) (by omega) (by rw [a3] at hb; exact hb)
              rw [rl_c (by omega), rs_c (by omega)] at this
              exact inbr (Rk_st a2 ⟨r2, a1, rfl, this.2.1, this.2.2⟩)
      | succ m ihm =>
        intro w υ hw3 hku hv
        refine bk_St_complete_21 _ _ ⟨fun h => absurd ((nI_leI (by omega) (by omega)).mp h) (by omega), fun _ => ?_⟩
        rw [pk_mul, nI_add, nI_add, nI_clamp (by omega), nI_clamp (by omega)]
        refine ⟨vp_in_nI (by omega) (by decide), vp_in_nI (by omega) (by decide), vp_in_nI (by omega) (by decide), ihm (w + 1) _ (by omega) (ke_sl hku (by decide)) (fun j => ?_)⟩
        by_cases e : j = w
        · subst e
          rw [sl_at, if_pos (by omega), hv, if_neg (by omega), hku.2 13 (by decide), show kk * 3 + j = 3 * kk + j by omega]
        · rw [sl_nj e, hv]
          by_cases c : j < w
          · rw [if_pos c, if_pos (by omega)]
          · rw [if_neg c, if_neg (by omega)]
    · by_cases e : kd = kk
      · subst e
        obtain ⟨i, hi, hb⟩ := hx
        exact absurd ⟨i, hi.1, hi.2, (bt i hi.1).mpr hb⟩ hno
      · exact h3 kd (by omega) hx
/-- the items before a column, one place further -/
def adv (g : Gm) (S : Nat → Prop) (c i : Nat) : Prop := ∃ j, i = j + 1 ∧ S j ∧ bcs g j c
theorem sp_step {g : Gm} {σ : tp_S} (hw : gW g) (hmk : mkB g σ) {q c : Nat} (hq : q < 100) (hc : c < 22) {S : Nat → Prop} (hS : ∀ i, S i ↔ (i < 192 ∧ ib σ 11 q i)) {K : Int32 → tp_S → Prop} (k : ∀ τ (x : Bool), ke [14] σ τ → (x = true ↔ ∃ i, adv g S c i) → (∀ i, cd τ i ↔ adv g S c i) → K (bI x) τ) : tp_W shC m_St_step 0 [some (.ref 10), some (.int (nI q)), some (.int (nI c)), none, none, none, none, none, none] [] σ (tp_Qi K) := by
  refine bk_St_step_0 _ _ ?_
  -- the word w of what stands before c
  let sd : Nat → Int64 := fun w => σ.2 11 (q * 3 + w) &&& σ.2 12 (c * 3 + w)
  have sdb : ∀ j, j < 192 → (lb (sd (j / 64)) (j % 64) = true ↔ (S j ∧ bcs g j c)) := by
    intro j hj
    show lb (σ.2 11 (q * 3 + j / 64) &&& σ.2 12 (c * 3 + j / 64)) (j % 64) = true ↔ _
    rw [lb_and, Bool.and_eq_true, hS j, ← hmk c j hc hj]
    unfold ib
    rw [show 3 * q + j / 64 = q * 3 + j / 64 by omega, show 3 * c + j / 64 = c * 3 + j / 64 by omega]
    constructor
    · intro h; exact ⟨⟨hj, h.1⟩, h.2⟩
    · intro h; exact ⟨h.1.2, h.2⟩
  suffices h : ∀ (n w : Nat) (cy : Int64) (x : Bool) (τ : tp_S), w + n = 3 → ke [14] σ τ → (∀ b, b < 64 → (lb cy b = true ↔ (b = 0 ∧ 0 < w ∧ lb (sd (w - 1)) 63 = true))) → (x = true ↔ ∃ v, v < w ∧ ¬ sd v = 0) → (∀ v, v < w → ∀ b, b < 64 → (lb (τ.2 14 v) b = true ↔ ((1 ≤ b ∧ lb (sd v) (b - 1) = true) ∨ (b = 0 ∧ 0 < v ∧ lb (sd (v - 1)) 63 = true)))) → tp_W shC m_St_step 8 [some (.ref 10), some (.int (nI q)), some (.int (nI c)), some (.long cy), none, some (.int (bI x)), some (.int (nI w)), none, none] [] τ (tp_Qi K) from
    h 3 0 0 false σ rfl (ke_rf _ _) (fun b hb => by rw [lb_0]; exact ⟨fun z => (by cases z), fun z => absurd z.2.1 (Nat.lt_irrefl 0)⟩) ⟨fun z => (by cases z), fun ⟨v, z, _⟩ => absurd z (Nat.not_lt_zero v)⟩ (fun v hv => absurd hv (Nat.not_lt_zero v))
  intro n
  induction n with
  | zero =>
    intro w cy x τ hw3 hk hcy hx hbits
    have hw3' : w = 3 := by omega
    subst hw3'
    have cdi : ∀ i, cd τ i ↔ adv g S c i := by
      intro i
      unfold cd ib
      constructor
      · rintro ⟨hi, h⟩
        rw [show 3 * 0 + i / 64 = i / 64 by omega, hbits (i / 64) (by omega) (i % 64) (by omega)] at h
        rcases h with ⟨h1, h2⟩ | ⟨h1, h2, h3⟩
        · have := (sdb (i - 1) (by omega)).mp (by rw [show (i - 1) / 64 = i / 64 by omega, show (i - 1) % 64 = i % 64 - 1 by omega]; exact h2)
          exact ⟨i - 1, by omega, this.1, this.2⟩
        · have := (sdb (i - 1) (by omega)).mp (by rw [show (i - 1) / 64 = i / 64 - 1 by omega, show (i - 1) % 64 = 63 by omega]; exact h3)
          exact ⟨i - 1, by omega, this.1, this.2⟩
      · rintro ⟨j, rfl, h1, h2⟩
        have hj := (bcs_lt hw h2).1
        refine ⟨by omega, ?_⟩
        rw [show 3 * 0 + (j + 1) / 64 = (j + 1) / 64 by omega, hbits ((j + 1) / 64) (by omega) ((j + 1) % 64) (by omega)]
        have h := (sdb j (by omega)).mpr ⟨h1, h2⟩
        by_cases z : (j + 1) % 64 = 0
        · refine Or.inr ⟨z, by omega, ?_⟩
          rw [show (j + 1) / 64 - 1 = j / 64 by omega, show 63 = j % 64 by omega]; exact h
        · refine Or.inl ⟨by omega, ?_⟩
          rw [show (j + 1) / 64 = j / 64 by omega, show (j + 1) % 64 - 1 = j % 64 by omega]; exact h
    refine bk_St_step_8 _ _ _ _ _ ⟨fun _ => ⟨by cases x with
      | false => exact Or.inl rfl
      | true => exact Or.inr rfl, k τ x hk ?_ cdi⟩, fun h => absurd (nI_le (by omega) (by omega)) h⟩
    rw [hx]
    constructor
    · rintro ⟨v, hv, h⟩
      have : ∃ b, b < 64 ∧ lb (sd v) b = true := by
        refine Classical.byContradiction (fun hn => h (lb_nz.mpr (fun j hj => ?_)))
        cases e : lb (sd v) j with
        | false => rfl
        | true => exact absurd ⟨j, hj, e⟩ hn
      obtain ⟨b, hb, e⟩ := this
      have := (sdb (64 * v + b) (by omega)).mp (by rw [show (64 * v + b) / 64 = v by omega, show (64 * v + b) % 64 = b by omega]; exact e)
      exact ⟨64 * v + b + 1, 64 * v + b, rfl, this.1, this.2⟩
    · rintro ⟨i, j, rfl, h1, h2⟩
      have hj := (bcs_lt hw h2).1
      refine ⟨j / 64, by omega, fun z => ?_⟩
      have h := (sdb j (by omega)).mpr ⟨h1, h2⟩
      rw [z, lb_0] at h
      cases h
  | succ n ih =>
    intro w cy x τ hw3 hk hcy hx hbits
    refine bk_St_step_8 _ _ _ _ _ ⟨fun h => absurd ((nI_leI (by omega) (by omega)).mp h) (by omega), fun _ => ?_⟩
    have e11 : τ.2 11 = σ.2 11 := hk.2 11 (by decide)
    have e12 : τ.2 12 = σ.2 12 := hk.2 12 (by decide)
    rw [pk_mul, pk_mul, nI_add, nI_add, nI_add, nI_clamp (by omega), nI_clamp (by omega), nI_clamp (by omega), e11, e12]
    have go : ∀ (x' : Bool), (x' = true ↔ ∃ v, v < w + 1 ∧ ¬ sd v = 0) → tp_W shC m_St_step 8 [some (.ref 10), some (.int (nI q)), some (.int (nI c)), some (.long (Int64.toUInt64 (sd w) >>> ((Int32.toInt64 (nI 63)).toUInt64 &&& Int64.toUInt64 63)).toInt64), none, some (.int (bI x')), some (.int (nI (w + 1))), none, none] [] (tp_sl τ 14 w ((sd w <<< (Int32.toInt64 (nI 1) &&& 63)) ||| cy)) (tp_Qi K) := by
      intro x' hx'
      refine ih (w + 1) _ x' _ (by omega) (ke_sl hk (by decide)) (fun b hb => ?_) hx' (fun v hv b hb => ?_)
      · rw [lb_ushr 63 (by decide)]
        by_cases z : b = 0
        · subst z
          simp
        · rw [lb_big (by omega)]
          simp [z]
      · by_cases e : v = w
        · subst e
          rw [sl_at, lb_or, lb_shl 1 (by decide) _ hb]
          simp only [Bool.or_eq_true, Bool.and_eq_true, decide_eq_true_eq]
          rw [hcy b hb]
        · rw [sl_nj e]
          exact hbits v (by omega) b hb
    refine ⟨vp_in_nI (by omega) (by decide), vp_in_nI (by omega) (by decide), vp_in_nI (by omega) (by decide), fun h => ?_, fun h => ?_⟩
    · have hxt : x = true := by
        rw [bI_0] at h
        simpa using h
      refine go true ⟨fun _ => ?_, fun _ => rfl⟩
      obtain ⟨v, hv, hz⟩ := hx.mp hxt
      exact ⟨v, by omega, hz⟩
    · rw [bI_0] at h
      have hall : ∀ v, v < w → sd v = 0 := fun v hv => Classical.byContradiction (fun z => by
        have := hx.mpr ⟨v, hv, z⟩
        rw [h] at this; cases this)
      rw [lcmp_0]
      refine ⟨fun z => go false ⟨fun y => (by cases y), fun ⟨v, hv, hz⟩ => ?_⟩, fun z => go true ⟨fun _ => ⟨w, by omega, z⟩, fun _ => rfl⟩⟩
      by_cases e : v = w
      · subst e; exact absurd z hz
      · exact absurd (hall v (by omega)) hz
