/-! longs by their bits -/
def lb (w : Int64) (i : Nat) : Bool := w.toBitVec.getLsbD i
theorem lb_ext {x y : Int64} (h : ∀ i, i < 64 → lb x i = lb y i) : x = y := Int64.toBitVec_inj.mp (BitVec.eq_of_getLsbD_eq (fun i hi => h i hi))
theorem lb_or (x y : Int64) (i : Nat) : lb (x ||| y) i = (lb x i || lb y i) := by unfold lb; rw [Int64.toBitVec_or, BitVec.getLsbD_or]
theorem lb_and (x y : Int64) (i : Nat) : lb (x &&& y) i = (lb x i && lb y i) := by unfold lb; rw [Int64.toBitVec_and, BitVec.getLsbD_and]
theorem lb_big {x : Int64} {i : Nat} (h : 64 ≤ i) : lb x i = false := BitVec.getLsbD_of_ge _ _ h
theorem lb_0 (i : Nat) : lb 0 i = false := BitVec.getLsbD_zero
theorem lc_sl : ∀ n, n < 64 → (((nI n).toInt64 &&& 63).toBitVec.smod 64).toNat = n := by decide +kernel
theorem lc_su : ∀ n, n < 64 → (((nI n).toInt64.toUInt64 &&& Int64.toUInt64 63).toBitVec % 64).toNat = n := by decide +kernel
theorem lb_shl (n : Nat) (hn : n < 64) (x : Int64) {i : Nat} (hi : i < 64) : lb (x <<< ((nI n).toInt64 &&& 63)) i = (decide (n ≤ i) && lb x (i - n)) := by
  unfold lb
  rw [Int64.toBitVec_shiftLeft]
  show (x.toBitVec <<< (((nI n).toInt64 &&& 63).toBitVec.smod 64).toNat).getLsbD i = _
  rw [lc_sl n hn, BitVec.getLsbD_shiftLeft]
  rcases Nat.lt_or_ge i n with h | h
  · simp [h, Nat.not_le.mpr h]
  · simp [hi, h, Nat.not_lt.mpr h]
theorem lb_ushr (n : Nat) (hn : n < 64) (x : Int64) (i : Nat) : lb ((x.toUInt64 >>> ((nI n).toInt64.toUInt64 &&& Int64.toUInt64 63)).toInt64) i = lb x (n + i) := by
  show (x.toUInt64 >>> ((nI n).toInt64.toUInt64 &&& Int64.toUInt64 63)).toBitVec.getLsbD i = x.toUInt64.toBitVec.getLsbD (n + i)
  rw [UInt64.toBitVec_shiftRight]
  show (x.toUInt64.toBitVec >>> (((nI n).toInt64.toUInt64 &&& Int64.toUInt64 63).toBitVec % 64).toNat).getLsbD i = _
  rw [lc_su n hn, BitVec.getLsbD_ushiftRight]
theorem lb_1 : ∀ i, i < 64 → lb 1 i = decide (i = 0) := by decide +kernel
theorem lb_pow (n : Nat) (hn : n < 64) {i : Nat} (hi : i < 64) : lb ((1 : Int64) <<< ((nI n).toInt64 &&& 63)) i = decide (i = n) := by
  rw [lb_shl n hn _ hi, lb_1 (i - n) (by omega)]
  by_cases h : i = n
  · subst h; simp
  · by_cases h2 : n ≤ i
    · simp [h, h2]; omega
    · simp [h, h2]
theorem lb_nz {x : Int64} : x = 0 ↔ ∀ i, i < 64 → lb x i = false := by
  constructor
  · rintro rfl i _; exact lb_0 i
  · intro h; exact lb_ext (fun i hi => by rw [h i hi, lb_0])
theorem lcmp_0 {x y : Int64} : lg_cmp x y = 0 ↔ x = y := by
  unfold lg_cmp
  by_cases h1 : x > y
  · rw [if_pos h1]
    constructor
    · intro h; exact absurd h (by decide)
    · intro h
      subst h
      exact absurd h1 (by
        rw [gt_iff_lt, Int64.lt_iff_toInt_lt]; omega)
  · rw [if_neg h1]
    by_cases h2 : x = y
    · rw [if_pos h2]; exact ⟨fun _ => h2, fun _ => rfl⟩
    · rw [if_neg h2]; exact ⟨fun h => absurd h (by decide), fun h => absurd h h2⟩
/-! sets of items: three longs a row -/
def ib (σ : tp_S) (c row i : Nat) : Prop := lb (σ.2 c (3 * row + i / 64)) (i % 64) = true
theorem sl_w {σ : tp_S} {a j : Nat} {x : Int64} {b k : Nat} : (tp_sl σ a j x).2 b k = if b = a ∧ k = j then x else σ.2 b k := by
  rw [sl_2]
  by_cases h : b = a
  · subst h; by_cases h2 : k = j <;> simp [h2]
  · simp [h]
theorem ib_mark {σ : tp_S} {c row item : Nat} (hi : item < 192) {row' i' : Nat} (h' : i' < 192) : ib (tp_sl σ c (row * 3 + item / 64) (σ.2 c (row * 3 + item / 64) ||| ((1 : Int64) <<< ((nI (item % 64)).toInt64 &&& 63)))) c row' i' ↔ (ib σ c row' i' ∨ (row' = row ∧ i' = item)) := by
  unfold ib
  by_cases e : 3 * row' + i' / 64 = row * 3 + item / 64
  · have h1 : row' = row := by omega
    have h2 : i' / 64 = item / 64 := by omega
    rw [e, sl_at, lb_or, lb_pow (item % 64) (Nat.mod_lt _ (by decide)) (Nat.mod_lt _ (by decide))]
    simp only [Bool.or_eq_true, decide_eq_true_eq]
    rw [← e]
    constructor
    · rintro (h | h)
      · exact Or.inl h
      · exact Or.inr ⟨h1, by omega⟩
    · rintro (h | h)
      · exact Or.inl h
      · exact Or.inr (by rw [h.2])
  · rw [sl_nj e]
    constructor
    · exact Or.inl
    · rintro (h | ⟨rfl, rfl⟩)
      · exact h
      · exact absurd (by omega) e
theorem sp_mark12 {σ : tp_S} {row item : Nat} (hr : row < 22) (hi : item < 192) {K : tp_S → Prop} (k : ∀ τ, ke [12] σ τ → (∀ row' i', i' < 192 → (ib τ 12 row' i' ↔ (ib σ 12 row' i' ∨ (row' = row ∧ i' = item)))) → K τ) : tp_W shC m_St_mark 0 [some (.ref 12), some (.int (nI row)), some (.int (nI item))] [] σ (tp_Qv K) := by
  refine bk_St_mark_12_0 _ _ ?_
  rw [pk_rem (by omega) (by decide) (by decide), pk_div (by omega) (by decide) (by decide), pk_mul, nI_add, nI_clamp (by omega)]
  exact ⟨by decide, vp_in_nI (by omega) (by decide), by decide, vp_in_nI (by omega) (by decide), k _ (ke_sl (ke_rf _ _) (by decide)) (fun row' i' h' => ib_mark hi h')⟩
theorem sp_mark13 {σ : tp_S} {row item : Nat} (hr : row < 8) (hi : item < 192) {K : tp_S → Prop} (k : ∀ τ, ke [13] σ τ → (∀ row' i', i' < 192 → (ib τ 13 row' i' ↔ (ib σ 13 row' i' ∨ (row' = row ∧ i' = item)))) → K τ) : tp_W shC m_St_mark 0 [some (.ref 13), some (.int (nI row)), some (.int (nI item))] [] σ (tp_Qv K) := by
  refine bk_St_mark_13_0 _ _ ?_
  rw [pk_rem (by omega) (by decide) (by decide), pk_div (by omega) (by decide) (by decide), pk_mul, nI_add, nI_clamp (by omega)]
  exact ⟨by decide, vp_in_nI (by omega) (by decide), by decide, vp_in_nI (by omega) (by decide), k _ (ke_sl (ke_rf _ _) (by decide)) (fun row' i' h' => ib_mark hi h')⟩
theorem sp_mark14 {σ : tp_S} {item : Nat} (hi : item < 192) {K : tp_S → Prop} (k : ∀ τ, ke [14] σ τ → (∀ row' i', i' < 192 → (ib τ 14 row' i' ↔ (ib σ 14 row' i' ∨ (row' = 0 ∧ i' = item)))) → K τ) : tp_W shC m_St_mark 0 [some (.ref 14), some (.int (nI 0)), some (.int (nI item))] [] σ (tp_Qv K) := by
  refine bk_St_mark_14_0 _ _ ?_
  rw [pk_rem (by omega) (by decide) (by decide), pk_div (by omega) (by decide) (by decide), pk_mul, nI_add, nI_clamp (by omega)]
  exact ⟨by decide, vp_in_nI (by omega) (by decide), by decide, vp_in_nI (by omega) (by decide), k _ (ke_sl (ke_rf _ _) (by decide)) (fun row' i' h' => ib_mark hi h')⟩
theorem sp_fillL12 {σ : tp_S} {K : tp_S → Prop} (k : ∀ τ, ke [12] σ τ → (∀ j, j < 66 → τ.2 12 j = 0) → K τ) : tp_W shC m_JA_fillL 0 [some (.ref 12), some (.long (0 : Int64)), none, none, none] [] σ (tp_Qv K) := by
  refine bk_JA_fillL_12_0 _ ?_
  suffices h : ∀ (n i : Nat) (τ : tp_S), i + n = 66 → ke [12] σ τ → (∀ j, j < i → τ.2 12 j = 0) → tp_W shC m_JA_fillL 6 [some (.ref 12), some (.long (0 : Int64)), none, some (.int (nI i)), some (.int (nI 66))] [] τ (tp_Qv K) from h 66 0 σ rfl (ke_rf _ _) (fun j hj => absurd hj (Nat.not_lt_zero j))
  intro n
  induction n with
  | zero =>
    intro i τ hi hk hz
    refine bk_JA_fillL_12_6 _ _ _ ⟨fun _ => k τ hk (fun j hj => hz j (by omega)), fun h => absurd (nI_le (by omega) (by omega)) h⟩
  | succ n ih =>
    intro i τ hi hk hz
    refine bk_JA_fillL_12_6 _ _ _ ⟨fun h => absurd ((nI_leI (by omega) (by omega)).mp h) (by omega), fun _ => ⟨vp_in_nI (by omega) (by decide), ?_⟩⟩
    rw [nI_clamp (by omega), nI_add]
    refine ih (i + 1) _ (by omega) (ke_sl hk (by decide)) (fun j hj => ?_)
    by_cases q : j = i
    · subst q; exact sl_at
    · rw [sl_nj q]; exact hz j (by omega)
theorem sp_fillL13 {σ : tp_S} {K : tp_S → Prop} (k : ∀ τ, ke [13] σ τ → (∀ j, j < 24 → τ.2 13 j = 0) → K τ) : tp_W shC m_JA_fillL 0 [some (.ref 13), some (.long (0 : Int64)), none, none, none] [] σ (tp_Qv K) := by
  refine bk_JA_fillL_13_0 _ ?_
  suffices h : ∀ (n i : Nat) (τ : tp_S), i + n = 24 → ke [13] σ τ → (∀ j, j < i → τ.2 13 j = 0) → tp_W shC m_JA_fillL 6 [some (.ref 13), some (.long (0 : Int64)), none, some (.int (nI i)), some (.int (nI 24))] [] τ (tp_Qv K) from h 24 0 σ rfl (ke_rf _ _) (fun j hj => absurd hj (Nat.not_lt_zero j))
  intro n
  induction n with
  | zero =>
    intro i τ hi hk hz
    refine bk_JA_fillL_13_6 _ _ _ ⟨fun _ => k τ hk (fun j hj => hz j (by omega)), fun h => absurd (nI_le (by omega) (by omega)) h⟩
  | succ n ih =>
    intro i τ hi hk hz
    refine bk_JA_fillL_13_6 _ _ _ ⟨fun h => absurd ((nI_leI (by omega) (by omega)).mp h) (by omega), fun _ => ⟨vp_in_nI (by omega) (by decide), ?_⟩⟩
    rw [nI_clamp (by omega), nI_add]
    refine ih (i + 1) _ (by omega) (ke_sl hk (by decide)) (fun j hj => ?_)
    by_cases q : j = i
    · subst q; exact sl_at
    · rw [sl_nj q]; exact hz j (by omega)
theorem sp_fillL14 {σ : tp_S} {K : tp_S → Prop} (k : ∀ τ, ke [14] σ τ → (∀ j, j < 3 → τ.2 14 j = 0) → K τ) : tp_W shC m_JA_fillL 0 [some (.ref 14), some (.long (0 : Int64)), none, none, none] [] σ (tp_Qv K) := by
  refine bk_JA_fillL_14_0 _ ?_
  suffices h : ∀ (n i : Nat) (τ : tp_S), i + n = 3 → ke [14] σ τ → (∀ j, j < i → τ.2 14 j = 0) → tp_W shC m_JA_fillL 6 [some (.ref 14), some (.long (0 : Int64)), none, some (.int (nI i)), some (.int (nI 3))] [] τ (tp_Qv K) from h 3 0 σ rfl (ke_rf _ _) (fun j hj => absurd hj (Nat.not_lt_zero j))
  intro n
  induction n with
  | zero =>
    intro i τ hi hk hz
    refine bk_JA_fillL_14_6 _ _ _ ⟨fun _ => k τ hk (fun j hj => hz j (by omega)), fun h => absurd (nI_le (by omega) (by omega)) h⟩
  | succ n ih =>
    intro i τ hi hk hz
    refine bk_JA_fillL_14_6 _ _ _ ⟨fun h => absurd ((nI_leI (by omega) (by omega)).mp h) (by omega), fun _ => ⟨vp_in_nI (by omega) (by decide), ?_⟩⟩
    rw [nI_clamp (by omega), nI_add]
    refine ih (i + 1) _ (by omega) (ke_sl hk (by decide)) (fun j hj => ?_)
    by_cases q : j = i
    · subst q; exact sl_at
    · rw [sl_nj q]; exact hz j (by omega)
theorem sp_fillL16 {σ : tp_S} {K : tp_S → Prop} (k : ∀ τ, ke [16] σ τ → (∀ j, j < 4300 → τ.2 16 j = 0) → K τ) : tp_W shC m_JA_fillL 0 [some (.ref 16), some (.long (0 : Int64)), none, none, none] [] σ (tp_Qv K) := by
  refine bk_JA_fillL_16_0 _ ?_
  suffices h : ∀ (n i : Nat) (τ : tp_S), i + n = 4300 → ke [16] σ τ → (∀ j, j < i → τ.2 16 j = 0) → tp_W shC m_JA_fillL 6 [some (.ref 16), some (.long (0 : Int64)), none, some (.int (nI i)), some (.int (nI 4300))] [] τ (tp_Qv K) from h 4300 0 σ rfl (ke_rf _ _) (fun j hj => absurd hj (Nat.not_lt_zero j))
  intro n
  induction n with
  | zero =>
    intro i τ hi hk hz
    refine bk_JA_fillL_16_6 _ _ _ ⟨fun _ => k τ hk (fun j hj => hz j (by omega)), fun h => absurd (nI_le (by omega) (by omega)) h⟩
  | succ n ih =>
    intro i τ hi hk hz
    refine bk_JA_fillL_16_6 _ _ _ ⟨fun h => absurd ((nI_leI (by omega) (by omega)).mp h) (by omega), fun _ => ⟨vp_in_nI (by omega) (by decide), ?_⟩⟩
    rw [nI_clamp (by omega), nI_add]
    refine ih (i + 1) _ (by omega) (ke_sl hk (by decide)) (fun j hj => ?_)
    by_cases q : j = i
    · subst q; exact sl_at
    · rw [sl_nj q]; exact hz j (by omega)
theorem sp_fillI9 {σ : tp_S} {K : tp_S → Prop} {x : Int32} (k : ∀ τ, ke [9] σ τ → (∀ j, j < 2200 → τ.1 9 j = x) → K τ) : tp_W shC m_JA_fillI 0 [some (.ref 9), some (.int x), none, none] [] σ (tp_Qv K) := by
  refine bk_JA_fillI_9_0 _ ?_
  suffices h : ∀ (n i : Nat) (τ : tp_S), i + n = 2200 → ke [9] σ τ → (∀ j, j < i → τ.1 9 j = x) → tp_W shC m_JA_fillI 5 [some (.ref 9), some (.int x), some (.int (nI i)), some (.int (nI 2200))] [] τ (tp_Qv K) from h 2200 0 σ rfl (ke_rf _ _) (fun j hj => absurd hj (Nat.not_lt_zero j))
  intro n
  induction n with
  | zero =>
    intro i τ hi hk hz
    refine bk_JA_fillI_9_5 _ _ _ ⟨fun _ => k τ hk (fun j hj => hz j (by omega)), fun h => absurd (nI_le (by omega) (by omega)) h⟩
  | succ n ih =>
    intro i τ hi hk hz
    refine bk_JA_fillI_9_5 _ _ _ ⟨fun h => absurd ((nI_leI (by omega) (by omega)).mp h) (by omega), fun _ => ⟨vp_in_nI (by omega) (by decide), ?_⟩⟩
    rw [nI_clamp (by omega), nI_add]
    refine ih (i + 1) _ (by omega) (ke_si hk (by decide)) (fun j hj => ?_)
    by_cases q : j = i
    · subst q; exact si_at
    · rw [si_nj q]; exact hz j (by omega)
