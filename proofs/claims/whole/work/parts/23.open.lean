/-! bits of an int (out of kit/laws/BITS.to-paste), and of constants -/
def bt (x : Int32) (i : Nat) : Bool := x.toBitVec.getLsbD i
theorem b_ext {x y : Int32} (h : ∀ i, i < 32 → bt x i = bt y i) : x = y := Int32.toBitVec_inj.mp (BitVec.eq_of_getLsbD_eq (fun i hi => h i hi))
theorem b_or (x y : Int32) (i : Nat) : bt (x ||| y) i = (bt x i || bt y i) := by unfold bt; rw [Int32.toBitVec_or, BitVec.getLsbD_or]
theorem b_and (x y : Int32) (i : Nat) : bt (x &&& y) i = (bt x i && bt y i) := by unfold bt; rw [Int32.toBitVec_and, BitVec.getLsbD_and]
theorem b_xor (x y : Int32) (i : Nat) : bt (x ^^^ y) i = (bt x i ^^ bt y i) := by unfold bt; rw [Int32.toBitVec_xor, BitVec.getLsbD_xor]
theorem b_big {x : Int32} {i : Nat} (h : 32 ≤ i) : bt x i = false := BitVec.getLsbD_of_ge _ _ h
theorem b_255 (i : Nat) : bt 255 i = decide (i < 8) := by
  rcases Nat.lt_or_ge i 32 with h | h
  · exact (by decide +kernel : ∀ i, i < 32 → bt 255 i = decide (i < 8)) i h
  · rw [b_big h, decide_eq_false (by omega)]
theorem b_65535 (i : Nat) : bt 65535 i = decide (i < 16) := by
  rcases Nat.lt_or_ge i 32 with h | h
  · exact (by decide +kernel : ∀ i, i < 32 → bt 65535 i = decide (i < 16)) i h
  · rw [b_big h, decide_eq_false (by omega)]
theorem b_m1 : ∀ i, i < 32 → bt (-1) i = true := by decide +kernel
theorem b_0 (i : Nat) : bt 0 i = false := BitVec.getLsbD_zero
theorem s_l : ∀ n, n < 32 → ((nI n &&& 31).toBitVec.smod 32).toNat = n := by decide +kernel
theorem s_u : ∀ n, n < 32 → (((nI n).toUInt32 &&& Int32.toUInt32 31).toBitVec % 32).toNat = n := by decide +kernel
theorem b_shl (n : Nat) (hn : n < 32) (x : Int32) {i : Nat} (hi : i < 32) : bt (x <<< (nI n &&& 31)) i = (decide (n ≤ i) && bt x (i - n)) := by
  unfold bt
  rw [Int32.toBitVec_shiftLeft]
  show (x.toBitVec <<< ((nI n &&& 31).toBitVec.smod 32).toNat).getLsbD i = _
  rw [s_l n hn, BitVec.getLsbD_shiftLeft]
  rcases Nat.lt_or_ge i n with h | h
  · simp [h, Nat.not_le.mpr h]
  · simp [hi, h, Nat.not_lt.mpr h]
theorem b_ushr (n : Nat) (hn : n < 32) (x : Int32) (i : Nat) : bt ((x.toUInt32 >>> ((nI n).toUInt32 &&& Int32.toUInt32 31)).toInt32) i = bt x (n + i) := by
  show (x.toUInt32 >>> ((nI n).toUInt32 &&& Int32.toUInt32 31)).toBitVec.getLsbD i = x.toUInt32.toBitVec.getLsbD (n + i)
  rw [UInt32.toBitVec_shiftRight]
  show (x.toUInt32.toBitVec >>> (((nI n).toUInt32 &&& Int32.toUInt32 31).toBitVec % 32).toNat).getLsbD i = _
  rw [s_u n hn, BitVec.getLsbD_ushiftRight]
theorem b_sshr (n : Nat) (hn : n < 32) (x : Int32) {i : Nat} (hi : i < 32) : bt (x >>> (nI n &&& 31)) i = if n + i < 32 then bt x (n + i) else bt x 31 := by
  unfold bt
  rw [Int32.toBitVec_shiftRight]
  show (x.toBitVec.sshiftRight ((nI n &&& 31).toBitVec.smod 32).toNat).getLsbD i = _
  rw [s_l n hn, BitVec.getLsbD_sshiftRight, BitVec.msb_eq_getLsbD_last]
  simp [hi]
theorem b_shl8 (x : Int32) {i : Nat} (hi : i < 32) : bt (x <<< ((8 : Int32) &&& 31)) i = (decide (8 ≤ i) && bt x (i - 8)) := b_shl 8 (by omega) x hi
theorem b_shl16 (x : Int32) {i : Nat} (hi : i < 32) : bt (x <<< ((16 : Int32) &&& 31)) i = (decide (16 ≤ i) && bt x (i - 16)) := b_shl 16 (by omega) x hi
theorem b_shl24 (x : Int32) {i : Nat} (hi : i < 32) : bt (x <<< ((24 : Int32) &&& 31)) i = (decide (24 ≤ i) && bt x (i - 24)) := b_shl 24 (by omega) x hi
theorem b_sshr8 (x : Int32) {i : Nat} (hi : i < 32) : bt (x >>> ((8 : Int32) &&& 31)) i = if 8 + i < 32 then bt x (8 + i) else bt x 31 := b_sshr 8 (by omega) x hi
theorem b_pow (n : Nat) (hn : n < 32) {i : Nat} (hi : i < 32) : bt (nI 1 <<< (nI n &&& 31)) i = decide (i = n) := by
  rw [b_shl n hn _ hi]
  have h1 : ∀ j, j < 32 → bt (nI 1) j = decide (j = 0) := by decide +kernel
  rw [h1 (i - n) (by omega)]
  by_cases h : i = n
  · subst h; simp
  · by_cases h2 : n ≤ i
    · simp [h, h2]; omega
    · simp [h, h2]
theorem b_e14 {i : Nat} (hi : i < 32) : bt (nI 16384) i = decide (i = 14) := (by decide +kernel : ∀ i, i < 32 → bt (nI 16384) i = decide (i = 14)) i hi
theorem b_all {i : Nat} (hi : i < 32) : bt (nI 16383) i = decide (i < 14) := (by decide +kernel : ∀ i, i < 32 → bt (nI 16383) i = decide (i < 14)) i hi
theorem b_nz {x : Int32} : x = 0 ↔ ∀ i, i < 32 → bt x i = false := by
  constructor
  · rintro rfl i _; exact b_0 i
  · intro h; exact b_ext (fun i hi => by rw [h i hi, b_0])
theorem b_t14 (x : Int32) : (x &&& nI 16384) = 0 ↔ bt x 14 = false := by
  rw [b_nz]
  constructor
  · intro h
    have := h 14 (by decide)
    rw [b_and, b_e14 (by decide)] at this
    simpa using this
  · intro h i hi
    rw [b_and, b_e14 hi]
    by_cases e : i = 14
    · subst e; simp [h]
    · simp [e]
/-! what rows can begin with: the least sets -/
def ro (O : Nat → Nat → Prop) (s : Nat → Nat) : Nat → Nat → Nat → Prop
  | 0, _, b => b = 14
  | m + 1, p, b => (s p < 14 ∧ b = s p) ∨ (14 ≤ s p ∧ ((b < 14 ∧ O (s p - 14) b) ∨ (O (s p - 14) 14 ∧ ro O s m (p + 1) b)))
theorem ro_s {O : Nat → Nat → Prop} {s : Nat → Nat} {m p b : Nat} : ro O s (m + 1) p b ↔ ((s p < 14 ∧ b = s p) ∨ (14 ≤ s p ∧ ((b < 14 ∧ O (s p - 14) b) ∨ (O (s p - 14) 14 ∧ ro O s m (p + 1) b)))) := Iff.rfl
theorem ro_mono {O O' : Nat → Nat → Prop} {s : Nat → Nat} (h : ∀ k b, O k b → O' k b) : ∀ (m p b : Nat), ro O s m p b → ro O' s m p b
  | 0, _, _, q => q
  | m + 1, p, b, q => by
    rcases q with q | ⟨q1, q2 | ⟨q2, q3⟩⟩
    · exact Or.inl q
    · exact Or.inr ⟨q1, Or.inl ⟨q2.1, h _ _ q2.2⟩⟩
    · exact Or.inr ⟨q1, Or.inr ⟨h _ _ q2, ro_mono h m (p + 1) b q3⟩⟩
theorem ro_le {O : Nat → Nat → Prop} {s : Nat → Nat} : ∀ (m p b : Nat), ro O s m p b → b ≤ 14
  | 0, _, _, q => by have : _ = 14 := q; omega
  | m + 1, p, b, q => by
    rcases q with q | ⟨q1, q2 | ⟨q2, q3⟩⟩
    · omega
    · omega
    · exact ro_le m (p + 1) b q3
/-- only what O says of kinds 0 .. 7 counts -/
theorem ro_congr {O O' : Nat → Nat → Prop} {s : Nat → Nat} (h : ∀ k b, k < 8 → b ≤ 14 → (O k b ↔ O' k b)) : ∀ (m p b : Nat), (∀ q, p ≤ q → q < p + m → s q < 22) → (ro O s m p b ↔ ro O' s m p b)
  | 0, _, _, _ => Iff.rfl
  | m + 1, p, b, hs => by
    have hp := hs p (Nat.le_refl p) (by omega)
    have ih := ro_congr h m (p + 1) b (fun q h1 h2 => hs q (by omega) (by omega))
    rw [ro_s, ro_s]
    constructor
    · rintro (q | ⟨q1, ⟨q2, q3⟩ | ⟨q2, q3⟩⟩)
      · exact Or.inl q
      · exact Or.inr ⟨q1, Or.inl ⟨q2, (h _ _ (by omega) (by omega)).mp q3⟩⟩
      · exact Or.inr ⟨q1, Or.inr ⟨(h _ _ (by omega) (by omega)).mp q2, ih.mp q3⟩⟩
    · rintro (q | ⟨q1, ⟨q2, q3⟩ | ⟨q2, q3⟩⟩)
      · exact Or.inl q
      · exact Or.inr ⟨q1, Or.inl ⟨q2, (h _ _ (by omega) (by omega)).mpr q3⟩⟩
      · exact Or.inr ⟨q1, Or.inr ⟨(h _ _ (by omega) (by omega)).mpr q2, ih.mpr q3⟩⟩
def oCl (g : Gm) (O : Nat → Nat → Prop) : Prop := ∀ r, r < gn g → ∀ b, ro O (gs g r) (gl g r) 0 b → O (gk g r) b
def Og (g : Gm) (k b : Nat) : Prop := ∀ O, oCl g O → O k b
theorem Og_cl (g : Gm) : oCl g (Og g) := fun r hr b h O hO => hO r hr b (ro_mono (fun k b q => q O hO) _ _ _ h)
theorem Og_eq {g : Gm} {O : Nat → Nat → Prop} (h1 : ∀ k b, O k b → Og g k b) (h2 : oCl g O) (k b : Nat) : O k b ↔ Og g k b := ⟨h1 k b, fun h => h O h2⟩
/-! the class: a rule's row, the start's too -/
def rwC (σ : tp_S) (r l : Nat) (s : Nat → Nat) : Prop := r ≤ 24 ∧ l ≤ 6 ∧ 7 * r + l ≤ 169 ∧ σ.1 3 r = nI l ∧ ∀ p, p < l → σ.1 4 (7 * r + p) = nI (s p) ∧ s p < 22
def oS (σ : tp_S) (k b : Nat) : Prop := bt (σ.1 6 k) b = true
theorem sp_ofRow_5 {σ : tp_S} {r l : Nat} {s : Nat → Nat} (hw : rwC σ r l s) {K : Int32 → tp_S → Prop} : ∀ (n p : Nat) (acc : Int32), p + n = l → (∀ i, i < 32 → bt acc i = true → i < 14) → (∀ m, (∀ i, i < 32 → (bt m i = true ↔ (bt acc i = true ∨ (i ≤ 14 ∧ ro (oS σ) s n p i)))) → K m σ) → tp_W shC m_Op_ofRow 5 [some (.ref 5), some (.int (nI r)), none, some (.int acc), some (.int (nI p)), none, none] [] σ (tp_Qi K) := by
  obtain ⟨hr, hl, hrl, hln, hsy⟩ := hw
  intro n
  induction n with
  | zero =>
    intro p acc hp hacc k
    refine bk_Op_ofRow_5 _ _ _ (bk_Gr_lengthOf_0 _ ⟨vp_in_nI (by omega) (by decide), ?_⟩)
    rw [nI_clamp (by omega), hln]
    refine ⟨fun _ => k _ (fun i hi => ?_), fun h => absurd (nI_le (by omega) (by omega)) h⟩
    rw [b_or, b_e14 hi]
    unfold ro
    simp only [Bool.or_eq_true, decide_eq_true_eq]
    constructor
    · rintro (h | h)
      · exact Or.inl h
      · exact Or.inr ⟨by omega, h⟩
    · rintro (h | h)
      · exact Or.inl h
      · exact Or.inr h.2
  | succ n ih =>
    intro p acc hp hacc k
    refine bk_Op_ofRow_5 _ _ _ (bk_Gr_lengthOf_0 _ ⟨vp_in_nI (by omega) (by decide), ?_⟩)
    rw [nI_clamp (by omega), hln]
    refine ⟨fun h => absurd ((nI_leI (by omega) (by omega)).mp h) (by omega), fun _ => bk_Gr_columnAt_0 _ ?_⟩
    rw [pk_mul, nI_add, nI_clamp (by omega), show r * 7 + p = 7 * r + p by omega, (hsy p (by omega)).1]
    have hs22 := (hsy p (by omega)).2
    refine ⟨vp_in_nI (by omega) (by decide), fun h14 => ?_, fun h14 => ?_⟩
    · have h14' : 14 ≤ s p := (nI_leI (by decide) (by omega)).mp h14
      rw [pk_sub h14', nI_clamp (by omega)]
      have hv : ∀ i, i < 32 → (bt (acc ||| (σ.1 6 (s p - 14) &&& nI 16383)) i = true ↔ (bt acc i = true ∨ (i < 14 ∧ oS σ (s p - 14) i))) := by
        intro i hi
        rw [b_or, b_and, b_all hi]
        simp only [Bool.or_eq_true, Bool.and_eq_true, decide_eq_true_eq, oS]
        constructor
        · rintro (h | h)
          · exact Or.inl h
          · exact Or.inr ⟨h.2, h.1⟩
        · rintro (h | h)
          · exact Or.inl h
          · exact Or.inr ⟨h.2, h.1⟩
      refine ⟨vp_in_nI (by omega) (by decide), fun he => ?_, fun he => k _ (fun i hi => ?_)⟩
      · rw [b_t14] at he
        have he' : oS σ (s p - 14) 14 := by unfold oS; simpa using he
        rw [nI_add]
        refine ih (p + 1) _ (by omega) (fun i hi h => ?_) (fun m hm => k m (fun i hi => ?_))
        · rcases (hv i hi).mp h with h | h
          · exact hacc i hi h
          · exact h.1
        · rw [hm i hi, hv i hi]
          rw [ro_s]
          constructor
          · rintro ((h | h) | ⟨h1, h2⟩)
            · exact Or.inl h
            · exact Or.inr ⟨by omega, Or.inr ⟨h14', Or.inl h⟩⟩
            · exact Or.inr ⟨h1, Or.inr ⟨h14', Or.inr ⟨he', h2⟩⟩⟩
          · rintro (h | ⟨h1, h | ⟨_, h | ⟨_, h⟩⟩⟩)
            · exact Or.inl (Or.inl h)
            · omega
            · exact Or.inl (Or.inr h)
            · exact Or.inr ⟨h1, h⟩
      · rw [b_t14] at he
        have he' : ¬ oS σ (s p - 14) 14 := by unfold oS; rw [he]; exact Bool.false_ne_true
        rw [hv i hi]
        rw [ro_s]
        constructor
        · rintro (h | h)
          · exact Or.inl h
          · exact Or.inr ⟨by omega, Or.inr ⟨h14', Or.inl h⟩⟩
        · rintro (h | ⟨h1, h | ⟨_, h | ⟨h, _⟩⟩⟩)
          · exact Or.inl h
          · omega
          · exact Or.inr h
          · exact absurd h he'
    · have h14' : s p < 14 := by
        rcases Nat.lt_or_ge (s p) 14 with z | z
        · exact z
        · exact absurd (nI_le z (by omega)) h14
      have hz : ((nI 1 <<< (nI (s p) &&& 31)) &&& nI 16384) = 0 := by
        rw [b_t14, b_pow (s p) (by omega) (by decide)]
        simp; omega
      refine ⟨fun h => absurd hz h, fun _ => k _ (fun i hi => ?_)⟩
      rw [b_or, b_and, b_pow (s p) (by omega) hi, b_all hi]
      rw [ro_s]
      simp only [Bool.or_eq_true, Bool.and_eq_true, decide_eq_true_eq]
      constructor
      · rintro (h | h)
        · exact Or.inl h
        · exact Or.inr ⟨by omega, Or.inl ⟨h14', h.1⟩⟩
      · rintro (h | ⟨h1, h | ⟨h, _⟩⟩)
        · exact Or.inl h
        · exact Or.inr ⟨h.2, by omega⟩
        · omega
theorem sp_ofRow {σ : tp_S} {r l : Nat} {s : Nat → Nat} (hw : rwC σ r l s) {K : Int32 → tp_S → Prop} {p : Nat} (hp : p ≤ l) (k : ∀ m, (∀ i, i < 32 → (bt m i = true ↔ (i ≤ 14 ∧ ro (oS σ) s (l - p) p i))) → K m σ) : tp_W shC m_Op_ofRow 0 [some (.ref 5), some (.int (nI r)), some (.int (nI p)), none, none, none, none] [] σ (tp_Qi K) := by
  refine bk_Op_ofRow_0 _ _ (sp_ofRow_5 hw (l - p) p (nI 0) (by omega) (fun i hi h => ?_) (fun m hm => k m (fun i hi => ?_)))
  · have : bt (nI 0) i = false := b_0 i
    rw [this] at h; cases h
  · rw [hm i hi]
    have : bt (nI 0) i = false := b_0 i
    rw [this]
    simp
