/-! the number of bits of a long -/
def dg (w : Nat) : (Nat → Nat) → Nat → Nat
  | _, 0 => 0
  | c, n + 1 => c 0 + 2 ^ w * dg w (fun j => c (j + 1)) n
theorem dg_s (w : Nat) (c : Nat → Nat) (n : Nat) : dg w c (n + 1) = c 0 + 2 ^ w * dg w (fun j => c (j + 1)) n := rfl
theorem dg_add {w : Nat} : ∀ (n : Nat) (c d : Nat → Nat), dg w c n + dg w d n = dg w (fun j => c j + d j) n
  | 0, _, _ => rfl
  | n + 1, c, d => by
    have ih := dg_add (w := w) n (fun j => c (j + 1)) (fun j => d (j + 1))
    rw [dg_s, dg_s, dg_s, ← ih, Nat.mul_add]
    omega
theorem dg_lt {w : Nat} : ∀ (n : Nat) (c : Nat → Nat), (∀ j, c j < 2 ^ w) → dg w c n < 2 ^ (w * n)
  | 0, _, _ => Nat.one_pos
  | n + 1, c, h => by
    have ih := dg_lt n (fun j => c (j + 1)) (fun j => h (j + 1))
    have h0 := h 0
    rw [dg_s, Nat.mul_succ, Nat.pow_add, Nat.mul_comm (2 ^ (w * n))]
    have h2 : 2 ^ w * (dg w (fun j => c (j + 1)) n + 1) ≤ 2 ^ w * 2 ^ (w * n) := Nat.mul_le_mul_left _ ih
    rw [Nat.mul_add] at h2
    omega
theorem dg_z {w : Nat} : ∀ (n : Nat) (c : Nat → Nat), c n = 0 → dg w c (n + 1) = dg w c n
  | 0, c, h => by rw [dg_s]; show c 0 + 2 ^ w * 0 = 0; omega
  | n + 1, c, h => by
    have ih := dg_z (w := w) n (fun j => c (j + 1)) h
    rw [dg_s, ih]; rfl
theorem dg_sh {w : Nat} (n : Nat) (c : Nat → Nat) (h : c 0 < 2 ^ w) (hz : c (n + 1) = 0) : dg w c (n + 1) / 2 ^ w = dg w (fun j => c (j + 1)) (n + 1) := by
  rw [dg_z n (fun j => c (j + 1)) hz, dg_s, Nat.add_mul_div_left _ _ (Nat.two_pow_pos w), Nat.div_eq_of_lt h, Nat.zero_add]
theorem and_sp {k a b x y : Nat} (ha : a < 2 ^ k) (hx : x < 2 ^ k) : (a + 2 ^ k * b) &&& (x + 2 ^ k * y) = (a &&& x) + 2 ^ k * (b &&& y) := by
  have hax : a &&& x < 2 ^ k := Nat.and_lt_two_pow a hx
  refine Nat.eq_of_testBit_eq (fun i => ?_)
  rw [Nat.testBit_and, Nat.add_comm a, Nat.add_comm x, Nat.add_comm (a &&& x), Nat.testBit_two_pow_mul_add _ ha, Nat.testBit_two_pow_mul_add _ hx, Nat.testBit_two_pow_mul_add _ hax]
  by_cases h : i < k
  · rw [if_pos h, if_pos h, if_pos h, Nat.testBit_and]
  · rw [if_neg h, if_neg h, if_neg h, Nat.testBit_and]
theorem dg_pair {w : Nat} : ∀ (n : Nat) (c : Nat → Nat), dg w c (2 * n) = dg (w + w) (fun j => c (2 * j) + 2 ^ w * c (2 * j + 1)) n
  | 0, _ => rfl
  | n + 1, c => by
    have ih := dg_pair (w := w) n (fun j => c (j + 2))
    rw [show 2 * (n + 1) = 2 * n + 1 + 1 by omega, dg_s, dg_s, dg_s, Nat.pow_add]
    show c 0 + 2 ^ w * (c 1 + 2 ^ w * dg w (fun j => c (j + 2)) (2 * n)) = c (2 * 0) + 2 ^ w * c (2 * 0 + 1) + 2 ^ w * 2 ^ w * dg (w + w) (fun j => c (2 * (j + 1)) + 2 ^ w * c (2 * (j + 1) + 1)) n
    rw [ih, Nat.mul_add, Nat.mul_assoc, Nat.add_assoc]
    rfl
theorem dg_mask {w : Nat} : ∀ (n : Nat) (c : Nat → Nat), (∀ j, c j < 2 ^ w) → dg w c (2 * n) &&& dg (w + w) (fun _ => 2 ^ w - 1) n = dg (w + w) (fun j => c (2 * j)) n
  | 0, _, _ => Nat.zero_and _
  | n + 1, c, h => by
    have ih := dg_mask n (fun j => c (j + 2)) (fun j => h (j + 2))
    rw [dg_pair] at ih ⊢
    rw [dg_s, dg_s, dg_s]
    have h0 := h 0
    have h1 := h 1
    have hp := Nat.two_pow_pos w
    have hl : c (2 * 0) + 2 ^ w * c (2 * 0 + 1) < 2 ^ (w + w) := by
      show c 0 + 2 ^ w * c 1 < 2 ^ (w + w)
      rw [Nat.pow_add]
      have h2 : 2 ^ w * (c 1 + 1) ≤ 2 ^ w * 2 ^ w := Nat.mul_le_mul_left _ h1
      rw [Nat.mul_add] at h2
      omega
    have hm : 2 ^ w - 1 < 2 ^ (w + w) := by
      have : 2 ^ w ≤ 2 ^ (w + w) := Nat.pow_le_pow_right (by decide) (by omega)
      omega
    rw [and_sp hl hm, Nat.and_two_pow_sub_one_eq_mod]
    show (c 0 + 2 ^ w * c 1) % 2 ^ w + 2 ^ (w + w) * _ = c 0 + 2 ^ (w + w) * _
    rw [Nat.add_mul_mod_self_left, Nat.mod_eq_of_lt h0]
    exact congrArg (fun z => c 0 + 2 ^ (w + w) * z) ih
theorem dg_bits : ∀ (n x : Nat), x < 2 ^ n → x = dg 1 (fun j => (x.testBit j).toNat) n
  | 0, x, h => by have : x = 0 := by omega
                  exact this
  | n + 1, x, h => by
    have ih := dg_bits n (x / 2) (by rw [Nat.pow_succ] at h; omega)
    rw [dg_s]
    have e : (fun j => (x.testBit (j + 1)).toNat) = fun j => ((x / 2).testBit j).toNat := by
      funext j; rw [Nat.testBit_succ]
    rw [e, ← ih]
    have : (x.testBit 0).toNat = x % 2 := by
      rw [Nat.testBit_zero]
      by_cases hh : x % 2 = 1
      · rw [hh]; rfl
      · have : x % 2 = 0 := by omega
        rw [this]; rfl
    rw [this]; omega
def un (x : Int64) : Nat := x.toBitVec.toNat
theorem un_lt (x : Int64) : un x < 2 ^ 64 := x.toBitVec.isLt
theorem un_lb (x : Int64) (i : Nat) : (un x).testBit i = lb x i := rfl
theorem un_and (x y : Int64) : un (x &&& y) = un x &&& un y := by unfold un; rw [Int64.toBitVec_and, BitVec.toNat_and]
theorem un_add {x y : Int64} (h : un x + un y < 2 ^ 64) : un (x + y) = un x + un y := by
  unfold un at h ⊢
  rw [Int64.toBitVec_add, BitVec.toNat_add, Nat.mod_eq_of_lt h]
theorem un_sub {x y : Int64} (h : un y ≤ un x) : un (x - y) = un x - un y := by
  unfold un at h ⊢
  rw [Int64.toBitVec_sub, BitVec.toNat_sub_of_le h]
theorem un_shr (x : Int64) (n : Nat) (hn : n < 64) : un ((x.toUInt64 >>> ((nI n).toInt64.toUInt64 &&& Int64.toUInt64 63)).toInt64) = un x / 2 ^ n := by
  show (x.toUInt64 >>> ((nI n).toInt64.toUInt64 &&& Int64.toUInt64 63)).toBitVec.toNat = _
  rw [UInt64.toBitVec_shiftRight]
  show (x.toUInt64.toBitVec >>> (((nI n).toInt64.toUInt64 &&& Int64.toUInt64 63).toBitVec % 64).toNat).toNat = _
  rw [lc_su n hn, BitVec.toNat_ushiftRight, Nat.shiftRight_eq_div_pow]
  rfl
theorem bc_1 (x : Int64) : ∃ c : Nat → Nat, (∀ j, c j ≤ 2) ∧ (∀ j, 32 ≤ j → c j = 0) ∧ un (x - ((Int64.toUInt64 x >>> ((Int32.toInt64 (nI 1)).toUInt64 &&& Int64.toUInt64 63)).toInt64 &&& (6148914691236517205 : Int64))) = dg 2 c 32 ∧ ∀ j, c j = (lb x (2 * j)).toNat + (lb x (2 * j + 1)).toNat := by
  have hb : ∀ j, (lb x j).toNat < 2 ^ 1 := fun j => by cases lb x j <;> decide
  have hz : ∀ j, 64 ≤ j → lb x j = false := fun j h => BitVec.getLsbD_of_ge _ _ h
  have e := dg_bits 64 (un x) (un_lt x)
  have e0 : un x = dg 1 (fun j => (lb x j).toNat) 64 := e
  have e1 : un ((Int64.toUInt64 x >>> ((Int32.toInt64 (nI 1)).toUInt64 &&& Int64.toUInt64 63)).toInt64 &&& (6148914691236517205 : Int64)) = dg 2 (fun j => (lb x (2 * j + 1)).toNat) 32 := by
    rw [un_and, un_shr x 1 (by decide), e0, dg_sh 63 (fun j => (lb x j).toNat) (hb 0) (by show (lb x 64).toNat = 0; rw [hz _ (by decide)]; rfl)]
    have hm : un (6148914691236517205 : Int64) = dg (1 + 1) (fun _ => 2 ^ 1 - 1) 32 := by decide +kernel
    rw [hm]
    exact dg_mask 32 (fun j => (lb x (j + 1)).toNat) (fun j => hb (j + 1))
  have e2 : un x = dg 2 (fun j => (lb x (2 * j)).toNat + (lb x (2 * j + 1)).toNat) 32 + dg 2 (fun j => (lb x (2 * j + 1)).toNat) 32 := by
    rw [dg_add, e0]
    refine (dg_pair (w := 1) 32 _).trans ?_
    refine congrArg (fun f => dg 2 f 32) (funext (fun j => ?_))
    show (lb x (2 * j)).toNat + 2 * (lb x (2 * j + 1)).toNat = _
    omega
  refine ⟨fun j => (lb x (2 * j)).toNat + (lb x (2 * j + 1)).toNat, fun j => ?_, fun j hj => ?_, ?_, fun j => rfl⟩
  · have := hb (2 * j)
    have := hb (2 * j + 1)
    show (lb x (2 * j)).toNat + (lb x (2 * j + 1)).toNat ≤ 2
    omega
  · show (lb x (2 * j)).toNat + (lb x (2 * j + 1)).toNat = 0
    rw [hz _ (by omega), hz _ (by omega)]; rfl
  · rw [un_sub (by rw [e1, e2]; omega), e1, e2]; omega
theorem bc_2 (x : Int64) (c : Nat → Nat) (h : ∀ j, c j ≤ 2) (hz : ∀ j, 32 ≤ j → c j = 0) (hx : un x = dg 2 c 32) : un ((x &&& (3689348814741910323 : Int64)) + ((Int64.toUInt64 x >>> ((Int32.toInt64 (nI 2)).toUInt64 &&& Int64.toUInt64 63)).toInt64 &&& (3689348814741910323 : Int64))) = dg 4 (fun j => c (2 * j) + c (2 * j + 1)) 16 := by
  have hm : un (3689348814741910323 : Int64) = dg (2 + 2) (fun _ => 2 ^ 2 - 1) 16 := by decide +kernel
  have h4 : ∀ j, c j < 2 ^ 2 := fun j => by have := h j; omega
  have e1 : un (x &&& (3689348814741910323 : Int64)) = dg 4 (fun j => c (2 * j)) 16 := by
    rw [un_and, hx, hm]
    exact dg_mask 16 c h4
  have e2 : un ((Int64.toUInt64 x >>> ((Int32.toInt64 (nI 2)).toUInt64 &&& Int64.toUInt64 63)).toInt64 &&& (3689348814741910323 : Int64)) = dg 4 (fun j => c (2 * j + 1)) 16 := by
    rw [un_and, un_shr x 2 (by decide), hx, dg_sh 31 _ (h4 0) (hz 32 (by decide)), hm]
    exact dg_mask 16 (fun j => c (j + 1)) (fun j => h4 (j + 1))
  have hl := dg_lt (w := 4) 16 (fun j => c (2 * j) + c (2 * j + 1)) (fun j => by
    have := h (2 * j)
    have := h (2 * j + 1)
    show c (2 * j) + c (2 * j + 1) < 2 ^ 4
    omega)
  rw [un_add (by rw [e1, e2, dg_add]; exact hl), e1, e2, dg_add]
theorem bc_3 (x : Int64) (c : Nat → Nat) (h : ∀ j, c j ≤ 4) (hz : ∀ j, 16 ≤ j → c j = 0) (hx : un x = dg 4 c 16) : un ((x + (Int64.toUInt64 x >>> ((Int32.toInt64 (nI 4)).toUInt64 &&& Int64.toUInt64 63)).toInt64) &&& (1085102592571150095 : Int64)) = dg 8 (fun j => c (2 * j) + c (2 * j + 1)) 8 := by
  have hm : un (1085102592571150095 : Int64) = dg (4 + 4) (fun _ => 2 ^ 4 - 1) 8 := by decide +kernel
  have h4 : ∀ j, c j < 2 ^ 4 := fun j => by have := h j; omega
  have e2 : un ((Int64.toUInt64 x >>> ((Int32.toInt64 (nI 4)).toUInt64 &&& Int64.toUInt64 63)).toInt64) = dg 4 (fun j => c (j + 1)) 16 := by
    rw [un_shr x 4 (by decide), hx, dg_sh 15 _ (h4 0) (hz 16 (by decide))]
  have hs : ∀ j, c j + c (j + 1) < 2 ^ 4 := fun j => by
    have := h j
    have := h (j + 1)
    omega
  have hl := dg_lt (w := 4) 16 (fun j => c j + c (j + 1)) hs
  rw [un_and, un_add (by rw [e2, hx, dg_add]; exact hl), e2, hx, dg_add, hm]
  exact dg_mask 8 (fun j => c j + c (j + 1)) hs
theorem dg_shk {w : Nat} (n : Nat) : ∀ (k : Nat) (c : Nat → Nat), (∀ j, c j < 2 ^ w) → (∀ j, n < j → c j = 0) → dg w c (n + 1) / 2 ^ (w * k) = dg w (fun j => c (j + k)) (n + 1)
  | 0, c, _, _ => by rw [Nat.mul_zero]; exact Nat.div_one _
  | k + 1, c, h, hz => by
    have ih := dg_shk n k (fun j => c (j + 1)) (fun j => h (j + 1)) (fun j hj => hz (j + 1) (by omega))
    rw [Nat.mul_succ, Nat.add_comm (w * k), Nat.pow_add, ← Nat.div_div_eq_div_mul, dg_sh n c (h 0) (hz _ (by omega)), ih]
    rfl
theorem bc_n (x : Int64) (k s b : Nat) (hs : s = 8 * k) (hsl : s < 64) (c : Nat → Nat) (h : ∀ j, c j ≤ b) (hb : b + b < 256) (hz : ∀ j, 8 ≤ j → c j = 0) (hx : un x = dg 8 c 8) : un (x + (Int64.toUInt64 x >>> ((Int32.toInt64 (nI s)).toUInt64 &&& Int64.toUInt64 63)).toInt64) = dg 8 (fun j => c j + c (j + k)) 8 := by
  have h8 : ∀ j, c j < 2 ^ 8 := fun j => by have := h j; omega
  have e2 : un ((Int64.toUInt64 x >>> ((Int32.toInt64 (nI s)).toUInt64 &&& Int64.toUInt64 63)).toInt64) = dg 8 (fun j => c (j + k)) 8 := by
    rw [un_shr x s hsl, hx, hs, dg_shk 7 k c h8 (fun j hj => hz j (by omega))]
  have hl := dg_lt (w := 8) 8 (fun j => c j + c (j + k)) (fun j => by
    have := h j
    have := h (j + k)
    show c j + c (j + k) < 2 ^ 8
    omega)
  rw [un_add (by rw [e2, hx, dg_add]; exact hl), e2, hx, dg_add]
theorem bc_sum {b c d e f g h : Nat → Nat} (e1 : ∀ j, c j = b (2 * j) + b (2 * j + 1)) (e2 : ∀ j, d j = c (2 * j) + c (2 * j + 1)) (e3 : ∀ j, e j = d (2 * j) + d (2 * j + 1)) (e4 : ∀ j, f j = e j + e (j + 1)) (e5 : ∀ j, g j = f j + f (j + 2)) (e6 : ∀ j, h j = g j + g (j + 4)) : h 0 = sm b 64 := by
  rw [e6]
  simp only [e5, e4, e3, e2, e1, sm, Nat.zero_add, Nat.mul_zero, Nat.reduceMul, Nat.reduceAdd]
  omega
theorem sp_bitCount {σ : tp_S} {x : Int64} {K : Int32 → tp_S → Prop} (k : K (nI (sm (fun j => (lb x j).toNat) 64)) σ) : tp_W shC m_JL_bitCount 0 [some (.long x), none] [] σ (tp_Qi K) := by
  obtain ⟨c, hc, hz, hx, ec⟩ := bc_1 x
  refine bk_JL_bitCount_0 x ?_
  generalize (x - ((Int64.toUInt64 x >>> ((Int32.toInt64 (nI 1)).toUInt64 &&& Int64.toUInt64 63)).toInt64 &&& (6148914691236517205 : Int64))) = x1 at hx ⊢
  refine bk_JL_bitCount_10 x1 ?_
  have h2 := bc_2 x1 c hc hz hx
  generalize ((x1 &&& (3689348814741910323 : Int64)) + ((Int64.toUInt64 x1 >>> ((Int32.toInt64 (nI 2)).toUInt64 &&& Int64.toUInt64 63)).toInt64 &&& (3689348814741910323 : Int64))) = x2 at h2 ⊢
  have l2 : ∀ j, c (2 * j) + c (2 * j + 1) ≤ 4 := fun j => by
    have := hc (2 * j)
    have := hc (2 * j + 1)
    omega
  have z2 : ∀ j, 16 ≤ j → c (2 * j) + c (2 * j + 1) = 0 := fun j hj => by rw [hz _ (by omega), hz _ (by omega)]
  have e2 : ∃ d : Nat → Nat, d = fun j => c (2 * j) + c (2 * j + 1) := ⟨_, rfl⟩
  obtain ⟨d, hd⟩ := e2
  have e2 : ∀ j, d j = c (2 * j) + c (2 * j + 1) := fun j => by rw [hd]
  rw [← hd] at h2
  have l2' : ∀ j, d j ≤ 4 := fun j => by rw [e2]; exact l2 j
  have z2' : ∀ j, 16 ≤ j → d j = 0 := fun j hj => by rw [e2]; exact z2 j hj
  refine bk_JL_bitCount_24 x2 ?_
  have h3 := bc_3 x2 d l2' z2' h2
  generalize ((x2 + (Int64.toUInt64 x2 >>> ((Int32.toInt64 (nI 4)).toUInt64 &&& Int64.toUInt64 63)).toInt64) &&& (1085102592571150095 : Int64)) = x3 at h3 ⊢
  have e3 : ∃ e : Nat → Nat, e = fun j => d (2 * j) + d (2 * j + 1) := ⟨_, rfl⟩
  obtain ⟨e, he⟩ := e3
  have e3 : ∀ j, e j = d (2 * j) + d (2 * j + 1) := fun j => by rw [he]
  rw [← he] at h3
  have l3 : ∀ j, e j ≤ 8 := fun j => by
    have := l2' (2 * j)
    have := l2' (2 * j + 1)
    rw [e3]; omega
  have z3 : ∀ j, 8 ≤ j → e j = 0 := fun j hj => by rw [e3, z2' _ (by omega), z2' _ (by omega)]
  refine bk_JL_bitCount_34 x3 ?_
  have h4 := bc_n x3 1 8 8 rfl (by decide) e l3 (by decide) z3 h3
  generalize (x3 + (Int64.toUInt64 x3 >>> ((Int32.toInt64 (nI 8)).toUInt64 &&& Int64.toUInt64 63)).toInt64) = x4 at h4 ⊢
  have e4 : ∃ f : Nat → Nat, f = fun j => e j + e (j + 1) := ⟨_, rfl⟩
  obtain ⟨f, hf⟩ := e4
  have e4 : ∀ j, f j = e j + e (j + 1) := fun j => by rw [hf]
  rw [← hf] at h4
  have l4 : ∀ j, f j ≤ 16 := fun j => by
    have := l3 j
    have := l3 (j + 1)
    rw [e4]; omega
  have z4 : ∀ j, 8 ≤ j → f j = 0 := fun j hj => by rw [e4, z3 _ (by omega), z3 _ (by omega)]
  refine bk_JL_bitCount_41 x4 ?_
  have h5 := bc_n x4 2 16 16 rfl (by decide) f l4 (by decide) z4 h4
  generalize (x4 + (Int64.toUInt64 x4 >>> ((Int32.toInt64 (nI 16)).toUInt64 &&& Int64.toUInt64 63)).toInt64) = x5 at h5 ⊢
  have e5 : ∃ f' : Nat → Nat, f' = fun j => f j + f (j + 2) := ⟨_, rfl⟩
  obtain ⟨f', hf'⟩ := e5
  have e5 : ∀ j, f' j = f j + f (j + 2) := fun j => by rw [hf']
  rw [← hf'] at h5
  have l5 : ∀ j, f' j ≤ 32 := fun j => by
    have := l4 j
    have := l4 (j + 2)
    rw [e5]; omega
  have z5 : ∀ j, 8 ≤ j → f' j = 0 := fun j hj => by rw [e5, z4 _ (by omega), z4 _ (by omega)]
  refine bk_JL_bitCount_48 x5 ?_
  have h6 := bc_n x5 4 32 32 rfl (by decide) f' l5 (by decide) z5 h5
  generalize (x5 + (Int64.toUInt64 x5 >>> ((Int32.toInt64 (nI 32)).toUInt64 &&& Int64.toUInt64 63)).toInt64) = x6 at h6 ⊢
  refine bk_JL_bitCount_55 x6 ?_
  have hs := bc_sum (b := fun j => (lb x j).toNat) (h := fun j => f' j + f' (j + 4)) ec e2 e3 e4 e5 (fun _ => rfl)
  rw [← hs] at k
  have l6 : f' 0 + f' 4 ≤ 64 := by
    have := l5 0
    have := l5 4
    omega
  rw [pk_and _ 7 (by decide)]
  have e7 : x6.toInt32.toBitVec.toNat = un x6 % 2 ^ 32 := by
    unfold un
    show (x6.toBitVec.signExtend 32).toNat = _
    rw [BitVec.signExtend_eq_setWidth_of_le _ (by decide), BitVec.toNat_setWidth]
  rw [e7, h6, dg_s]
  have e8 : (f' 0 + f' (0 + 4) + 2 ^ 8 * dg 8 (fun j => f' (j + 1) + f' (j + 1 + 4)) 7) % 2 ^ 32 % 2 ^ 7 = f' 0 + f' (0 + 4) := by
    show (f' 0 + f' 4 + 2 ^ 8 * dg 8 (fun j => f' (j + 1) + f' (j + 1 + 4)) 7) % 2 ^ 32 % 2 ^ 7 = f' 0 + f' 4
    generalize dg 8 (fun j => f' (j + 1) + f' (j + 1 + 4)) 7 = w
    omega
  rw [e8]
  exact k
/-! state -/
theorem sm_blk (f : Nat → Nat) (m : Nat) : ∀ k, sm f (m * k) = sm (fun r => sm (fun p => f (m * r + p)) m) k
  | 0 => rfl
  | k + 1 => by rw [Nat.mul_succ, sm_split, sm_blk f m k]; rfl
theorem bN_i {p q : Prop} (h : p ↔ q) : bN p = bN q := by rw [propext h]
theorem sm_mS {S : Nat → Prop} (h : ∀ i, S i → i < 170) : sm (fun j => bN (mS S j)) 200 = sm (fun i => bN (S i)) 192 := by
  have e1 : sm (fun j => bN (mS S j)) 200 = sm (fun r => sm (fun p => bN (mS S (8 * r + p))) 8) 25 := sm_blk _ 8 25
  have e2 : sm (fun i => bN (S i)) 175 = sm (fun r => sm (fun p => bN (S (7 * r + p))) 7) 25 := sm_blk _ 7 25
  have e3 : sm (fun i => bN (S i)) 192 = sm (fun i => bN (S i)) 175 + sm (fun i => bN (S (175 + i))) 17 := sm_split _ 175 17
  have e4 : sm (fun i => bN (S (175 + i))) 17 = 0 := by
    rw [sm_congr (h := fun _ => 0) (fun i _ => bN_f (fun z => by have := h _ z; omega))]
    exact sm_0 17
  rw [e1, e3, e4, e2, Nat.add_zero]
  refine sm_congr (fun r _ => ?_)
  show sm (fun p => bN (mS S (8 * r + p))) 7 + bN (mS S (8 * r + 7)) = _
  rw [bN_f (p := mS S (8 * r + 7)) (fun z => by have := z.1; omega), Nat.add_zero]
  exact sm_congr (fun p hp => bN_i (mS_rp (by omega)))
theorem sp_itemsOf {σ : tp_S} {q : Nat} (hq : q < 100) {S : Nat → Prop} (h : ∀ i, S i ↔ (i < 192 ∧ ib σ 11 q i)) {K : Int32 → tp_S → Prop} (k : K (nI (sm (fun i => bN (S i)) 192)) σ) : tp_W shC m_St_itemsOf 0 [some (.ref 10), some (.int (nI q)), none, none] [] σ (tp_Qi K) := by
  refine bk_St_itemsOf_0 _ ?_
  suffices hh : ∀ (m w : Nat), w + m = 3 → tp_W shC m_St_itemsOf 4 [some (.ref 10), some (.int (nI q)), some (.int (nI (sm (fun i => bN (S i)) (64 * w)))), some (.int (nI w))] [] σ (tp_Qi K) from hh 3 0 rfl
  intro m
  induction m with
  | zero =>
    intro w hw
    rw [show w = 3 by omega]
    exact bk_St_itemsOf_4 _ _ _ ⟨fun _ => k, fun h => absurd (nI_le (by omega) (by omega)) h⟩
  | succ m ih =>
    intro w hw
    refine bk_St_itemsOf_4 _ _ _ ⟨fun h => absurd h (nI_ge (by omega) (by decide)), fun _ => ?_⟩
    rw [pk_mul]
    simp only [nI_add]
    refine ⟨vp_in_nI (by omega) (by decide), sp_bitCount ?_⟩
    rw [nI_clamp (by omega)]
    have ih' := ih (w + 1) (by omega)
    rw [Nat.mul_succ, sm_split] at ih'
    have e : sm (fun j => (lb (σ.2 11 (q * 3 + w)) j).toNat) 64 = sm (fun i => bN (S (64 * w + i))) 64 := by
      refine sm_congr (fun i hi => ?_)
      have h1 := h (64 * w + i)
      unfold ib at h1
      rw [show (64 * w + i) / 64 = w by omega, show (64 * w + i) % 64 = i by omega, show 3 * q + w = q * 3 + w by omega] at h1
      by_cases hs : S (64 * w + i)
      · show (lb (σ.2 11 (q * 3 + w)) i).toNat = bN (S (64 * w + i))
        rw [bN_t hs, (h1.mp hs).2]; rfl
      · show (lb (σ.2 11 (q * 3 + w)) i).toNat = bN (S (64 * w + i))
        have : lb (σ.2 11 (q * 3 + w)) i = false := by
          cases el : lb (σ.2 11 (q * 3 + w)) i with
          | false => rfl
          | true => exact absurd (h1.mpr ⟨by omega, el⟩) hs
        rw [bN_f hs, this]; rfl
    rw [e]
    simp only [nI_add]
    exact ih'
theorem act_ld {g : Gm} {B : Bs} {q t : Nat} : ∀ k, (∀ s, bL B q t = some s → act g B q k t = 1000 + s) ∧ (bL B q t = none → act g B q k t = 0 ∨ 2000 ≤ act g B q k t)
  | 0 => by
    show (∀ s, bL B q t = some s → bas B q t = 1000 + s) ∧ (bL B q t = none → bas B q t = 0 ∨ 2000 ≤ bas B q t)
    unfold bas
    refine ⟨fun s e => by rw [e], fun e => ?_⟩
    rw [e]
    cases pd (t = 0 ∧ bS B q 169) with
    | true => exact Or.inr (Nat.le_refl _)
    | false => exact Or.inl rfl
  | k + 1 => by
    obtain ⟨h1, h2⟩ := act_ld (g := g) (B := B) (q := q) (t := t) k
    show (∀ s, bL B q t = some s → nxt (fun t => cnd g B q t k) k (act g B q k) t = 1000 + s) ∧ (bL B q t = none → nxt (fun t => cnd g B q t k) k (act g B q k) t = 0 ∨ 2000 ≤ nxt (fun t => cnd g B q t k) k (act g B q k) t)
    refine ⟨fun s e => ?_, fun e => ?_⟩
    · have := h1 s e
      rw [nxt_n (Or.inr (by omega)), this]
    · unfold nxt
      split
      · exact Or.inr (by omega)
      · exact h2 e
theorem sp_leadP {g : Gm} (hw : gW g) {B : Bs} (hB : Bk g B) {σ : tp_S} (h : plC g B σ) {q c : Nat} (hq : q < bn B) (hc : c < 22) {K : Int32 → tp_S → Prop} (k : K (lv (bL B q c)) σ) : tp_W shC m_Pl_leadAt 0 [some (.ref 8), some (.int (nI q)), some (.int (nI c)), none] [] σ (tp_Qi K) := by
  have hn := hB.n100
  refine bk_Pl_leadAt_0 _ _ ?_
  rw [pk_mul]
  simp only [nI_add]
  refine ⟨vp_in_nI (by omega) (by decide), ?_⟩
  rw [nI_clamp (by omega), show q * 22 + c = 22 * q + c by omega]
  have key : ∃ v, v ≤ 3023 ∧ σ.1 9 (22 * q + c) = nI v ∧ ((v < 1000 ∨ 2000 ≤ v) ∧ bL B q c = none ∨ ∃ s, s < 100 ∧ v = 1000 + s ∧ bL B q c = some s) := by
    by_cases h14 : c < 14
    · have e := h.1 q c hq h14
      obtain ⟨a1, a2⟩ := act_ld (g := g) (B := B) (q := q) (t := c) (gn g)
      refine ⟨act g B q (gn g) c, act_lt (Bk_100 hB) hw.1, e, ?_⟩
      cases el : bL B q c with
      | none => exact Or.inl ⟨(a2 el).imp (fun z => by omega) id, rfl⟩
      | some s => exact Or.inr ⟨s, Bk_100 hB _ _ _ el, a1 s el, rfl⟩
    · have e := h.2.1 q c hq (by omega) hc
      cases el : bL B q c with
      | none => exact ⟨0, by omega, by rw [e, el]; rfl, Or.inl ⟨Or.inl (by omega), rfl⟩⟩
      | some s =>
        have := Bk_100 hB _ _ _ el
        exact ⟨1000 + s, by omega, by rw [e, el]; rfl, Or.inr ⟨s, this, rfl, rfl⟩⟩
  obtain ⟨v, hv, e, hh⟩ := key
  rw [e]
  rcases hh with ⟨hh, el⟩ | ⟨s, hs, hvs, el⟩
  · rw [el] at k
    refine ⟨fun _ => k, fun h1 => ⟨fun _ => k, fun h2 => ?_⟩⟩
    exfalso
    rcases hh with hh | hh
    · exact h1 (nI_lt hh (by decide))
    · exact h2 (nI_le hh (by omega))
  · rw [el] at k
    subst hvs
    refine ⟨fun h => absurd ((nI_ltI (by omega) (by omega)).mp h) (by omega), fun _ => ⟨fun h => absurd ((nI_leI (by omega) (by omega)).mp h) (by omega), fun _ => ?_⟩⟩
    rw [pk_sub (by omega), show 1000 + s - 1000 = s by omega]
    exact k
