/-! the search is complete; what items look ahead for -/
def bCm (g : Gm) (m : Nat) (B : Bs) : Prop := (∀ q c t, bL B q c = some t → q < bn B ∧ t < bn B ∧ (∃ i, adv g (bS B q) c i) ∧ bS B t = Cl g (adv g (bS B q) c)) ∧ (bb B = false → ∀ q c, c < 22 → 22 * q + c < m → q < bn B → (∃ i, adv g (bS B q) c i) → ∃ t, bL B q c = some t)
theorem bfs_Cm {g : Gm} (hw : gW g) : ∀ m, bCm g m (bfs g m)
  | 0 => ⟨fun q c t h => (by cases h), fun _ q c _ h => absurd h (Nat.not_lt_zero _)⟩
  | m + 1 => by
    have ih := bfs_Cm hw m
    show bCm g (m + 1) (bst g (m / 22) (m % 22) (bfs g m))
    generalize bfs g m = B at ih
    obtain ⟨h1, h2⟩ := ih
    by_cases hc : bb B = false ∧ m / 22 < bn B ∧ ∃ i, adv g (bS B (m / 22)) (m % 22) i
    · cases hl : lst (fun j => ∀ i, bS B j i ↔ Cl g (adv g (bS B (m / 22)) (m % 22)) i) (bn B) with
      | some j =>
        rw [bst_old hc hl]
        have hj := lst_lt hl
        refine ⟨fun q c t e => ?_, fun _ q c hc22 hlt hq hex => ?_⟩
        · have e' : (if q = m / 22 ∧ c = m % 22 then some j else bL B q c) = some t := e
          by_cases z : q = m / 22 ∧ c = m % 22
          · rw [if_pos z] at e'
            cases e'
            rw [z.1, z.2]
            exact ⟨hc.2.1, hj.1, hc.2.2, by funext i; exact propext (hj.2 i)⟩
          · rw [if_neg z] at e'
            exact h1 q c t e'
        · show ∃ t, (if q = m / 22 ∧ c = m % 22 then some j else bL B q c) = some t
          by_cases z : q = m / 22 ∧ c = m % 22
          · rw [if_pos z]; exact ⟨j, rfl⟩
          · rw [if_neg z]
            exact h2 hc.1 q c hc22 (by omega) hq hex
      | none =>
        by_cases hn : bn B < 100
        · rw [bst_new hc hl hn]
          have old : ∀ q, q < bn B → va_up (bS B) (bn B) (Cl g (adv g (bS B (m / 22)) (m % 22))) q = bS B q := fun q hq => va_up_ne _ _ (by omega)
          refine ⟨fun q c t e => ?_, fun _ q c hc22 hlt hq hex => ?_⟩
          · have e' : (if q = m / 22 ∧ c = m % 22 then some (bn B) else bL B q c) = some t := e
            show q < bn B + 1 ∧ t < bn B + 1 ∧ (∃ i, adv g (va_up (bS B) (bn B) (Cl g (adv g (bS B (m / 22)) (m % 22))) q) c i) ∧ va_up (bS B) (bn B) (Cl g (adv g (bS B (m / 22)) (m % 22))) t = Cl g (adv g (va_up (bS B) (bn B) (Cl g (adv g (bS B (m / 22)) (m % 22))) q) c)
            by_cases z : q = m / 22 ∧ c = m % 22
            · rw [if_pos z] at e'
              cases e'
              have hq := hc.2.1
              rw [z.1, z.2, old _ hq, va_up_self]
              exact ⟨by omega, by omega, hc.2.2, rfl⟩
            · rw [if_neg z] at e'
              obtain ⟨a1, a2, a3, a4⟩ := h1 q c t e'
              rw [old q a1, old t a2]
              exact ⟨by omega, by omega, a3, a4⟩
          · have hq' : q < bn B + 1 := hq
            have hex' : ∃ i, adv g (va_up (bS B) (bn B) (Cl g (adv g (bS B (m / 22)) (m % 22))) q) c i := hex
            show ∃ t, (if q = m / 22 ∧ c = m % 22 then some (bn B) else bL B q c) = some t
            have hqb : q < bn B := by
              have := hc.2.1
              omega
            rw [old q hqb] at hex'
            by_cases z : q = m / 22 ∧ c = m % 22
            · rw [if_pos z]; exact ⟨_, rfl⟩
            · rw [if_neg z]
              exact h2 hc.1 q c hc22 (by omega) hqb hex'
        · rw [bst_big hc hl hn]
          exact ⟨h1, fun h => by cases h⟩
    · rw [bst_skip hc]
      refine ⟨h1, fun hb q c hc22 hlt hq hex => ?_⟩
      by_cases z : q = m / 22 ∧ c = m % 22
      · exfalso
        rw [z.1] at hq
        rw [z.1, z.2] at hex
        exact hc ⟨hb, hq, hex⟩
      · exact h2 hb q c hc22 (by omega) hq hex
/-- the first state -/
theorem bfs_S0 {g : Gm} : ∀ m, bS (bfs g m) 0 = Cl g (fun i => i = 168) ∧ 1 ≤ bn (bfs g m)
  | 0 => ⟨rfl, Nat.le_refl _⟩
  | m + 1 => by
    have ih := bfs_S0 (g := g) m
    show bS (bst g (m / 22) (m % 22) (bfs g m)) 0 = _ ∧ 1 ≤ bn (bst g (m / 22) (m % 22) (bfs g m))
    generalize bfs g m = B at ih
    by_cases hc : bb B = false ∧ m / 22 < bn B ∧ ∃ i, adv g (bS B (m / 22)) (m % 22) i
    · cases hl : lst (fun j => ∀ i, bS B j i ↔ Cl g (adv g (bS B (m / 22)) (m % 22)) i) (bn B) with
      | some j => rw [bst_old hc hl]; exact ih
      | none =>
        by_cases hn : bn B < 100
        · rw [bst_new hc hl hn]
          refine ⟨?_, by show 1 ≤ bn B + 1; omega⟩
          show va_up (bS B) (bn B) _ 0 = _
          rw [va_up_ne _ _ (by have := ih.2; omega)]
          exact ih.1
        · rw [bst_big hc hl hn]; exact ih
    · rw [bst_skip hc]; exact ih
/-- the tables' states: all there is to know of them -/
def Bk (g : Gm) (B : Bs) : Prop := (1 ≤ bn B) ∧ (bn B ≤ 100) ∧ (∀ q, q < bn B → ∀ i, bS B q i → vI g i) ∧ (∀ q, q < bn B → bS B q = Cl g (Kn (bS B q))) ∧ (bS B 0 = Cl g (fun i => i = 168)) ∧ (∀ q c t, bL B q c = some t → q < bn B ∧ t < bn B ∧ (∃ i, adv g (bS B q) c i) ∧ bS B t = Cl g (adv g (bS B q) c)) ∧ (∀ q c, c < 22 → q < bn B → (∃ i, adv g (bS B q) c i) → ∃ t, bL B q c = some t)
theorem Bk.n1 {g : Gm} {B : Bs} (h : Bk g B) : 1 ≤ bn B := h.1
theorem Bk.n100 {g : Gm} {B : Bs} (h : Bk g B) : bn B ≤ 100 := h.2.1
theorem Bk.v {g : Gm} {B : Bs} (h : Bk g B) : ∀ q, q < bn B → ∀ i, bS B q i → vI g i := h.2.2.1
theorem Bk.k {g : Gm} {B : Bs} (h : Bk g B) : ∀ q, q < bn B → bS B q = Cl g (Kn (bS B q)) := h.2.2.2.1
theorem Bk.s0 {g : Gm} {B : Bs} (h : Bk g B) : bS B 0 = Cl g (fun i => i = 168) := h.2.2.2.2.1
theorem Bk.l {g : Gm} {B : Bs} (h : Bk g B) : ∀ q c t, bL B q c = some t → q < bn B ∧ t < bn B ∧ (∃ i, adv g (bS B q) c i) ∧ bS B t = Cl g (adv g (bS B q) c) := h.2.2.2.2.2.1
theorem Bk.f {g : Gm} {B : Bs} (h : Bk g B) : ∀ q c, c < 22 → q < bn B → (∃ i, adv g (bS B q) c i) → ∃ t, bL B q c = some t := h.2.2.2.2.2.2
theorem Bk_of {g : Gm} (hw : gW g) (hb : bb (bfs g 2200) = false) : Bk g (bfs g 2200) := by
  have a := bfs_OK hw 2200
  have b := bfs_KV hw 2200
  have c := bfs_Cm hw 2200
  have d := bfs_S0 (g := g) 2200
  exact ⟨a.1, a.2.1, fun q hq => (b q hq).2, fun q hq => (b q hq).1, d.1, c.1, fun q c' h1 h2 h3 => c.2 hb q c' h1 (by have := a.2.1; omega) h2 h3⟩
theorem Bk_l0 {g : Gm} (hw : gW g) {B : Bs} (h : Bk g B) {q c t : Nat} (e : bL B q c = some t) : t ≠ 0 := by
  rintro rfl
  obtain ⟨_, _, _, h4⟩ := h.l q c 0 e
  rw [h.s0] at h4
  have : Cl g (adv g (bS B q) c) 168 := by rw [← h4]; exact Cl_in rfl
  have h5 := (Cl_krn hw (fun i hi => adv_krn hw hi) 168).mp ⟨this, Or.inr rfl⟩
  obtain ⟨j, e1, _, r, p, hr, hp, e2, _⟩ := h5
  have h6 := rl_6 hw hr
  omega
/-- an item before a symbol leads on -/
theorem Bk_on {g : Gm} {B : Bs} (h : Bk g B) {q r p : Nat} (hq : q < bn B) (hr : r < gn g ∨ r = 24) (hp : p < rl g r) (hc : rs g r p < 22) (hS : bS B q (7 * r + p)) : ∃ t, bL B q (rs g r p) = some t ∧ t < bn B ∧ bS B t (7 * r + p + 1) := by
  have ha : adv g (bS B q) (rs g r p) (7 * r + p + 1) := ⟨7 * r + p, rfl, hS, r, p, hr, hp, rfl, rfl⟩
  obtain ⟨t, ht⟩ := h.f q (rs g r p) hc hq ⟨_, ha⟩
  obtain ⟨_, h2, _, h4⟩ := h.l _ _ _ ht
  exact ⟨t, ht, h2, by rw [h4]; exact Cl_in ha⟩
/-- what the row behind the symbol can begin with -/
def rst (g : Gm) (r p b : Nat) : Prop := ro (Og g) (rs g r) (rl g r - (p + 1)) (p + 1) b
def clo (g : Gm) (B : Bs) (A : Nat → Nat → Nat → Prop) (q r p : Nat) : Prop := (∀ t q', A q (7 * r + p) t → bL B q (rs g r p) = some q' → A q' (7 * r + p + 1) t) ∧ ∀ r' t, r' < gn g → rs g r p = 14 + gk g r' → t < 14 → (rst g r p t ∨ (rst g r p 14 ∧ A q (7 * r + p) t)) → A q (7 * r') t
def aCl (g : Gm) (B : Bs) (A : Nat → Nat → Nat → Prop) : Prop := A 0 168 0 ∧ ∀ q r p, q < bn B → (r < gn g ∨ r = 24) → p < rl g r → bS B q (7 * r + p) → clo g B A q r p
def lA (g : Gm) (B : Bs) (q i t : Nat) : Prop := ∀ A, aCl g B A → A q i t
theorem lA_cl (g : Gm) (B : Bs) : aCl g B (lA g B) := by
  refine ⟨fun A hA => hA.1, fun q r p hq hr hp hS => ⟨fun t q' h e A hA => (hA.2 q r p hq hr hp hS).1 t q' (h A hA) e, fun r' t hr' e ht h A hA => (hA.2 q r p hq hr hp hS).2 r' t hr' e ht ?_⟩⟩
  rcases h with h | ⟨h1, h2⟩
  · exact Or.inl h
  · exact Or.inr ⟨h1, h2 A hA⟩
theorem lA_eq {g : Gm} {B : Bs} {A : Nat → Nat → Nat → Prop} (h1 : ∀ q i t, A q i t → lA g B q i t) (h2 : aCl g B A) (q i t : Nat) : A q i t ↔ lA g B q i t := ⟨h1 q i t, fun h => h A h2⟩
/-- casts -/
theorem lb_i64 (x : Int32) (i : Nat) (hi : i < 64) : lb x.toInt64 i = if i < 32 then bt x i else bt x 31 := by
  unfold lb bt
  rw [Int32.toBitVec_toInt64, BitVec.getLsbD_signExtend]
  simp only [hi, decide_true, Bool.true_and]
  split
  · rfl
  · rw [BitVec.msb_eq_getLsbD_last]
theorem bt_i32 (x : Int64) (i : Nat) (hi : i < 32) : bt x.toInt32 i = lb x i := by
  unfold lb bt
  rw [Int64.toBitVec_toInt32, BitVec.getLsbD_signExtend]
  simp [hi, show i < 64 by omega]
