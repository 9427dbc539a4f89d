/-! numbers and states -/
theorem si_1 (σ : tp_S) (a j : Nat) (x : Int32) (b k : Nat) : (tp_si σ a j x).1 b k = if b = a then (if k = j then x else σ.1 b k) else σ.1 b k := by
  unfold tp_si va_up upd
  by_cases h : b = a
  · subst h; simp
  · simp [h]
theorem si_ne {σ : tp_S} {a j : Nat} {x : Int32} {b k : Nat} (h : b ≠ a) : (tp_si σ a j x).1 b k = σ.1 b k := by rw [si_1, if_neg h]
theorem si_nc {σ : tp_S} {a j : Nat} {x : Int32} {b : Nat} (h : b ≠ a) : (tp_si σ a j x).1 b = σ.1 b := by
  funext k; exact si_ne h
theorem si_nj {σ : tp_S} {a j : Nat} {x : Int32} {k : Nat} (h : k ≠ j) : (tp_si σ a j x).1 a k = σ.1 a k := by rw [si_1, if_pos rfl, if_neg h]
theorem si_at {σ : tp_S} {a j : Nat} {x : Int32} : (tp_si σ a j x).1 a j = x := by rw [si_1, if_pos rfl, if_pos rfl]
theorem si_2 (σ : tp_S) (a j : Nat) (x : Int32) : (tp_si σ a j x).2 = σ.2 := rfl
theorem sl_1 (σ : tp_S) (a j : Nat) (x : Int64) : (tp_sl σ a j x).1 = σ.1 := rfl
theorem sl_2 (σ : tp_S) (a j : Nat) (x : Int64) (b k : Nat) : (tp_sl σ a j x).2 b k = if b = a then (if k = j then x else σ.2 b k) else σ.2 b k := by
  unfold tp_sl va_up vp_updL
  by_cases h : b = a
  · subst h; simp
  · simp [h]
theorem sl_ne {σ : tp_S} {a j : Nat} {x : Int64} {b k : Nat} (h : b ≠ a) : (tp_sl σ a j x).2 b k = σ.2 b k := by rw [sl_2, if_neg h]
theorem sl_nc {σ : tp_S} {a j : Nat} {x : Int64} {b : Nat} (h : b ≠ a) : (tp_sl σ a j x).2 b = σ.2 b := by
  funext k; exact sl_ne h
theorem sl_nj {σ : tp_S} {a j : Nat} {x : Int64} {k : Nat} (h : k ≠ j) : (tp_sl σ a j x).2 a k = σ.2 a k := by rw [sl_2, if_pos rfl, if_neg h]
theorem sl_at {σ : tp_S} {a j : Nat} {x : Int64} : (tp_sl σ a j x).2 a j = x := by rw [sl_2, if_pos rfl, if_pos rfl]
theorem bo_0 : (nI 0 = 0 ∨ nI 0 = 1) := Or.inl rfl
theorem bo_1 : (nI 1 = 0 ∨ nI 1 = 1) := Or.inr rfl
theorem n1_0 : ¬ nI 1 = 0 := by decide
theorem nI_z {a : Nat} (h : a < 2 ^ 31) : nI a = 0 ↔ a = 0 := by
  rw [show (0 : Int32) = nI 0 from rfl]; exact nI_eq h (by decide)
theorem nI_n0 {a : Nat} (h : a < 2 ^ 31) : ¬ nI a < 0 := nI_pos h
theorem nI_neg1 {a : Nat} (h : a < 2 ^ 31) : ¬ nI a = -1 := by
  intro e
  have := congrArg Int32.toInt e
  rw [nI_toInt h] at this
  have e2 : (-1 : Int32).toInt = -1 := by decide
  omega
theorem m1_neg : (-1 : Int32) < 0 := by decide
/-- a number of the script against a bound -/
theorem nI_ix (x : Int32) (n : Nat) (hn : n < 2 ^ 31) : (x < 0 ∧ ¬ ∃ j, j < n ∧ x = nI j) ∨ (¬ x < 0 ∧ nI n ≤ x) ∨ ∃ j, j < n ∧ x = nI j ∧ ¬ x < 0 ∧ ¬ nI n ≤ x := by
  rcases pk_ix x hn with h | h | ⟨j, h1, h2⟩
  · exact Or.inl ⟨h, fun ⟨j, a, b⟩ => by rw [b] at h; exact nI_pos (by omega) h⟩
  · by_cases h0 : x < 0
    · exact Or.inl ⟨h0, fun ⟨j, a, b⟩ => by rw [b] at h0; exact nI_pos (by omega) h0⟩
    · exact Or.inr (Or.inl ⟨h0, h⟩)
  · exact Or.inr (Or.inr ⟨j, h1, h2, by rw [h2]; exact nI_pos (by omega), by rw [h2]; exact nI_ge h1 hn⟩)
/-! what ties the two -/
abbrev Gm : Type := Nat × (Nat → Nat) × (Nat → Nat) × (Nat → Nat → Nat)
abbrev gn (g : Gm) : Nat := g.1
abbrev gk (g : Gm) : Nat → Nat := g.2.1
abbrev gl (g : Gm) : Nat → Nat := g.2.2.1
abbrev gs (g : Gm) : Nat → Nat → Nat := g.2.2.2
def s6 (c : Nat) : Nat := if c < 14 then c else c + 6
def ruC (σ : tp_S) (r k l : Nat) (s : Nat → Nat) : Prop := σ.1 2 r = nI k ∧ σ.1 3 r = nI l ∧ (∀ p, p < l → σ.1 4 (7 * r + p) = nI (s p)) ∧ σ.1 4 (7 * r + l) = -1
def ruM (μ : tp_S) (r k l : Nat) (s : Nat → Nat) : Prop := μ.1 1 r = nI k ∧ μ.1 3 r = nI l ∧ ∀ p, p < l → μ.1 2 (6 * r + p) = nI (s6 (s p))
def ruW (k l : Nat) (s : Nat → Nat) : Prop := k < 8 ∧ l ≤ 6 ∧ ∀ p, p < l → 1 ≤ s p ∧ s p < 22
def bI (b : Bool) : Int32 := if b then 1 else 0
def gW (g : Gm) : Prop := gn g ≤ 24 ∧ ∀ r, r < gn g → ruW (gk g r) (gl g r) (gs g r)
/-- the class holds the grammar g, and an open rule -/
def gC (g : Gm) (op : Bool) (ok ol : Nat) (os : Nat → Nat) (σ : tp_S) : Prop := σ.1 1 3 = nI (gn g) ∧ σ.1 1 4 = bI op ∧ (∀ r, r < gn g → ruC σ r (gk g r) (gl g r) (gs g r)) ∧ (op = true → ruC σ (gn g) ok ol os) ∧ (∀ r, r < 24 → ∃ v, v ≤ 6 ∧ σ.1 3 r = nI v) ∧ σ.1 3 24 = nI 1 ∧ σ.1 4 168 = nI 14 ∧ σ.1 4 169 = -1
def gM (g : Gm) (op : Bool) (ok ol : Nat) (os : Nat → Nat) (μ : tp_S) : Prop := μ.1 0 4 = nI (gn g + op.toNat) ∧ μ.1 0 5 = bI op ∧ (∀ r, r < gn g → ruM μ r (gk g r) (gl g r) (gs g r)) ∧ (op = true → ruM μ (gn g) ok ol os) ∧ μ.1 1 24 = -1 ∧ μ.1 2 144 = nI 20 ∧ μ.1 3 24 = nI 1
def tkR (tc : Nat) (tk : Nat → Nat) (σ μ : tp_S) : Prop := tc ≤ 100 ∧ σ.1 24 4 = nI tc ∧ μ.1 0 7 = nI tc ∧ ∀ i, i < tc → 1 ≤ tk i ∧ tk i < 14 ∧ σ.1 25 i = nI (tk i) ∧ μ.1 4 i = nI (tk i)
def paR (σ μ : tp_S) : Prop := σ.1 24 5 = μ.1 0 28 ∧ σ.1 24 6 = μ.1 0 30 ∧ ∃ rd, rd ≤ 2000 ∧ σ.1 24 7 = nI rd ∧ μ.1 0 27 = nI rd ∧ ∀ k, k < rd → σ.1 27 k = μ.1 18 k
/-- the cells of tables: what is not of them may change -/
def fC (σ σ' : tp_S) : Prop := (∀ a, a ∈ [6, 7, 8, 9, 10, 16, 18, 19, 20, 21, 22] → σ'.1 a = σ.1 a) ∧ ∀ a, a ∈ [11, 16] → σ'.2 a = σ.2 a
def fM (μ μ' : tp_S) : Prop := (∀ a, a ∈ [5, 6, 7, 9, 10, 12, 13, 14, 15, 16, 17] → μ'.1 a = μ.1 a) ∧ ∀ j, j ∈ [9, 16, 19, 25] → μ'.1 0 j = μ.1 0 j
section REL
variable (TC TM : Gm → tp_S → Prop)
def Rel (σ μ : tp_S) : Prop := ∃ (g : Gm) (op : Bool) (ok ol : Nat) (os : Nat → Nat) (tc : Nat) (tk : Nat → Nat), gW g ∧ (op = true → gn g < 24 ∧ ruW ok ol os) ∧ gC g op ok ol os σ ∧ gM g op ok ol os μ ∧ tkR tc tk σ μ ∧ paR σ μ ∧ (σ.1 0 7 = 0 ∨ σ.1 0 7 = 1) ∧ (σ.1 0 7 = 0 → TC g σ) ∧ (μ.1 0 8 = 0 ∨ μ.1 0 8 = 1) ∧ (μ.1 0 8 = 1 → TM g μ)
end REL
