/-! the pure machine: numbers in cells of a fixed shape; what it does is what the bytecode does (tp_go) -/
abbrev tp_S : Type := (Nat → Nat → Int32) × (Nat → Nat → Int64)
/-- a cell: an object (its class, its fields: a reference to a cell, or a number), or an array (0 int, 1 boolean, 2 long; its length) -/
abbrev tp_E : Type := (Nat × List (Option Nat)) ⊕ (Nat × Nat)
abbrev tp_Q : Type := Option Value → tp_S → Prop
abbrev tp_Ls : Type := List (Option Value)
abbrev tp_G : Type := va_G × (Nat → Nat) × (Nat → ClassId)
def tp_cv (ad : Nat → Nat) : Value → Value
  | .ref k => .ref (ad k)
  | .int x => .int x
  | .long x => .long x
  | .float x => .float x
  | .double x => .double x
  | .null => .null
  | .retAddr x => .retAddr x
def tp_fd (ad : Nat → Nat) (g : Nat → Int32) (j : Nat) : Option Nat → Value
  | some b => .ref (ad b)
  | none => .int (g j)
def tp_mk (ad : Nat → Nat) (cA : Nat → ClassId) (σ : tp_S) (k : Nat) : tp_E → va_E
  | .inl o => .inr (o.1, o.2.mapIdx (tp_fd ad (σ.1 k)))
  | .inr a => .inl (cA a.1, a.2, match a.1 with
    | 2 => .inr (.inl (σ.2 k))
    | _ => .inl (σ.1 k))
def tp_ws (ad : Nat → Nat) (cA : Nat → ClassId) (sh : List tp_E) (σ : tp_S) : va_W := sh.mapIdx (fun k e => (ad k, tp_mk ad cA σ k e))
def tp_tys (cA : Nat → ClassId) : List (ClassId × FieldType) := [(cA 0, .int), (cA 1, .boolean), (cA 2, .long)]
def tp_si (σ : tp_S) (a j : Nat) (x : Int32) : tp_S := (va_up σ.1 a (upd (σ.1 a) j x), σ.2)
def tp_sl (σ : tp_S) (a j : Nat) (x : Int64) : tp_S := (σ.1, va_up σ.2 a (vp_updL (σ.2 a) j x))
def tp_sL (σ : tp_S) (a : Nat) (f : Nat → Int64) : tp_S := (σ.1, va_up σ.2 a f)
theorem tp_ws_at (ad : Nat → Nat) (cA : Nat → ClassId) (sh : List tp_E) (σ : tp_S) (k : Nat) (e : tp_E) (h : sh[k]? = some e) : (tp_ws ad cA sh σ)[k]? = some (ad k, tp_mk ad cA σ k e) := by
  simp [tp_ws, List.getElem?_mapIdx, h]
theorem tp_ws_len (ad : Nat → Nat) (cA : Nat → ClassId) (sh : List tp_E) (σ : tp_S) : (tp_ws ad cA sh σ).length = sh.length := by
  simp [tp_ws]
theorem tp_ws_D {A : Nat → Prop} {ad : Nat → Nat} {cA : Nat → ClassId} {sh : List tp_E} {σ : tp_S} (hi : ∀ i j, i < sh.length → j < sh.length → ad i = ad j → i = j) (hA : ∀ i, i < sh.length → A (ad i)) : va_D A (tp_ws ad cA sh σ) := by
  have key : ∀ (k : Nat) (q : Nat × va_E), (tp_ws ad cA sh σ)[k]? = some q → k < sh.length ∧ q.1 = ad k := by
    intro k q h
    have hk : k < sh.length := by
      have := (List.getElem?_eq_some_iff.mp h).1
      rwa [tp_ws_len] at this
    refine ⟨hk, ?_⟩
    rw [tp_ws_at ad cA sh σ k sh[k] (List.getElem?_eq_getElem hk)] at h
    exact (congrArg Prod.fst (Option.some.inj h)).symm
  refine ⟨fun i j p q hp hq e => ?_, fun k q h => ?_⟩
  · obtain ⟨a1, a2⟩ := key i p hp
    obtain ⟨b1, b2⟩ := key j q hq
    exact hi i j a1 b1 (by rw [← a2, ← b2]; exact e)
  · obtain ⟨a1, a2⟩ := key k q h
    rw [a2]; exact hA k a1
/-- a world where one cell alone has changed -/
theorem tp_ws_set (ad : Nat → Nat) (cA : Nat → ClassId) (sh : List tp_E) (σ τ : tp_S) (k : Nat) (e : tp_E) (h : sh[k]? = some e) (w : va_E) (hw : tp_mk ad cA τ k e = w) (ho : ∀ j f, j ≠ k → sh[j]? = some f → tp_mk ad cA τ j f = tp_mk ad cA σ j f) : (tp_ws ad cA sh σ).set k (ad k, w) = tp_ws ad cA sh τ := by
  have hk : k < sh.length := (List.getElem?_eq_some_iff.mp h).1
  refine List.ext_getElem? (fun j => ?_)
  by_cases hj : j = k
  · subst hj
    rw [List.getElem?_set_self (by rw [tp_ws_len]; exact hk), tp_ws_at ad cA sh τ j e h, hw]
  · rw [List.getElem?_set_ne (fun q => hj q.symm)]
    cases hs : sh[j]? with
    | none =>
      have : sh.length ≤ j := by simpa using hs
      rw [List.getElem?_eq_none (by rw [tp_ws_len]; exact this), List.getElem?_eq_none (by rw [tp_ws_len]; exact this)]
    | some f => rw [tp_ws_at ad cA sh σ j f hs, tp_ws_at ad cA sh τ j f hs, ho j f hj hs]
theorem tp_mk_up (ad : Nat → Nat) (cA : Nat → ClassId) (σ τ : tp_S) (j : Nat) (f : tp_E) (h1 : τ.1 j = σ.1 j) (h2 : τ.2 j = σ.2 j) : tp_mk ad cA τ j f = tp_mk ad cA σ j f := by
  cases f with
  | inl o => simp only [tp_mk, h1]
  | inr a => simp only [tp_mk, h1, h2]
theorem tp_cv_cat (ad : Nat → Nat) (v : Value) : (tp_cv ad v).category = v.category := by cases v <;> rfl
theorem tp_cv_sum (ad : Nat → Nat) (l : List Value) : ((l.map (tp_cv ad)).map fun v => v.category).sum = (l.map fun v => v.category).sum := by
  induction l with
  | nil => rfl
  | cons a l ih => simp only [List.map_cons, List.sum_cons, tp_cv_cat, ih]
/-- an instruction, and what is read beside it: a number, a place (of a branch, of a field), a switch's pairs -/
abbrev tp_N : Type := Instr × Int32 × Nat × List (Int32 × Nat)
/-- a method: name, bytes, locals, what it returns, its class, frames and words below it, its length, its code -/
abbrev tp_M : Type := MethodName × ByteArray × Nat × Option FieldType × Nat × Nat × Nat × Nat × (Nat → Option tp_N)
abbrev tp_y (M : tp_M) : MethodName := M.1
abbrev tp_b (M : tp_M) : ByteArray := M.2.1
abbrev tp_ml (M : tp_M) : Nat := M.2.2.1
abbrev tp_rt (M : tp_M) : Option FieldType := M.2.2.2.1
abbrev tp_o (M : tp_M) : Nat := M.2.2.2.2.1
abbrev tp_f (M : tp_M) : Nat := M.2.2.2.2.2.1
abbrev tp_w (M : tp_M) : Nat := M.2.2.2.2.2.2.1
abbrev tp_n (M : tp_M) : Nat := M.2.2.2.2.2.2.2.1
abbrev tp_c (M : tp_M) : Nat → Option tp_N := M.2.2.2.2.2.2.2.2
def tp_in (M : tp_M) (pc : Nat) : Option tp_N := match Nat.blt pc (tp_n M) with
  | true => tp_c M pc
  | false => none
abbrev tp_rm (M : tp_M) : Room := { frames := tp_f M, cells := 0, slots := 0, locals := tp_w M }
