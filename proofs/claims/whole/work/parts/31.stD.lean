/-! numbering the states -/
theorem sp_isCand {σ : tp_S} {q : Nat} (hq : q < 100) {K : Int32 → tp_S → Prop} (k1 : (∀ i, i < 192 → (ib σ 11 q i ↔ ib σ 14 0 i)) → K (nI 1) σ) (k0 : (¬ ∀ i, i < 192 → (ib σ 11 q i ↔ ib σ 14 0 i)) → K (nI 0) σ) : tp_W shC m_St_isCandidate 0 [some (.ref 10), some (.int (nI q)), none] [] σ (tp_Qi K) := by
  refine bk_St_isCandidate_0 _ ?_
  suffices h : ∀ (n w : Nat), w + n = 3 → (∀ i, i < 64 * w → (ib σ 11 q i ↔ ib σ 14 0 i)) → tp_W shC m_St_isCandidate 2 [some (.ref 10), some (.int (nI q)), some (.int (nI w))] [] σ (tp_Qi K) from h 3 0 rfl (fun i hi => by omega)
  intro n
  induction n with
  | zero =>
    intro w hw hs
    exact bk_St_isCandidate_2 _ _ ⟨fun _ => ⟨bo_1, k1 (fun i hi => hs i (by omega))⟩, fun h => absurd (nI_le (by omega) (by omega)) h⟩
  | succ n ih =>
    intro w hw hs
    refine bk_St_isCandidate_2 _ _ ⟨fun h => absurd ((nI_leI (by omega) (by omega)).mp h) (by omega), fun _ => ?_⟩
    rw [pk_mul, nI_add, nI_add, nI_clamp (by omega), nI_clamp (by omega), lcmp_0]
    refine ⟨vp_in_nI (by omega) (by decide), vp_in_nI (by omega) (by decide), fun e => ih (w + 1) (by omega) (fun i hi => ?_), fun e => ⟨bo_0, k0 (fun hall => e (lb_ext (fun b hb => ?_)))⟩⟩
    · by_cases z : i < 64 * w
      · exact hs i z
      · unfold ib
        rw [show 3 * q + i / 64 = q * 3 + w by omega, show 3 * 0 + i / 64 = w by omega, e]
    · have := hall (64 * w + b) (by omega)
      unfold ib at this
      rw [show 3 * q + (64 * w + b) / 64 = q * 3 + w by omega, show 3 * 0 + (64 * w + b) / 64 = w by omega, show (64 * w + b) % 64 = b by omega] at this
      cases c1 : lb (σ.2 11 (q * 3 + w)) b with
      | true => rw [this.mp c1]
      | false =>
        cases c2 : lb (σ.2 14 w) b with
        | false => rfl
        | true => rw [this.mpr c2] at c1; cases c1
/-- the least that holds -/
noncomputable def lst (P : Nat → Prop) : Nat → Option Nat
  | 0 => none
  | n + 1 => match lst P n with
    | some j => some j
    | none => match pd (P n) with
      | true => some n
      | false => none
theorem lst_none {P : Nat → Prop} : ∀ {n : Nat}, (∀ j, j < n → ¬ P j) → lst P n = none
  | 0, _ => rfl
  | n + 1, h => by
    unfold lst
    rw [lst_none (fun j hj => h j (by omega)), pd_f (h n (by omega))]
theorem lst_some {P : Nat → Prop} {q : Nat} (hq : P q) (hl : ∀ j, j < q → ¬ P j) : ∀ {n : Nat}, q < n → lst P n = some q
  | 0, h => by omega
  | n + 1, h => by
    unfold lst
    by_cases e : q = n
    · subst e
      rw [lst_none hl, pd_t hq]
    · rw [lst_some hq hl (show q < n by omega)]
theorem lst_lt {P : Nat → Prop} {q : Nat} : ∀ {n : Nat}, lst P n = some q → q < n ∧ P q
  | 0, h => by cases h
  | n + 1, h => by
    unfold lst at h
    split at h
    · next j hj =>
      cases h
      have := lst_lt hj
      exact ⟨by omega, this.2⟩
    · split at h
      · next hp => cases h; exact ⟨by omega, pd_e hp⟩
      · cases h
theorem lst_no {P : Nat → Prop} : ∀ {n : Nat}, lst P n = none → ∀ j, j < n → ¬ P j
  | 0, _, j, hj => by omega
  | n + 1, h, j, hj => by
    unfold lst at h
    split at h
    · cases h
    · next hn =>
      split at h
      · cases h
      · next hp =>
        by_cases e : j = n
        · subst e
          intro hP
          rw [pd_t hP] at hp
          cases hp
        · exact lst_no hn j (by omega)
/-- states by breadth first search: how many, their items, to which a column leads, too many -/
abbrev Bs : Type := Nat × (Nat → Nat → Prop) × (Nat → Nat → Option Nat) × Bool
abbrev bn (B : Bs) : Nat := B.1
abbrev bS (B : Bs) : Nat → Nat → Prop := B.2.1
abbrev bL (B : Bs) : Nat → Nat → Option Nat := B.2.2.1
abbrev bb (B : Bs) : Bool := B.2.2.2
def b0 (g : Gm) : Bs := (1, fun _ => Cl g (fun i => i = 168), fun _ _ => none, false)
def lup (L : Nat → Nat → Option Nat) (q c t : Nat) : Nat → Nat → Option Nat := fun a b => if a = q ∧ b = c then some t else L a b
noncomputable def bst (g : Gm) (q c : Nat) (B : Bs) : Bs := match pd (bb B = false ∧ q < bn B ∧ ∃ i, adv g (bS B q) c i) with
  | false => B
  | true => match lst (fun j => ∀ i, bS B j i ↔ Cl g (adv g (bS B q) c) i) (bn B) with
    | some j => (bn B, bS B, lup (bL B) q c j, false)
    | none => match Nat.blt (bn B) 100 with
      | true => (bn B + 1, va_up (bS B) (bn B) (Cl g (adv g (bS B q) c)), lup (bL B) q c (bn B), false)
      | false => (bn B, bS B, bL B, true)
noncomputable def bfs (g : Gm) : Nat → Bs
  | 0 => b0 g
  | m + 1 => bst g (m / 22) (m % 22) (bfs g m)
theorem bst_skip {g : Gm} {q c : Nat} {B : Bs} (h : ¬ (bb B = false ∧ q < bn B ∧ ∃ i, adv g (bS B q) c i)) : bst g q c B = B := by
  unfold bst; rw [pd_f h]
theorem bst_old {g : Gm} {q c j : Nat} {B : Bs} (h : bb B = false ∧ q < bn B ∧ ∃ i, adv g (bS B q) c i) (hl : lst (fun j => ∀ i, bS B j i ↔ Cl g (adv g (bS B q) c) i) (bn B) = some j) : bst g q c B = (bn B, bS B, lup (bL B) q c j, false) := by
  unfold bst; rw [pd_t h, hl]
theorem bst_new {g : Gm} {q c : Nat} {B : Bs} (h : bb B = false ∧ q < bn B ∧ ∃ i, adv g (bS B q) c i) (hl : lst (fun j => ∀ i, bS B j i ↔ Cl g (adv g (bS B q) c) i) (bn B) = none) (hn : bn B < 100) : bst g q c B = (bn B + 1, va_up (bS B) (bn B) (Cl g (adv g (bS B q) c)), lup (bL B) q c (bn B), false) := by
  unfold bst; rw [pd_t h, hl]
  have : Nat.blt (bn B) 100 = true := by simpa [Nat.blt_eq] using hn
  rw [this]
theorem bst_big {g : Gm} {q c : Nat} {B : Bs} (h : bb B = false ∧ q < bn B ∧ ∃ i, adv g (bS B q) c i) (hl : lst (fun j => ∀ i, bS B j i ↔ Cl g (adv g (bS B q) c) i) (bn B) = none) (hn : ¬ bn B < 100) : bst g q c B = (bn B, bS B, bL B, true) := by
  unfold bst; rw [pd_t h, hl]
  have : Nat.blt (bn B) 100 = false := by
    cases e : Nat.blt (bn B) 100 with
    | false => rfl
    | true => exact absurd (by simpa [Nat.blt_eq] using e) hn
  rw [this]
theorem bfs_big {g : Gm} {m : Nat} (h : bb (bfs g m) = true) : ∀ k, bfs g (m + k) = bfs g m
  | 0 => rfl
  | k + 1 => by
    show bst g _ _ (bfs g (m + k)) = _
    rw [bfs_big h k, bst_skip (fun z => by rw [h] at z; exact absurd z.1 (by decide))]
theorem bfs_end {g : Gm} {m : Nat} (h : bn (bfs g m) ≤ m / 22) : ∀ k, bfs g (m + k) = bfs g m
  | 0 => rfl
  | k + 1 => by
    show bst g ((m + k) / 22) ((m + k) % 22) (bfs g (m + k)) = _
    rw [bfs_end h k, bst_skip (fun z => by
      have : m / 22 ≤ (m + k) / 22 := Nat.div_le_div_right (by omega)
      omega)]
theorem Cl_lt {g : Gm} (hw : gW g) {T : Nat → Prop} (hT : ∀ i, T i → i < 170) {i : Nat} (h : Cl g T i) : i < 170 := h (fun i => i < 170) hT (fun j r _ hr _ => by have := hw.1; omega)
theorem adv_lt {g : Gm} (hw : gW g) {S : Nat → Prop} {c i : Nat} (h : adv g S c i) : i < 170 := by
  obtain ⟨j, rfl, _, h⟩ := h
  have := (bcs_lt hw h).1
  omega
/-- what always holds of the search -/
def bOK (B : Bs) : Prop := 1 ≤ bn B ∧ bn B ≤ 100 ∧ (∀ q i, bS B q i → i < 170) ∧ (∀ q c t, bL B q c = some t → q < bn B ∧ t < bn B)
theorem b0_OK {g : Gm} (hw : gW g) : bOK (b0 g) := ⟨Nat.le_refl _, by show 1 ≤ 100; decide, fun q i h => Cl_lt hw (fun i e => by omega) h, fun q c t h => by cases h⟩
theorem bst_OK {g : Gm} (hw : gW g) {q c : Nat} {B : Bs} (h : bOK B) : bOK (bst g q c B) := by
  by_cases hc : bb B = false ∧ q < bn B ∧ ∃ i, adv g (bS B q) c i
  · cases hl : lst (fun j => ∀ i, bS B j i ↔ Cl g (adv g (bS B q) c) i) (bn B) with
    | some j =>
      rw [bst_old hc hl]
      refine ⟨h.1, h.2.1, h.2.2.1, fun a b t e => ?_⟩
      have e' : (if a = q ∧ b = c then some j else bL B a b) = some t := e
      by_cases z : a = q ∧ b = c
      · rw [if_pos z] at e'
        cases e'
        exact ⟨by rw [z.1]; exact hc.2.1, (lst_lt hl).1⟩
      · rw [if_neg z] at e'
        exact h.2.2.2 a b t e'
    | none =>
      by_cases hn : bn B < 100
      · rw [bst_new hc hl hn]
        refine ⟨by show 1 ≤ bn B + 1; omega, by show bn B + 1 ≤ 100; omega, fun a i hi => ?_, fun a b t e => ?_⟩
        · have hi' : va_up (bS B) (bn B) (Cl g (adv g (bS B q) c)) a i := hi
          by_cases z : a = bn B
          · rw [z, va_up_self] at hi'
            exact Cl_lt hw (fun i => adv_lt hw) hi'
          · rw [va_up_ne _ _ z] at hi'
            exact h.2.2.1 a i hi'
        · have e' : (if a = q ∧ b = c then some (bn B) else bL B a b) = some t := e
          show a < bn B + 1 ∧ t < bn B + 1
          by_cases z : a = q ∧ b = c
          · rw [if_pos z] at e'
            cases e'
            have := hc.2.1
            exact ⟨by omega, by omega⟩
          · rw [if_neg z] at e'
            have := h.2.2.2 a b t e'
            omega
      · rw [bst_big hc hl hn]
        exact h
  · rw [bst_skip hc]; exact h
theorem bfs_OK {g : Gm} (hw : gW g) : ∀ m, bOK (bfs g m)
  | 0 => b0_OK hw
  | m + 1 => bst_OK hw (bfs_OK hw m)
/-- the class's states are those -/
def mv (o : Option Nat) : Int32 := match o with
  | none => nI 0
  | some t => nI (1000 + t)
def stC (B : Bs) (σ : tp_S) : Prop := σ.1 10 6 = nI (bn B) ∧ σ.1 10 7 = bI (bb B) ∧ (∀ q, q < bn B → ∀ i, bS B q i ↔ (i < 192 ∧ ib σ 11 q i)) ∧ ∀ q c, q < 100 → c < 22 → σ.1 9 (22 * q + c) = mv (bL B q c)
theorem sL_at {σ : tp_S} {a : Nat} {f : Nat → Int64} : (tp_sL σ a f).2 a = f := va_up_self _ _ _
/-- the candidate's number -/
theorem sp_number {g : Gm} {B : Bs} {σ : tp_S} (hB : bOK B) (hst : stC B σ) {C : Nat → Prop} (hC : ∀ i, cd σ i ↔ C i) {K : Int32 → tp_S → Prop}
    (k1 : ∀ j, lst (fun j => ∀ i, bS B j i ↔ C i) (bn B) = some j → K (nI j) σ)
    (k2 : lst (fun j => ∀ i, bS B j i ↔ C i) (bn B) = none → bn B < 100 → ∀ τ, ke [10, 11] σ τ → τ.1 10 6 = nI (bn B + 1) → τ.1 10 7 = σ.1 10 7 → (∀ q i, q < 100 → i < 192 → (ib τ 11 q i ↔ (if q = bn B then ib σ 14 0 i else ib σ 11 q i))) → K (nI (bn B)) τ)
    (k3 : lst (fun j => ∀ i, bS B j i ↔ C i) (bn B) = none → ¬ bn B < 100 → K (-1) σ) : tp_W shC m_St_numberOfCandidate 0 [some (.ref 10), none] [] σ (tp_Qi K) := by
  have hn := hB.2.1
  have eqv : ∀ q, q < bn B → ((∀ i, i < 192 → (ib σ 11 q i ↔ ib σ 14 0 i)) ↔ ∀ i, bS B q i ↔ C i) := by
    intro q hq
    constructor
    · intro h i
      rw [hst.2.2.1 q hq i, ← hC i]
      unfold cd
      constructor
      · rintro ⟨a, b⟩; exact ⟨a, (h i a).mp b⟩
      · rintro ⟨a, b⟩; exact ⟨a, (h i a).mpr b⟩
    · intro h i hi
      have := h i
      rw [hst.2.2.1 q hq i, ← hC i] at this
      unfold cd at this
      constructor
      · intro z; exact (this.mp ⟨hi, z⟩).2
      · intro z; exact (this.mpr ⟨hi, z⟩).2
  refine bk_St_numberOfCandidate_0 ?_
  suffices h : ∀ (n q : Nat), q + n = bn B → (∀ j, j < q → ¬ ∀ i, bS B j i ↔ C i) → tp_W shC m_St_numberOfCandidate 2 [some (.ref 10), some (.int (nI q))] [] σ (tp_Qi K) from h (bn B) 0 (Nat.zero_add _) (fun j hj => absurd hj (Nat.not_lt_zero j))
  intro n
  induction n with
  | zero =>
    intro q hq hno
    have hl : lst (fun j => ∀ i, bS B j i ↔ C i) (bn B) = none := lst_none (fun j hj => hno j (by omega))
    refine bk_St_numberOfCandidate_2 _ ?_
    rw [hst.1]
    refine ⟨fun _ => ⟨fun hlt => ?_, fun hge => k3 hl (fun z => hge ((nI_ltI (by omega) (by decide)).mpr z))⟩, fun h => absurd (nI_le (by omega) (by omega)) h⟩
    have hlt' : bn B < 100 := (nI_ltI (by omega) (by decide)).mp hlt
    rw [pk_mul, nI_clamp (by decide), nI_clamp (by decide), nI_clamp (by omega), nI_add, pk_sub (by omega), Nat.add_sub_cancel]
    refine ⟨nI_pos (by decide), nI_pos (by omega), nI_pos (by decide), by omega, by omega, k2 hl hlt' _ ?_ ?_ ?_ (fun q i hq hi => ?_)⟩
    · refine ⟨fun a ha => ?_, fun a ha => ?_⟩
      · rw [si_nc (fun e => ha (by rw [e]; decide))]; rfl
      · show va_up σ.2 11 _ a = σ.2 a
        rw [va_up_ne _ _ (fun e => ha (by rw [e]; decide))]
    · rw [si_at]
    · rw [si_nj (by decide)]; rfl
    · unfold ib
      rw [si_2, sL_at]
      unfold va_cpy
      by_cases e : q = bn B
      · subst e
        rw [if_pos (by omega), if_pos rfl, show 0 + (3 * bn B + i / 64 - bn B * 3) = 3 * 0 + i / 64 by omega]
      · rw [if_neg (by omega), if_neg e]
  | succ n ih =>
    intro q hq hno
    refine bk_St_numberOfCandidate_2 _ ?_
    rw [hst.1, nI_add, nI_add]
    refine ⟨fun h => absurd ((nI_leI (by omega) (by omega)).mp h) (by omega), fun _ => sp_isCand (by omega) (fun h => ⟨fun z => absurd z n1_0, fun _ => k1 q (lst_some ((eqv q (by omega)).mp h) hno (by omega))⟩) (fun h => ⟨fun _ => ih (q + 1) (by omega) (fun j hj => ?_), fun z => absurd rfl z⟩)⟩
    by_cases e : j = q
    · subst e
      exact fun z => h ((eqv j (by omega)).mpr z)
    · exact hno j (by omega)
