/-! packing, as numbers -/
def wd (n row : Nat) : Nat := if row < 100 then (if row < n then 14 else 0) else n
def hit (V : Nat → Nat → Nat) (row v k : Nat) : Prop := if row < 100 then V row k = 3000 + v else (V row k = v ∧ 0 < v)
noncomputable def bN (p : Prop) : Nat := match pd p with
  | true => 1
  | false => 0
theorem bN_t {p : Prop} (h : p) : bN p = 1 := by unfold bN; rw [pd_t h]
theorem bN_f {p : Prop} (h : ¬ p) : bN p = 0 := by unfold bN; rw [pd_f h]
noncomputable def cn (n : Nat) (V : Nat → Nat → Nat) (row v : Nat) : Nat := sm (fun k => bN (hit V row v k)) (wd n row)
/-- the first that is greatest -/
def am (f : Nat → Nat) : Nat → Nat
  | 0 => 0
  | k + 1 => if f (am f k) < f (k + 1) then k + 1 else am f k
theorem am_le (f : Nat → Nat) : ∀ k, am f k ≤ k
  | 0 => Nat.le_refl _
  | k + 1 => by
    unfold am
    have := am_le f k
    split <;> omega
noncomputable def dfl (n : Nat) (V : Nat → Nat → Nat) (row : Nat) : Option Nat := if 0 < cn n V row (am (cn n V row) 99) then some (am (cn n V row) 99) else none
noncomputable def dvl (n : Nat) (V : Nat → Nat → Nat) (row : Nat) : Nat := match dfl n V row with
  | none => 0
  | some v => if row < 100 then 3000 + v else v
noncomputable def en (n : Nat) (V : Nat → Nat → Nat) (row k : Nat) : Nat := if V row k = dvl n V row then 0 else V row k
noncomputable def cz (n : Nat) (V : Nat → Nat → Nat) (row k : Nat) : Nat := sm (fun k => if en n V row k = 0 then 0 else 1) k
noncomputable def ct (n : Nat) (V : Nat → Nat → Nat) (row : Nat) : Nat := cz n V row (wd n row)
theorem wd_le {n row : Nat} (hn : n ≤ 100) : wd n row ≤ 100 := by
  unfold wd
  split
  · split <;> omega
  · exact hn
theorem cz_le {n : Nat} {V : Nat → Nat → Nat} {row : Nat} : ∀ k, cz n V row k ≤ k
  | 0 => Nat.le_refl _
  | k + 1 => by
    have := cz_le (n := n) (V := V) (row := row) k
    show cz n V row k + (if en n V row k = 0 then 0 else 1) ≤ k + 1
    split <;> omega
theorem cz_z {n : Nat} {V : Nat → Nat → Nat} {row k : Nat} (h : en n V row k = 0) : cz n V row (k + 1) = cz n V row k := by
  show cz n V row k + (if en n V row k = 0 then 0 else 1) = _
  rw [if_pos h]; rfl
theorem cz_s {n : Nat} {V : Nat → Nat → Nat} {row k : Nat} (h : ¬ en n V row k = 0) : cz n V row (k + 1) = cz n V row k + 1 := by
  show cz n V row k + (if en n V row k = 0 then 0 else 1) = _
  rw [if_neg h]
theorem cz_mono {n : Nat} {V : Nat → Nat → Nat} {row a : Nat} : ∀ {b : Nat}, a ≤ b → cz n V row a ≤ cz n V row b := by
  intro b h
  induction h with
  | refl => exact Nat.le_refl _
  | step _ ih =>
    rename_i m _
    refine Nat.le_trans ih ?_
    show cz n V row m ≤ cz n V row m + (if en n V row m = 0 then 0 else 1)
    omega
theorem ct_0 {n : Nat} {V : Nat → Nat → Nat} {row : Nat} (h : wd n row = 0) : ct n V row = 0 := by
  unfold ct; rw [h]; rfl
theorem ct_le {n : Nat} (hn : n ≤ 100) {V : Nat → Nat → Nat} {row : Nat} : ct n V row ≤ 100 := Nat.le_trans (cz_le _) (wd_le hn)
theorem ct_pos {n : Nat} {V : Nat → Nat → Nat} {row k : Nat} (hk : k < wd n row) (h : ¬ en n V row k = 0) : 0 < ct n V row := by
  have h1 : cz n V row (k + 1) ≤ ct n V row := cz_mono (by omega)
  rw [cz_s h] at h1
  omega
/-- places: owner and entry; bases; length -/
abbrev Pt : Type := (Nat → Option (Nat × Nat)) × (Nat → Option Nat) × Nat
abbrev po (P : Pt) : Nat → Option (Nat × Nat) := P.1
abbrev pb (P : Pt) : Nat → Option Nat := P.2.1
abbrev pl (P : Pt) : Nat := P.2.2
def fit (n : Nat) (V : Nat → Nat → Nat) (row : Nat) (own : Nat → Option (Nat × Nat)) (b : Nat) : Prop := ∀ k, k < wd n row → ¬ en n V row k = 0 → own (b + k) = none
noncomputable def bse (n : Nat) (V : Nat → Nat → Nat) (row : Nat) (own : Nat → Option (Nat × Nat)) (len : Nat) : Nat := match lst (fit n V row own) len with
  | some b => b
  | none => len
noncomputable def pf (n : Nat) (V : Nat → Nat → Nat) (row b : Nat) (own : Nat → Option (Nat × Nat)) (len : Nat) : Nat → (Nat → Option (Nat × Nat)) × Nat
  | 0 => (own, len)
  | k + 1 => if en n V row k = 0 then pf n V row b own len k else (va_up (pf n V row b own len k).1 (b + k) (some (row, en n V row k)), max (pf n V row b own len k).2 (b + k + 1))
noncomputable def lay (n : Nat) (V : Nat → Nat → Nat) (row : Nat) (P : Pt) : Pt := ((pf n V row (bse n V row (po P) (pl P)) (po P) (pl P) (wd n row)).1, va_up (pb P) row (some (bse n V row (po P) (pl P))), (pf n V row (bse n V row (po P) (pl P)) (po P) (pl P) (wd n row)).2)
noncomputable def sst (n : Nat) (V : Nat → Nat → Nat) (c row : Nat) (P : Pt) : Pt := if ct n V row = c then lay n V row P else P
noncomputable def srw (n : Nat) (V : Nat → Nat → Nat) (c : Nat) (P : Pt) : Nat → Pt
  | 0 => P
  | r + 1 => sst n V c r (srw n V c P r)
/-- from count c down to 1 -/
noncomputable def sdn (n : Nat) (V : Nat → Nat → Nat) : Nat → Pt → Pt
  | 0, P => P
  | c + 1, P => sdn n V c (srw n V (c + 1) P 108)
def P0 : Pt := (fun _ => none, fun _ => none, 0)
theorem srw_id {n : Nat} {V : Nat → Nat → Nat} {c : Nat} {P : Pt} : ∀ {r : Nat}, (∀ row, row < r → ct n V row ≠ c) → srw n V c P r = P
  | 0, _ => rfl
  | r + 1, h => by
    show sst n V c r (srw n V c P r) = P
    rw [srw_id (fun row hr => h row (by omega))]
    exact if_neg (h r (by omega))
theorem sdn_top {n : Nat} {V : Nat → Nat → Nat} {m : Nat} {P : Pt} (h : ∀ row, row < 108 → ct n V row ≤ m) : ∀ j, sdn n V (m + j) P = sdn n V m P
  | 0 => rfl
  | j + 1 => by
    show sdn n V (m + j) (srw n V (m + j + 1) P 108) = _
    rw [srw_id (fun row hr => by have := h row hr; omega)]
    exact sdn_top h j
theorem pf_own {n : Nat} {V : Nat → Nat → Nat} {row b : Nat} {own : Nat → Option (Nat × Nat)} {len : Nat} : ∀ (k x : Nat), (pf n V row b own len k).1 x = if b ≤ x ∧ x - b < k ∧ ¬ en n V row (x - b) = 0 then some (row, en n V row (x - b)) else own x
  | 0, x => by
    rw [if_neg (by omega)]; rfl
  | k + 1, x => by
    have ih := pf_own (n := n) (V := V) (row := row) (b := b) (own := own) (len := len) k x
    show (if en n V row k = 0 then pf n V row b own len k else (va_up (pf n V row b own len k).1 (b + k) (some (row, en n V row k)), max (pf n V row b own len k).2 (b + k + 1))).1 x = _
    by_cases h : en n V row k = 0
    · rw [if_pos h, ih]
      by_cases z : x - b = k
      · rw [if_neg (by omega), if_neg (by rw [z]; exact fun y => y.2.2 h)]
      · by_cases y : b ≤ x ∧ x - b < k ∧ ¬ en n V row (x - b) = 0
        · rw [if_pos y, if_pos ⟨y.1, by omega, y.2.2⟩]
        · rw [if_neg y, if_neg (fun w => y ⟨w.1, by omega, w.2.2⟩)]
    · rw [if_neg h]
      show va_up (pf n V row b own len k).1 (b + k) (some (row, en n V row k)) x = _
      by_cases z : x = b + k
      · subst z
        rw [va_up_self, show b + k - b = k by omega, if_pos ⟨by omega, by omega, h⟩]
      · rw [va_up_ne _ _ z, ih]
        by_cases y : b ≤ x ∧ x - b < k ∧ ¬ en n V row (x - b) = 0
        · rw [if_pos y, if_pos ⟨y.1, by omega, y.2.2⟩]
        · rw [if_neg y, if_neg (fun w => y ⟨w.1, by omega, w.2.2⟩)]
theorem pf_len {n : Nat} {V : Nat → Nat → Nat} {row b : Nat} {own : Nat → Option (Nat × Nat)} {len : Nat} : ∀ (k : Nat), len ≤ (pf n V row b own len k).2 ∧ (pf n V row b own len k).2 ≤ max len (b + k) ∧ ∀ j, j < k → ¬ en n V row j = 0 → b + j < (pf n V row b own len k).2
  | 0 => ⟨Nat.le_refl _, Nat.le_max_left _ _, fun j h => absurd h (Nat.not_lt_zero j)⟩
  | k + 1 => by
    obtain ⟨h1, h2, h3⟩ := pf_len (n := n) (V := V) (row := row) (b := b) (own := own) (len := len) k
    show len ≤ (if en n V row k = 0 then pf n V row b own len k else (va_up (pf n V row b own len k).1 (b + k) (some (row, en n V row k)), max (pf n V row b own len k).2 (b + k + 1))).2 ∧ (if en n V row k = 0 then pf n V row b own len k else (va_up (pf n V row b own len k).1 (b + k) (some (row, en n V row k)), max (pf n V row b own len k).2 (b + k + 1))).2 ≤ _ ∧ ∀ j, j < k + 1 → _ → b + j < (if en n V row k = 0 then pf n V row b own len k else (va_up (pf n V row b own len k).1 (b + k) (some (row, en n V row k)), max (pf n V row b own len k).2 (b + k + 1))).2
    by_cases h : en n V row k = 0
    · rw [if_pos h]
      refine ⟨h1, by omega, fun j hj hn => ?_⟩
      by_cases z : j = k
      · subst z; exact absurd h hn
      · exact h3 j (by omega) hn
    · rw [if_neg h]
      show len ≤ max (pf n V row b own len k).2 (b + k + 1) ∧ max (pf n V row b own len k).2 (b + k + 1) ≤ _ ∧ ∀ j, j < k + 1 → _ → b + j < max (pf n V row b own len k).2 (b + k + 1)
      refine ⟨by omega, by omega, fun j hj hn => ?_⟩
      by_cases z : j = k
      · omega
      · have := h3 j (by omega) hn
        omega
/-- what holds of places while rows are seated -/
def wl (n : Nat) (base : Nat → Option Nat) : Nat := sm (fun row => if base row = none then 0 else wd n row) 108
def pI (n : Nat) (V : Nat → Nat → Nat) (P : Pt) : Prop := pl P ≤ wl n (pb P) ∧ (∀ x, po P x ≠ none → x < pl P) ∧ (∀ row b k, pb P row = some b → k < wd n row → ¬ en n V row k = 0 → po P (b + k) = some (row, en n V row k)) ∧ (∀ x row v, po P x = some (row, v) → row < 108 ∧ ∃ b, pb P row = some b ∧ b ≤ x ∧ x - b < wd n row ∧ ¬ en n V row (x - b) = 0 ∧ v = en n V row (x - b)) ∧ ∀ row b, pb P row = some b → b ≤ pl P ∧ row < 108
theorem sm_le {f h : Nat → Nat} : ∀ {n : Nat}, (∀ i, i < n → f i ≤ h i) → sm f n ≤ sm h n
  | 0, _ => Nat.le_refl _
  | n + 1, e => by
    show sm f n + f n ≤ sm h n + h n
    have := sm_le (n := n) (fun i hi => e i (by omega))
    have := e n (by omega)
    omega
theorem sm_up {f h : Nat → Nat} {j d : Nat} (hj : h j = f j + d) (ho : ∀ i, i ≠ j → h i = f i) : ∀ {n : Nat}, j < n → sm h n = sm f n + d
  | 0, z => by omega
  | n + 1, z => by
    show sm h n + h n = sm f n + f n + d
    by_cases e : j = n
    · subst e
      rw [hj, sm_congr (f := h) (h := f) (fun i hi => ho i (by omega))]; omega
    · rw [sm_up hj ho (show j < n by omega), ho n (by omega)]; omega
theorem wl_up {n : Nat} {base : Nat → Option Nat} {row b : Nat} (hr : row < 108) (hb : base row = none) : wl n (va_up base row (some b)) = wl n base + wd n row := by
  refine sm_up (j := row) ?_ (fun i hi => ?_) hr
  · rw [va_up_self, hb, if_neg (by simp), if_pos rfl]; omega
  · rw [va_up_ne _ _ hi]
theorem sm_lt14 (n : Nat) : ∀ m, sm (fun i => if i < n then 14 else 0) m = 14 * min n m
  | 0 => by simp [sm]
  | m + 1 => by
    show sm (fun i => if i < n then 14 else 0) m + (if m < n then 14 else 0) = _
    rw [sm_lt14 n m]
    split <;> omega
theorem sm_split (f : Nat → Nat) (a : Nat) : ∀ m, sm f (a + m) = sm f a + sm (fun i => f (a + i)) m
  | 0 => rfl
  | m + 1 => by
    show sm f (a + m) + f (a + m) = sm f a + (sm (fun i => f (a + i)) m + f (a + m))
    rw [sm_split f a m]; omega
theorem wl_all {n : Nat} (hn : n ≤ 100) (base : Nat → Option Nat) : wl n base ≤ 22 * n := by
  have h1 : wl n base ≤ sm (wd n) 108 := sm_le (fun i _ => by split <;> omega)
  have h2 : sm (wd n) 108 = sm (wd n) 100 + sm (fun i => wd n (100 + i)) 8 := sm_split (wd n) 100 8
  have h3 : sm (wd n) 100 = 14 * min n 100 := by
    rw [sm_congr (f := wd n) (h := fun i => if i < n then 14 else 0) (n := 100) (fun i hi => if_pos hi), sm_lt14]
  have h4 : sm (fun i => wd n (100 + i)) 8 = 8 * n := by
    rw [sm_congr (f := fun i => wd n (100 + i)) (h := fun _ => n) (n := 8) (fun i hi => if_neg (by omega))]
    simp [sm]; omega
  omega
/-- a row that waits has room -/
theorem wl_room {n : Nat} (hn : n ≤ 100) {base : Nat → Option Nat} {row : Nat} (hr : row < 108) (hb : base row = none) : wl n base + wd n row ≤ 2200 := by
  have := wl_all hn (va_up base row (some 0))
  rw [wl_up hr hb] at this
  omega
theorem fit_len {n : Nat} {V : Nat → Nat → Nat} {row : Nat} {own : Nat → Option (Nat × Nat)} {len : Nat} (h : ∀ x, own x ≠ none → x < len) {b : Nat} (hb : len ≤ b) : fit n V row own b := fun k _ _ => Classical.byContradiction (fun z => by have := h _ z; omega)
theorem bse_le {n : Nat} {V : Nat → Nat → Nat} {row : Nat} {own : Nat → Option (Nat × Nat)} {len : Nat} : bse n V row own len ≤ len := by
  unfold bse
  split
  · next b e => exact Nat.le_of_lt (lst_lt e).1
  · exact Nat.le_refl _
theorem bse_fit {n : Nat} {V : Nat → Nat → Nat} {row : Nat} {own : Nat → Option (Nat × Nat)} {len : Nat} (h : ∀ x, own x ≠ none → x < len) : fit n V row own (bse n V row own len) := by
  unfold bse
  split
  · next b e => exact (lst_lt e).2
  · exact fit_len h (Nat.le_refl _)
/-- least: so whoever goes up and stops at the first that fits, stops there -/
theorem bse_min {n : Nat} {V : Nat → Nat → Nat} {row : Nat} {own : Nat → Option (Nat × Nat)} {len b : Nat} (hb : b < bse n V row own len) : ¬ fit n V row own b := by
  unfold bse at hb
  cases e : lst (fit n V row own) len with
  | none =>
    rw [e] at hb
    exact lst_no e b hb
  | some j =>
    rw [e] at hb
    intro hf
    have : ∀ m, (∃ b', b' < m ∧ fit n V row own b') → ∃ j, lst (fit n V row own) m = some j ∧ ∀ b', b' < j → ¬ fit n V row own b' := by
      intro m
      induction m with
      | zero => rintro ⟨b', h, _⟩; omega
      | succ m ih =>
        rintro ⟨b', h, h'⟩
        by_cases z : ∃ b', b' < m ∧ fit n V row own b'
        · obtain ⟨j, h1, h2⟩ := ih z
          refine ⟨j, ?_, h2⟩
          unfold lst
          rw [h1]
        · have hb' : b' = m := by
            refine Classical.byContradiction (fun y => z ⟨b', by omega, h'⟩)
          subst hb'
          refine ⟨b', lst_some h' (fun c hc hf => z ⟨c, hc, hf⟩) (by omega), fun c hc hf => z ⟨c, hc, hf⟩⟩
    obtain ⟨j', h1, h2⟩ := this len ⟨b, by have := (lst_lt e).1; have : b < j := hb; omega, hf⟩
    rw [e] at h1
    cases h1
    exact h2 b hb hf
theorem lay_pI {n : Nat} (hn : n ≤ 100) {V : Nat → Nat → Nat} {row : Nat} (hr : row < 108) {P : Pt} (h : pI n V P) (hb : pb P row = none) : pI n V (lay n V row P) := by
  obtain ⟨h1, h2, h3, h4, h5⟩ := h
  have hle : bse n V row (po P) (pl P) ≤ pl P := bse_le
  have hft : fit n V row (po P) (bse n V row (po P) (pl P)) := bse_fit h2
  unfold lay
  generalize hbs : bse n V row (po P) (pl P) = b at hle hft
  obtain ⟨l1, l2, l3⟩ := pf_len (n := n) (V := V) (row := row) (b := b) (own := po P) (len := pl P) (wd n row)
  have ho := pf_own (n := n) (V := V) (row := row) (b := b) (own := po P) (len := pl P) (wd n row)
  generalize pf n V row b (po P) (pl P) (wd n row) = Q at l1 l2 l3 ho
  refine ⟨?_, fun x hx => ?_, fun row' b' k e hk he => ?_, fun x row' v e => ?_, fun row' b' e => ?_⟩
  · show Q.2 ≤ wl n (va_up (pb P) row (some b))
    rw [wl_up hr hb]; omega
  · have hx' : Q.1 x ≠ none := hx
    rw [ho x] at hx'
    show x < Q.2
    by_cases z : b ≤ x ∧ x - b < wd n row ∧ ¬ en n V row (x - b) = 0
    · have := l3 (x - b) z.2.1 z.2.2
      omega
    · rw [if_neg z] at hx'
      have := h2 x hx'
      omega
  · have e' : va_up (pb P) row (some b) row' = some b' := e
    show Q.1 (b' + k) = _
    rw [ho]
    by_cases z : row' = row
    · subst z
      rw [va_up_self] at e'
      cases e'
      rw [show b + k - b = k by omega, if_pos ⟨by omega, hk, he⟩]
    · rw [va_up_ne _ _ z] at e'
      have hold := h3 row' b' k e' hk he
      rw [if_neg (fun y => ?_)]
      · exact hold
      · have := hft (b' + k - b) y.2.1 y.2.2
        rw [show b + (b' + k - b) = b' + k by omega, hold] at this
        cases this
  · have e' : Q.1 x = some (row', v) := e
    rw [ho] at e'
    show row' < 108 ∧ ∃ b', va_up (pb P) row (some b) row' = some b' ∧ _
    by_cases z : b ≤ x ∧ x - b < wd n row ∧ ¬ en n V row (x - b) = 0
    · rw [if_pos z] at e'
      cases e'
      exact ⟨hr, b, va_up_self _ _ _, z.1, z.2.1, z.2.2, rfl⟩
    · rw [if_neg z] at e'
      obtain ⟨a1, b', a2, a3⟩ := h4 x row' v e'
      refine ⟨a1, b', ?_, a3⟩
      rw [va_up_ne _ _ (fun y => by rw [y, hb] at a2; cases a2)]
      exact a2
  · have e' : va_up (pb P) row (some b) row' = some b' := e
    show b' ≤ Q.2 ∧ row' < 108
    by_cases z : row' = row
    · subst z
      rw [va_up_self] at e'
      cases e'
      exact ⟨by omega, hr⟩
    · rw [va_up_ne _ _ z] at e'
      have := h5 row' b' e'
      omega
theorem P0_pI (n : Nat) (V : Nat → Nat → Nat) : pI n V P0 := ⟨Nat.zero_le _, fun x h => absurd rfl h, fun row b k h => (by cases h), fun x row v h => (by cases h), fun row b h => (by cases h)⟩
/-- in the order of counts: what is laid, and what waits -/
def pJ (n : Nat) (V : Nat → Nat → Nat) (c r : Nat) (P : Pt) : Prop := pI n V P ∧ ∀ row, row < 108 → (ct n V row < c ∨ (ct n V row = c ∧ r ≤ row) → pb P row = none) ∧ (c < ct n V row ∨ (ct n V row = c ∧ row < r) → pb P row ≠ none)
theorem sst_pJ {n : Nat} (hn : n ≤ 100) {V : Nat → Nat → Nat} {c r : Nat} (hr : r < 108) {P : Pt} (h : pJ n V c r P) : pJ n V c (r + 1) (sst n V c r P) := by
  unfold sst
  by_cases e : ct n V r = c
  · rw [if_pos e]
    refine ⟨lay_pI hn hr h.1 ((h.2 r hr).1 (Or.inr ⟨e, Nat.le_refl _⟩)), fun row hrow => ⟨fun z => ?_, fun z => ?_⟩⟩
    · show va_up (pb P) r _ row = none
      rw [va_up_ne _ _ (by rintro rfl; omega)]
      exact (h.2 row hrow).1 (by omega)
    · show va_up (pb P) r _ row ≠ none
      by_cases y : row = r
      · subst y; rw [va_up_self]; simp
      · rw [va_up_ne _ _ y]
        exact (h.2 row hrow).2 (by omega)
  · rw [if_neg e]
    refine ⟨h.1, fun row hrow => ⟨fun z => (h.2 row hrow).1 (by omega), fun z => (h.2 row hrow).2 ?_⟩⟩
    by_cases y : row = r
    · subst y; omega
    · omega
theorem srw_pJ {n : Nat} (hn : n ≤ 100) {V : Nat → Nat → Nat} {c : Nat} {P : Pt} (h : pJ n V c 0 P) : ∀ {r : Nat}, r ≤ 108 → pJ n V c r (srw n V c P r)
  | 0, _ => h
  | r + 1, hr => sst_pJ hn (by omega) (srw_pJ hn h (show r ≤ 108 by omega))
theorem pJ_dn {n : Nat} {V : Nat → Nat → Nat} {c : Nat} {P : Pt} (h : pJ n V (c + 1) 108 P) : pJ n V c 0 P := ⟨h.1, fun row hrow => ⟨fun z => (h.2 row hrow).1 (by omega), fun z => (h.2 row hrow).2 (by omega)⟩⟩
theorem sdn_pJ {n : Nat} (hn : n ≤ 100) {V : Nat → Nat → Nat} : ∀ {c : Nat} {P : Pt}, pJ n V c 0 P → pJ n V 0 0 (sdn n V c P)
  | 0, P, h => h
  | c + 1, P, h => by
    show pJ n V 0 0 (sdn n V c (srw n V (c + 1) P 108))
    exact sdn_pJ hn (pJ_dn (srw_pJ hn h (Nat.le_refl _)))
theorem P0_pJ {n : Nat} (hn : n ≤ 100) (V : Nat → Nat → Nat) {c : Nat} (hc : ∀ row, row < 108 → ct n V row ≤ c) : pJ n V c 0 P0 := ⟨P0_pI n V, fun row hrow => ⟨fun _ => rfl, fun z => by have := hc row hrow; omega⟩⟩
/-- the packed table -/
noncomputable def PF (n : Nat) (V : Nat → Nat → Nat) : Pt := sdn n V 100 P0
theorem PF_pJ {n : Nat} (hn : n ≤ 100) (V : Nat → Nat → Nat) : pJ n V 0 0 (PF n V) := sdn_pJ hn (P0_pJ hn V (fun row _ => ct_le hn))
/-- an entry is found where its row looks for it, and nothing else is -/
noncomputable def fnd (n : Nat) (V : Nat → Nat → Nat) (row k : Nat) : Nat := match pb (PF n V) row with
  | none => 0
  | some b => match po (PF n V) (b + k) with
    | none => 0
    | some (row', v) => if row' = row then v else 0
theorem fnd_en {n : Nat} (hn : n ≤ 100) {V : Nat → Nat → Nat} {row k : Nat} (hr : row < 108) (hk : k < wd n row) : fnd n V row k = en n V row k := by
  have hJ := PF_pJ hn V
  obtain ⟨⟨_, _, h3, h4, _⟩, hw⟩ := hJ
  unfold fnd
  cases e : pb (PF n V) row with
  | none =>
    refine Classical.byContradiction (fun z => ?_)
    have hp : 0 < ct n V row := ct_pos hk (fun y => z y.symm)
    exact (hw row hr).2 (Or.inl hp) e
  | some b =>
    show (match po (PF n V) (b + k) with
      | none => 0
      | some (row', v) => if row' = row then v else 0) = _
    by_cases z : en n V row k = 0
    · rw [z]
      cases eo : po (PF n V) (b + k) with
      | none => rfl
      | some p =>
        obtain ⟨row', v⟩ := p
        show (if row' = row then v else 0) = 0
        by_cases y : row' = row
        · subst y
          obtain ⟨_, b', e2, _, _, e5, _⟩ := h4 _ _ _ eo
          rw [e] at e2
          cases e2
          rw [show b + k - b = k by omega] at e5
          exact absurd z e5
        · rw [if_neg y]
    · rw [h3 row b k e hk z]
      show (if row = row then en n V row k else 0) = _
      rw [if_pos rfl]
