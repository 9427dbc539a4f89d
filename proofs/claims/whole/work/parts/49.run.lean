/-! parsing, as numbers -/
theorem act_cl {g : Gm} {B : Bs} {q t : Nat} : ∀ k, act g B q k t = 0 ∨ act g B q k t = 2000 ∨ (∃ s, bL B q t = some s ∧ act g B q k t = 1000 + s) ∨ ∃ r, r < k ∧ cnd g B q t r ∧ act g B q k t = 3000 + r
  | 0 => by
    show bas B q t = 0 ∨ bas B q t = 2000 ∨ (∃ s, bL B q t = some s ∧ bas B q t = 1000 + s) ∨ ∃ r, r < 0 ∧ cnd g B q t r ∧ bas B q t = 3000 + r
    unfold bas
    cases e : bL B q t with
    | some s => exact Or.inr (Or.inr (Or.inl ⟨s, rfl, rfl⟩))
    | none =>
      cases pd (t = 0 ∧ bS B q 169) with
      | true => exact Or.inr (Or.inl rfl)
      | false => exact Or.inl rfl
  | k + 1 => by
    have ih := act_cl (g := g) (B := B) (q := q) (t := t) k
    have e : act g B q (k + 1) t = nxt (fun t => cnd g B q t k) k (act g B q k) t := rfl
    by_cases hc : cnd g B q t k ∧ act g B q k t = 0
    · refine Or.inr (Or.inr (Or.inr ⟨k, Nat.lt_succ_self k, hc.1, ?_⟩))
      rw [e]
      exact nxt_y (C := fun t => cnd g B q t k) (t := t) hc.1 hc.2
    · have e2 : act g B q (k + 1) t = act g B q k t := by
        rw [e, nxt_n (C := fun t => cnd g B q t k) (t := t)]
        by_cases h0 : act g B q k t = 0
        · exact Or.inl (fun z => hc ⟨z, h0⟩)
        · exact Or.inr h0
      rw [e2]
      rcases ih with ih | ih | ih | ⟨r, h1, h2, h3⟩
      · exact Or.inl ih
      · exact Or.inr (Or.inl ih)
      · exact Or.inr (Or.inr (Or.inl ih))
      · exact Or.inr (Or.inr (Or.inr ⟨r, by omega, h2, h3⟩))
/-- what a table tells: an error, accept, a lead, or a rule that stands whole in the state -/
def mP (g : Gm) (B : Bs) (mf : Nat → Nat → Nat) : Prop := ∀ q t, q < bn B → t < 14 → mf q t = 0 ∨ mf q t = 2000 ∨ (∃ s, bL B q t = some s ∧ mf q t = 1000 + s) ∨ ∃ r, r < gn g ∧ bS B q (7 * r + gl g r) ∧ mf q t = 3000 + r
theorem VV_q {g : Gm} {B : Bs} {q t : Nat} (hq : q < 100) : VV g B q t = act g B q (gn g) t := if_pos hq
theorem mP_V {g : Gm} {B : Bs} (hB : Bk g B) : mP g B (VV g B) := by
  intro q t hq ht
  have := hB.n100
  rw [VV_q (by omega)]
  rcases act_cl (g := g) (B := B) (q := q) (t := t) (gn g) with h | h | h | ⟨r, h1, h2, h3⟩
  · exact Or.inl h
  · exact Or.inr (Or.inl h)
  · exact Or.inr (Or.inr (Or.inl h))
  · exact Or.inr (Or.inr (Or.inr ⟨r, h1, h2.1, h3⟩))
noncomputable def pm (n : Nat) (V : Nat → Nat → Nat) (q t : Nat) : Nat := if fnd n V q t = 0 then dvl n V q else fnd n V q t
theorem sm_bNp (p : Nat → Prop) : ∀ m, 0 < sm (fun i => bN (p i)) m → ∃ i, i < m ∧ p i
  | 0, h => absurd h (Nat.lt_irrefl 0)
  | m + 1, h => by
    by_cases hp : p m
    · exact ⟨m, Nat.lt_succ_self m, hp⟩
    · have e : sm (fun i => bN (p i)) (m + 1) = sm (fun i => bN (p i)) m + bN (p m) := rfl
      rw [e, bN_f hp] at h
      obtain ⟨i, h1, h2⟩ := sm_bNp p m h
      exact ⟨i, by omega, h2⟩
theorem dfl_hit {n : Nat} {V : Nat → Nat → Nat} {row v : Nat} (h : dfl n V row = some v) : ∃ k, k < wd n row ∧ hit V row v k := by
  unfold dfl at h
  split at h
  · next hp =>
    cases h
    exact sm_bNp _ _ hp
  · cases h
theorem pm_V {n : Nat} (hn : n ≤ 100) {V : Nat → Nat → Nat} {row k : Nat} (hr : row < 108) (hk : k < wd n row) : pm n V row k = V row k ∨ (V row k = 0 ∧ pm n V row k = dvl n V row) := by
  unfold pm
  rw [fnd_en hn hr hk]
  unfold en
  by_cases h : V row k = dvl n V row
  · rw [if_pos h, if_pos rfl]
    exact Or.inl h.symm
  · rw [if_neg h]
    by_cases h0 : V row k = 0
    · rw [if_pos h0]
      exact Or.inr ⟨h0, rfl⟩
    · rw [if_neg h0]
      exact Or.inl rfl
theorem mP_pm {g : Gm} {B : Bs} (hB : Bk g B) : mP g B (pm (bn B) (VV g B)) := by
  intro q t hq ht
  have hn := hB.n100
  have hw : wd (bn B) q = 14 := by
    unfold wd
    rw [if_pos (by omega), if_pos hq]
  rcases pm_V hn (V := VV g B) (row := q) (k := t) (by omega) (by omega) with e | ⟨_, e⟩
  · rw [e]
    exact mP_V hB q t hq ht
  · rw [e]
    unfold dvl
    cases ed : dfl (bn B) (VV g B) q with
    | none => exact Or.inl rfl
    | some v =>
      obtain ⟨k, hk, hh⟩ := dfl_hit ed
      unfold hit at hh
      rw [if_pos (by omega)] at hh
      rcases mP_V hB q k hq (by omega) with h | h | ⟨s, h1, h2⟩ | ⟨r, h1, h2, h3⟩
      · omega
      · omega
      · have := Bk_100 hB _ _ _ h1
        omega
      · refine Or.inr (Or.inr (Or.inr ⟨r, h1, h2, ?_⟩))
        show (if q < 100 then 3000 + v else v) = 3000 + r
        rw [if_pos (by omega)]
        omega
/-- a kind's row leads as the plain one does -/
theorem pm_k {g : Gm} (hw : gW g) {B : Bs} (hB : Bk g B) {q kd t : Nat} (hk : kd < 8) (h : bL B q (14 + kd) = some t) : VV g B (100 + kd) q = t ∧ pm (bn B) (VV g B) (100 + kd) q = t := by
  have hn := hB.n100
  have hq := (hB.l _ _ _ h).1
  have e : VV g B (100 + kd) q = t := by rw [VV_k, h]
  have ht := Bk_l0 hw hB h
  have hwd : wd (bn B) (100 + kd) = bn B := by
    unfold wd
    rw [if_neg (by omega)]
  refine ⟨e, ?_⟩
  rcases pm_V hn (V := VV g B) (row := 100 + kd) (k := q) (by omega) (by omega) with e2 | ⟨e2, _⟩
  · rw [e2, e]
  · omega
/-! the pile is a path -/
def pth (B : Bs) (pl : Nat → Nat) (h : Nat) : Prop := pl 0 = 0 ∧ (∀ i, i < h → pl i < bn B) ∧ ∀ i, i + 1 < h → ∃ c, bL B (pl i) c = some (pl (i + 1))
theorem pth_back {g : Gm} (hw : gW g) {B : Bs} (hB : Bk g B) {pl : Nat → Nat} {h : Nat} (hp : pth B pl h) {r : Nat} (hr : r < gn g) : ∀ p i, i < h → p ≤ 6 → bS B (pl i) (7 * r + p) → p ≤ i ∧ bS B (pl (i - p)) (7 * r)
  | 0, i, _, _, hs => ⟨Nat.zero_le _, hs⟩
  | p + 1, 0, _, h6, hs => by
    exfalso
    have hgn := hw.1
    rw [hp.1, hB.s0] at hs
    have hk : Kn (Cl g (fun i => i = 168)) (7 * r + (p + 1)) := ⟨hs, Or.inl (by omega)⟩
    have := (Cl_krn hw (fun i hi => Or.inr hi) _).mp hk
    omega
  | p + 1, i + 1, hi, h6, hs => by
    obtain ⟨c, e⟩ := hp.2.2 i hi
    have hS := (hB.l _ _ _ e).2.2.2
    rw [hS] at hs
    have hk : Kn (Cl g (adv g (bS B (pl i)) c)) (7 * r + (p + 1)) := ⟨hs, Or.inl (by omega)⟩
    obtain ⟨j, h1, h2, _⟩ := (Cl_krn hw (fun i hi => adv_krn hw hi) _).mp hk
    have ej : j = 7 * r + p := by omega
    rw [ej] at h2
    obtain ⟨a1, a2⟩ := pth_back hw hB hp hr p i (by omega) (by omega) h2
    refine ⟨by omega, ?_⟩
    rw [show i + 1 - (p + 1) = i - p by omega]
    exact a2
theorem st_lead {g : Gm} (hw : gW g) {B : Bs} (hB : Bk g B) {q : Nat} (hq : q < bn B) {r : Nat} (hr : r < gn g) (h : bS B q (7 * r)) : ∃ t, bL B q (14 + gk g r) = some t := by
  have hgn := hw.1
  have hK := hB.k q hq
  have key : ∀ i, bS B q i → ∀ r', r' < gn g → i = 7 * r' → ∃ j, bS B q j ∧ bcs g j (14 + gk g r') := by
    intro i hi
    have hi' := hi
    rw [hK] at hi'
    have := hi' (fun i => bS B q i ∧ ∀ r', r' < gn g → i = 7 * r' → ∃ j, bS B q j ∧ bcs g j (14 + gk g r')) (fun j hj => ⟨hj.1, fun r' hr' e => ?_⟩) (fun j r' hj hr' hb => ⟨?_, fun r'' hr'' e => ?_⟩)
    · exact this.2
    · rcases hj.2 with h1 | h1 <;> omega
    · rw [hK]
      refine Cl_cl g _ j r' ?_ hr' hb
      rw [← hK]
      exact hj.1
    · have : r' = r'' := by omega
      subst this
      exact ⟨j, hj.1, hb⟩
  obtain ⟨j, h1, h2⟩ := key _ h r hr rfl
  have := (hw.2 r hr).1
  exact hB.f q (14 + gk g r) (by omega) hq ⟨j + 1, j, rfl, h1, h2⟩
/-! a parser: height, pile, place, reductions -/
abbrev Cf : Type := Nat × (Nat → Nat) × Nat × Nat × (Nat → Nat)
abbrev ch' (c : Cf) : Nat := c.1
abbrev cp (c : Cf) : Nat → Nat := c.2.1
abbrev ca (c : Cf) : Nat := c.2.2.1
abbrev cr (c : Cf) : Nat := c.2.2.2.1
abbrev cs (c : Cf) : Nat → Nat := c.2.2.2.2
def tq (tc : Nat) (tk : Nat → Nat) (a : Nat) : Nat := if a < tc then tk a else 0
def nmv (mf : Nat → Nat → Nat) (tc : Nat) (tk : Nat → Nat) (c : Cf) : Nat := mf (cp c (ch' c - 1)) (tq tc tk (ca c))
def fu (f : Nat → Nat) (k v : Nat) : Nat → Nat := fun j => if j = k then v else f j
def shf (c : Cf) (s : Nat) : Cf := (ch' c + 1, fu (cp c) (ch' c) s, ca c + 1, cr c, cs c)
def rdc (g : Gm) (c : Cf) (r t : Nat) : Cf := (ch' c - gl g r + 1, fu (cp c) (ch' c - gl g r) t, ca c, cr c + 1, fu (cs c) (cr c) r)
noncomputable def nxc (g : Gm) (B : Bs) (m : Nat) (c : Cf) : Cf := if m < 3000 then shf c (m - 1000) else rdc g c (m - 3000) (VV g B (100 + gk g (m - 3000)) (cp c (ch' c - gl g (m - 3000) - 1)))
noncomputable def rn (g : Gm) (B : Bs) (mf : Nat → Nat → Nat) (tc : Nat) (tk : Nat → Nat) : Nat → Cf → Nat × Cf
  | 0, c => if nmv mf tc tk c = 2000 then (0, c) else if nmv mf tc tk c = 0 then (1, c) else (2, c)
  | n + 1, c => if nmv mf tc tk c = 2000 then (0, c) else if nmv mf tc tk c = 0 then (1, c) else rn g B mf tc tk n (nxc g B (nmv mf tc tk c) c)
def pOK (B : Bs) (tc : Nat) (c : Cf) : Prop := 1 ≤ ch' c ∧ pth B (cp c) (ch' c) ∧ ca c ≤ tc
theorem tq_lt {tc : Nat} {tk : Nat → Nat} (h : ∀ i, i < tc → 1 ≤ tk i ∧ tk i < 14) (a : Nat) : tq tc tk a < 14 := by
  unfold tq
  split
  · next ha => exact (h a ha).2
  · decide
theorem pth_up {B : Bs} {pl : Nat → Nat} {h h' : Nat} (hp : pth B pl h) (h1 : 1 ≤ h') (h2 : h' ≤ h) {c t : Nat} (hl : bL B (pl (h' - 1)) c = some t) (ht : t < bn B) : pth B (fu pl h' t) (h' + 1) := by
  have lt : ∀ j, j < h' → fu pl h' t j = pl j := fun j hj => if_neg (by omega)
  have at' : fu pl h' t h' = t := if_pos rfl
  refine ⟨?_, fun i hi => ?_, fun i hi => ?_⟩
  · rw [lt 0 (by omega)]; exact hp.1
  · by_cases e : i = h'
    · subst e; rw [at']; exact ht
    · rw [lt i (by omega)]; exact hp.2.1 i (by omega)
  · by_cases e : i + 1 = h'
    · rw [e, at', lt i (by omega)]
      refine ⟨c, ?_⟩
      rw [show i = h' - 1 by omega]
      exact hl
    · rw [lt i (by omega), lt (i + 1) (by omega)]
      exact hp.2.2 i (by omega)
theorem stp_cases {g : Gm} (hw : gW g) {B : Bs} (hB : Bk g B) {mf : Nat → Nat → Nat} (hm : mP g B mf) {tc : Nat} {tk : Nat → Nat} (htk : ∀ i, i < tc → 1 ≤ tk i ∧ tk i < 14) {c : Cf} (hc : pOK B tc c) (m0 : ¬ nmv mf tc tk c = 0) (m2 : ¬ nmv mf tc tk c = 2000) : (∃ s, s < 100 ∧ nmv mf tc tk c = 1000 + s ∧ ca c < tc ∧ nxc g B (nmv mf tc tk c) c = shf c s ∧ pOK B tc (shf c s)) ∨ ∃ r t, r < gn g ∧ nmv mf tc tk c = 3000 + r ∧ gl g r < ch' c ∧ gl g r ≤ 6 ∧ gk g r < 8 ∧ cp c (ch' c - gl g r - 1) < bn B ∧ bL B (cp c (ch' c - gl g r - 1)) (14 + gk g r) = some t ∧ t < 100 ∧ nxc g B (nmv mf tc tk c) c = rdc g c r t ∧ pOK B tc (rdc g c r t) := by
  obtain ⟨h1, hp, ha⟩ := hc
  have hq := hp.2.1 (ch' c - 1) (by omega)
  have hn := hB.n100
  rcases hm _ _ hq (tq_lt htk (ca c)) with h | h | ⟨s, e1, e2⟩ | ⟨r, e1, e2, e3⟩
  · exact absurd h m0
  · exact absurd h m2
  · left
    have hs := (hB.l _ _ _ e1).2.1
    have e2' : nmv mf tc tk c = 1000 + s := e2
    have hat : ca c < tc := by
      refine Classical.byContradiction (fun z => ?_)
      unfold tq at e1
      rw [if_neg z, Bk_c0 hw hB] at e1
      cases e1
    refine ⟨s, by omega, e2', hat, ?_, ?_⟩
    · rw [e2']
      unfold nxc
      rw [if_pos (by omega), show 1000 + s - 1000 = s by omega]
    · exact ⟨by show 1 ≤ ch' c + 1; omega, pth_up hp h1 (Nat.le_refl _) e1 hs, by show ca c + 1 ≤ tc; omega⟩
  · right
    have e3' : nmv mf tc tk c = 3000 + r := e3
    obtain ⟨k1, k2, _⟩ := hw.2 r e1
    obtain ⟨b1, b2⟩ := pth_back hw hB hp e1 (gl g r) (ch' c - 1) (by omega) k2 e2
    rw [show ch' c - 1 - gl g r = ch' c - gl g r - 1 by omega] at b2
    have hq' := hp.2.1 (ch' c - gl g r - 1) (by omega)
    obtain ⟨t, ht⟩ := st_lead hw hB hq' e1 b2
    have htn := (hB.l _ _ _ ht).2.1
    refine ⟨r, t, e1, e3', by omega, k2, k1, hq', ht, by omega, ?_, ?_⟩
    · rw [e3']
      unfold nxc
      rw [if_neg (by omega), show 3000 + r - 3000 = r by omega, (pm_k hw hB k1 ht).1]
    · exact ⟨by show 1 ≤ ch' c - gl g r + 1; omega, pth_up hp (by omega) (by omega) ht htn, ha⟩
theorem rn_rd {g : Gm} {B : Bs} {mf : Nat → Nat → Nat} {tc : Nat} {tk : Nat → Nat} : ∀ (n : Nat) (c : Cf), cr (rn g B mf tc tk n c).2 ≤ cr c + n
  | 0, c => by
    unfold rn
    split
    · exact Nat.le_refl _
    · split <;> exact Nat.le_refl _
  | n + 1, c => by
    have ih := rn_rd (g := g) (B := B) (mf := mf) (tc := tc) (tk := tk) n (nxc g B (nmv mf tc tk c) c)
    have e : cr (nxc g B (nmv mf tc tk c) c) ≤ cr c + 1 := by
      unfold nxc
      split
      · show cr c ≤ cr c + 1; omega
      · exact Nat.le_refl _
    unfold rn
    split
    · show cr c ≤ _; omega
    · split
      · show cr c ≤ _; omega
      · omega
