/-! the reference's items and states -/
theorem pd_i {p q : Prop} (h : p ↔ q) : pd p = pd q := by rw [propext h]
theorem bI_inj {a b : Bool} (h : bI a = bI b) : a = b := by
  cases a <;> cases b <;> first | rfl | exact absurd h (by decide)
theorem bI_o (b : Bool) : bI b = 0 ∨ bI b = 1 := by cases b <;> decide
theorem bI_n0 {p : Prop} : ¬ bI (pd p) = 0 ↔ p := by
  constructor
  · intro h
    refine Classical.byContradiction (fun hp => h ?_)
    rw [pd_f hp]; rfl
  · intro h; rw [pd_t h]; decide
theorem bI_z0 {p : Prop} : bI (pd p) = 0 ↔ ¬ p := by
  constructor
  · intro h hp; rw [pd_t hp] at h; exact absurd h (by decide)
  · intro h; rw [pd_f h]; rfl
theorem bI_t {p : Prop} (h : p) : bI (pd p) = nI 1 := by rw [pd_t h]; rfl
theorem bI_f {p : Prop} (h : ¬ p) : bI (pd p) = nI 0 := by rw [pd_f h]; rfl
theorem bI_pq {p q : Prop} (h : bI (pd p) = bI (pd q)) : p ↔ q := by
  have := bI_inj h
  constructor
  · intro hp; rw [pd_t hp] at this; exact pd_e this.symm
  · intro hq; rw [pd_t hq] at this; exact pd_e this
/-- item 7 r + p of the class is item 8 r + p of the reference -/
def mS (S : Nat → Prop) (j : Nat) : Prop := j % 8 ≤ 6 ∧ S (7 * (j / 8) + j % 8)
theorem mS_i {S : Nat → Prop} (i : Nat) : mS S (8 * (i / 7) + i % 7) ↔ S i := by
  unfold mS
  rw [show (8 * (i / 7) + i % 7) % 8 = i % 7 by omega, show (8 * (i / 7) + i % 7) / 8 = i / 7 by omega, show 7 * (i / 7) + i % 7 = i by omega]
  exact ⟨fun h => h.2, fun h => ⟨by omega, h⟩⟩
theorem mS_rp {S : Nat → Prop} {r p : Nat} (hp : p ≤ 6) : mS S (8 * r + p) ↔ S (7 * r + p) := by
  unfold mS
  rw [show (8 * r + p) % 8 = p by omega, show (8 * r + p) / 8 = r by omega]
  exact ⟨fun h => h.2, fun h => ⟨hp, h⟩⟩
theorem mS_8 {S : Nat → Prop} {r : Nat} : mS S (8 * r) ↔ S (7 * r) := mS_rp (r := r) (p := 0) (by omega)
def krn (i : Nat) : Prop := i % 7 ≠ 0 ∨ i = 168
def Kn (S : Nat → Prop) (i : Nat) : Prop := S i ∧ krn i
/-- an item of a closed rule, or of the start -/
def vI (g : Gm) (i : Nat) : Prop := ∃ r p, (r < gn g ∨ r = 24) ∧ p ≤ rl g r ∧ i = 7 * r + p
theorem rl_6 {g : Gm} (hw : gW g) {r : Nat} (hr : r < gn g ∨ r = 24) : rl g r ≤ 6 ∧ r ≤ 24 := by
  unfold rl
  split
  · omega
  · have h1 := hw.1
    have : r < gn g := by omega
    have := (hw.2 r this).2.1
    omega
theorem vI_lt {g : Gm} (hw : gW g) {i : Nat} (h : vI g i) : i < 170 := by
  obtain ⟨r, p, hr, hp, rfl⟩ := h
  have h6 := rl_6 hw hr
  have hn := hw.1
  rcases hr with hr | hr
  · omega
  · subst hr
    have : rl g 24 = 1 := if_pos rfl
    omega
theorem vI_0 {g : Gm} {r : Nat} (hr : r < gn g) : vI g (7 * r) := ⟨r, 0, Or.inl hr, Nat.zero_le _, rfl⟩
theorem Cl_vI {g : Gm} {N : Nat → Prop} (hN : ∀ i, N i → vI g i) {i : Nat} (h : Cl g N i) : vI g i := h (vI g) hN (fun j r _ hr _ => vI_0 hr)
theorem adv_vI {g : Gm} {S : Nat → Prop} {c i : Nat} (h : adv g S c i) : vI g i := by
  obtain ⟨j, rfl, _, r, p, hr, hp, rfl, _⟩ := h
  exact ⟨r, p + 1, hr, hp, by omega⟩
theorem adv_krn {g : Gm} (hw : gW g) {S : Nat → Prop} {c i : Nat} (h : adv g S c i) : krn i := by
  obtain ⟨j, rfl, _, r, p, hr, hp, rfl, _⟩ := h
  have h6 := rl_6 hw hr
  exact Or.inl (by omega)
theorem Cl_krn {g : Gm} (hw : gW g) {N : Nat → Prop} (hN : ∀ i, N i → krn i) (i : Nat) : Kn (Cl g N) i ↔ N i := by
  constructor
  · intro h
    refine h.1 (fun i => krn i → N i) (fun j hj _ => hj) (fun j r _ hr _ hk => ?_) h.2
    have := hw.1
    rcases hk with hk | hk <;> omega
  · intro h; exact ⟨Cl_in h, hN i h⟩
theorem Cl_Kn {g : Gm} (hw : gW g) {N : Nat → Prop} (hN : ∀ i, N i → krn i) : Kn (Cl g N) = N := by
  funext i; exact propext (Cl_krn hw hN i)
/-- each state is what its kernel brings along -/
def bKV (g : Gm) (B : Bs) : Prop := ∀ q, q < bn B → bS B q = Cl g (Kn (bS B q)) ∧ ∀ i, bS B q i → vI g i
theorem Cl_KV {g : Gm} (hw : gW g) {N : Nat → Prop} (hN : ∀ i, N i → krn i) (hv : ∀ i, N i → vI g i) : Cl g N = Cl g (Kn (Cl g N)) ∧ ∀ i, Cl g N i → vI g i := by
  rw [Cl_Kn hw hN]
  exact ⟨rfl, fun i h => Cl_vI hv h⟩
theorem b0_KV {g : Gm} (hw : gW g) : bKV g (b0 g) := fun _ _ => Cl_KV hw (fun i e => Or.inr e) (fun i e => ⟨24, 0, Or.inr rfl, Nat.zero_le _, e⟩)
theorem bst_KV {g : Gm} (hw : gW g) {q c : Nat} {B : Bs} (h : bKV g B) : bKV g (bst g q c B) := by
  by_cases hc : bb B = false ∧ q < bn B ∧ ∃ i, adv g (bS B q) c i
  · cases hl : lst (fun j => ∀ i, bS B j i ↔ Cl g (adv g (bS B q) c) i) (bn B) with
    | some j => rw [bst_old hc hl]; exact h
    | none =>
      by_cases hn : bn B < 100
      · rw [bst_new hc hl hn]
        intro a ha
        have ha' : a < bn B + 1 := ha
        show va_up (bS B) (bn B) _ a = Cl g (Kn (va_up (bS B) (bn B) _ a)) ∧ ∀ i, va_up (bS B) (bn B) _ a i → vI g i
        by_cases z : a = bn B
        · rw [z, va_up_self]
          exact Cl_KV hw (fun i => adv_krn hw) (fun i => adv_vI)
        · rw [va_up_ne _ _ z]
          exact h a (by omega)
      · rw [bst_big hc hl hn]; exact h
  · rw [bst_skip hc]; exact h
theorem bfs_KV {g : Gm} (hw : gW g) : ∀ m, bKV g (bfs g m)
  | 0 => b0_KV hw
  | m + 1 => bst_KV hw (bfs_KV hw m)
/-- frames with fields of the reference itself -/
def kf (cs js : List Nat) (μ ν : tp_S) : Prop := (∀ a, a ∉ cs → a ≠ 0 → ν.1 a = μ.1 a) ∧ ∀ j, j ∉ js → ν.1 0 j = μ.1 0 j
theorem kf_rf (cs js : List Nat) (μ : tp_S) : kf cs js μ μ := ⟨fun _ _ _ => rfl, fun _ _ => rfl⟩
theorem kf_tr {cs js : List Nat} {μ ν ξ : tp_S} (h1 : kf cs js μ ν) (h2 : kf cs js ν ξ) : kf cs js μ ξ := ⟨fun a h h0 => (h2.1 a h h0).trans (h1.1 a h h0), fun j h => (h2.2 j h).trans (h1.2 j h)⟩
theorem kf_si {cs js : List Nat} {μ ν : tp_S} {a j : Nat} {x : Int32} (h : kf cs js μ ν) (ha : a ∈ cs) (h0 : a ≠ 0) : kf cs js μ (tp_si ν a j x) :=
  ⟨fun b hb b0 => (si_nc (b := b) (a := a) (fun e => hb (e ▸ ha))).trans (h.1 b hb b0), fun i hi => (si_ne (Ne.symm h0)).trans (h.2 i hi)⟩
theorem kf_s0 {cs js : List Nat} {μ ν : tp_S} {j : Nat} {x : Int32} (h : kf cs js μ ν) (hj : j ∈ js) : kf cs js μ (tp_si ν 0 j x) :=
  ⟨fun b hb b0 => (si_nc b0).trans (h.1 b hb b0), fun i hi => (si_nj (k := i) (j := j) (fun e => hi (e ▸ hj))).trans (h.2 i hi)⟩
theorem kf_ke {cs js ds : List Nat} {μ ν : tp_S} (h : ke ds μ ν) (hd : ∀ a, a ∈ ds → a ∈ cs) (h0 : 0 ∉ ds) : kf cs js μ ν := ⟨fun a ha _ => h.1 a (fun z => ha (hd a z)), fun j _ => by rw [h.1 0 h0]⟩
theorem kf_sub {cs js ds ks : List Nat} {μ ν : tp_S} (h : kf cs js μ ν) (hs : ∀ a, a ∈ cs → a ∈ ds) (hj : ∀ a, a ∈ js → a ∈ ks) : kf ds ks μ ν := ⟨fun a ha h0 => h.1 a (fun q => ha (hs a q)) h0, fun j h1 => h.2 j (fun q => h1 (hj j q))⟩
theorem gM_kf {g : Gm} {op : Bool} {ok ol : Nat} {os : Nat → Nat} {μ ν : tp_S} {cs js : List Nat} (hk : kf cs js μ ν) (ho : 1 ∉ cs ∧ 2 ∉ cs ∧ 3 ∉ cs ∧ 4 ∉ js ∧ 5 ∉ js) (h : gM g op ok ol os μ) : gM g op ok ol os ν := gM_eq (hk.2 4 ho.2.2.2.1) (hk.2 5 ho.2.2.2.2) (hk.1 1 ho.1 (by decide)) (hk.1 2 ho.2.1 (by decide)) (hk.1 3 ho.2.2.1 (by decide)) h
/-- a row of flags of the reference -/
def hsM (μ : tp_S) (c q : Nat) (S : Nat → Prop) : Prop := ∀ j, j < 200 → μ.1 c (200 * q + j) = bI (pd (mS S j))
theorem sp_symAt {g : Gm} {op : Bool} {ok ol : Nat} {os : Nat → Nat} {μ : tp_S} (hw : gW g) (hg : gM g op ok ol os μ) {r p : Nat} (hr : r < gn g ∨ r = 24) (hp : p ≤ rl g r) {K : Int32 → tp_S → Prop} (k1 : p < rl g r → rs g r p < 22 → K (nI (s6 (rs g r p))) μ) (k0 : ¬ p < rl g r → K (-1) μ) : tp_W shM m_Mo_symbolAt 0 [some (.ref 0), some (.int (nI r)), some (.int (nI p))] [] μ (tp_Qi K) := by
  obtain ⟨w1, w2, w3, w4, w5⟩ := rwM_of hw hg hr
  refine bk_Mo_symbolAt_0 _ _ ?_
  rw [nI_clamp (by omega), w4, pk_mul, nI_add, nI_clamp (by omega)]
  refine ⟨vp_in_nI (by omega) (by decide), fun h => k0 (fun z => ?_), fun h => ?_⟩
  · have := (nI_leI (by omega) (by omega)).mp h
    omega
  · have hlt : p < rl g r := by
      rcases Nat.lt_or_ge p (rl g r) with z | z
      · exact z
      · exact absurd (nI_le z (by omega)) h
    rw [(w5 p hlt).1]
    exact ⟨vp_in_nI (by omega) (by decide), k1 hlt (w5 p hlt).2⟩
theorem sp_MisKind_m {μ : tp_S} {K : Int32 → tp_S → Prop} (h : K (nI 0) μ) : tp_W shM m_Mo_isKind 0 [some (.int (-1))] [] μ (tp_Qi K) :=
  bk_Mo_isKind_0 _ ⟨fun _ => ⟨bo_0, h⟩, fun z => absurd (by decide) z⟩
noncomputable def cR (S : Nat → Prop) : Nat := (List.range 24).countP (fun r => pd (S (7 * r)))
theorem cR_le (S : Nat → Prop) : cR S ≤ 24 := by
  have := List.countP_le_length (l := List.range 24) (p := fun r => pd (S (7 * r)))
  rw [List.length_range] at this
  exact this
theorem cR_mono {S T : Nat → Prop} (h : ∀ i, S i → T i) : cR S ≤ cR T := List.countP_mono_left (fun r _ hr => pd_t (h _ (pd_e hr)))
theorem cR_lt {S T : Nat → Prop} (h : ∀ i, S i → T i) {r : Nat} (hr : r < 24) (h1 : T (7 * r)) (h2 : ¬ S (7 * r)) : cR S < cR T := cnt_lt (fun r _ hr => pd_t (h _ (pd_e hr))) ⟨r, List.mem_range.mpr hr, pd_t h1, pd_f h2⟩
/-- only row q of cell 7 has changed -/
def f7 (q : Nat) (μ ν : tp_S) : Prop := ke [7] μ ν ∧ ∀ x, (x < 200 * q ∨ 200 * q + 200 ≤ x) → ν.1 7 x = μ.1 7 x
theorem f7_si {q : Nat} {μ ν : tp_S} (h : f7 q μ ν) {j : Nat} {x : Int32} (hj : j < 200) : f7 q μ (tp_si ν 7 (200 * q + j) x) :=
  ⟨ke_si h.1 (by decide), fun y hy => by rw [si_nj (by omega)]; exact h.2 y hy⟩
/-- the rules of a kind come along -/
theorem cm_53 {g : Gm} {op : Bool} {ok ol : Nat} {os : Nat → Nat} {μ : tp_S} (hw : gW g) (hg : gM g op ok ol os μ) {q : Nat} (hq : q < 100) {i : Nat} {kd : Nat} (hkd : kd < 8) {K : tp_S → Prop} :
    ∀ (n r : Nat) (x : Int32) (S : Nat → Prop) (ν : tp_S), r + n = gn g → f7 q μ ν → hsM ν 7 q S → (x = nI 0 ∨ x = nI 1) →
    (∀ S' x' ν', f7 q μ ν' → hsM ν' 7 q S' → (∀ a, S' a ↔ (S a ∨ ∃ r', r ≤ r' ∧ r' < gn g ∧ gk g r' = kd ∧ a = 7 * r')) → (x' = nI 0 ∨ x' = nI 1) → (x' = nI 0 ↔ (x = nI 0 ∧ ∀ a, S' a → S a)) → tp_W shM m_Mo_complete 10 [some (.ref 0), some (.int (nI q)), some (.int x'), some (.int (nI (i + 1))), none, none, none] [] ν' (tp_Qv K)) →
    tp_W shM m_Mo_complete 53 [some (.ref 0), some (.int (nI q)), some (.int x), some (.int (nI i)), some (.int (nI (s6 (14 + kd)))), some (.int (nI r)), none] [] ν (tp_Qv K) := by
  have hn24 := hw.1
  intro n
  induction n with
  | zero =>
    intro r x S ν hr hf hs hx cont
    have hgt := gM_ke hf.1 (by decide) hg
    refine bk_Mo_complete_53 _ _ _ _ _ (sp_Mclosed hw hgt ⟨fun _ => ?_, fun h => absurd (nI_le (by omega) (by omega)) h⟩)
    rw [nI_add]
    exact cont S x ν hf hs (fun a => ⟨Or.inl, fun h => h.elim id (fun ⟨r', h1, h2, _⟩ => by omega)⟩) hx ⟨fun h => ⟨h, fun a h => h⟩, fun h => h.1⟩
  | succ n ih =>
    intro r x S ν hr hf hs hx cont
    have hgt := gM_ke hf.1 (by decide) hg
    have e1 : ν.1 1 r = nI (gk g r) := (hgt.2.2.1 r (by omega)).1
    have hk8 := (hw.2 r (by omega)).1
    have hs8 : ν.1 7 (200 * q + 8 * r) = bI (pd (S (7 * r))) := by rw [hs (8 * r) (by omega), pd_i mS_8]
    refine bk_Mo_complete_53 _ _ _ _ _ (sp_Mclosed hw hgt ⟨fun h => absurd ((nI_leI (by omega) (by omega)).mp h) (by omega), fun _ => sp_MisKind (by omega) (fun z => by omega) (fun _ => ⟨fun z => absurd z n1_0, fun _ => ?_⟩)⟩)
    rw [nI_clamp (by omega), e1, s6_hi (by omega), pk_sub (by omega), show 14 + kd + 6 - 20 = kd by omega, nI_eq (by omega) (by omega), pk_mul, pk_mul, nI_add, nI_clamp (by omega), hs8]
    have hv : vp_in (nI (200 * q + 8 * r)) 20000 := vp_in_nI (by omega) (by decide)
    -- the flag is written
    have wr : ∀ (y x' : Int32) (S' : Nat → Prop), (∀ a, S' a ↔ (S a ∨ (gk g r = kd ∧ a = 7 * r))) → y = bI (pd (S' (7 * r))) → (x' = nI 0 ∨ x' = nI 1) → (x' = nI 0 ↔ (x = nI 0 ∧ ∀ a, S' a → S a)) → tp_W shM m_Mo_complete 170 [some (.ref 0), some (.int (nI q)), some (.int x'), some (.int (nI i)), some (.int (nI (14 + kd + 6))), some (.int (nI r)), none] [.int y, .int (nI (200 * q + 8 * r)), .ref 7] ν (tp_Qv K) := by
      intro y x' S' hS' hy hx' hxx
      refine bk_Mo_complete_170 _ _ _ _ _ _ _ ⟨hv, by rw [hy]; exact bI_o _, ?_⟩
      rw [nI_clamp (by omega), nI_add, ← s6_hi (c := 14 + kd) (by omega)]
      refine ih (r + 1) x' S' _ (by omega) (f7_si hf (by omega)) (fun j hj => ?_) hx' (fun S2 x2 ν2 h1 h2 h3 h4 h5 => cont S2 x2 ν2 h1 h2 (fun a => ?_) h4 ?_)
      · by_cases e : j = 8 * r
        · subst e
          rw [si_at, hy, pd_i mS_8]
        · rw [si_nj (by omega), hs j hj]
          refine congrArg bI (pd_i ?_)
          unfold mS
          constructor
          · rintro ⟨h1, h2⟩; exact ⟨h1, (hS' _).mpr (Or.inl h2)⟩
          · rintro ⟨h1, h2⟩
            rcases (hS' _).mp h2 with h | ⟨_, h⟩
            · exact ⟨h1, h⟩
            · omega
      · rw [h3 a, hS' a]
        constructor
        · rintro ((h | ⟨h, h'⟩) | ⟨r', h, h'⟩)
          · exact Or.inl h
          · exact Or.inr ⟨r, Nat.le_refl _, by omega, h, h'⟩
          · exact Or.inr ⟨r', by omega, h'⟩
        · rintro (h | ⟨r', h, z1, z2, z3⟩)
          · exact Or.inl (Or.inl h)
          · by_cases e : r' = r
            · subst e; exact Or.inl (Or.inr ⟨z2, z3⟩)
            · exact Or.inr ⟨r', by omega, z1, z2, z3⟩
      · rw [h5, hxx]
        constructor
        · rintro ⟨⟨a, b⟩, c⟩; exact ⟨a, fun z hz => b z (c z hz)⟩
        · rintro ⟨a, b⟩
          exact ⟨⟨a, fun z hz => b z ((h3 z).mpr (Or.inl hz))⟩, fun z hz => (hS' z).mpr (Or.inl (b z hz))⟩
    have x0 : ¬ x = 0 → x = nI 1 := fun h => hx.resolve_left (fun e => h e)
    refine ⟨vp_in_nI (by omega) (by decide), fun hne => ?_, fun he => ⟨hv, fun hh => ?_, fun hh => ?_⟩⟩
    · -- another kind
      have hS : ∀ a, S a ↔ (S a ∨ (gk g r = kd ∧ a = 7 * r)) := fun a => ⟨Or.inl, fun h => h.elim id (fun z => absurd z.1 hne)⟩
      have go : ∀ x' : Int32, x' = x → tp_W shM m_Mo_complete 126 [some (.ref 0), some (.int (nI q)), some (.int x'), some (.int (nI i)), some (.int (nI (14 + kd + 6))), some (.int (nI r)), some (.int (nI 0))] [] ν (tp_Qv K) := by
        intro x' ex
        subst ex
        refine bk_Mo_complete_126 _ _ _ _ _ _ ?_
        rw [pk_mul, pk_mul, nI_add, nI_clamp (by omega), hs8]
        refine ⟨hv, fun h => wr _ _ S hS (bI_t (bI_n0.mp h)).symm hx ⟨fun h => ⟨h, fun _ h => h⟩, fun h => h.1⟩, fun h => ⟨fun _ => wr _ _ S hS (bI_f (bI_z0.mp h)).symm hx ⟨fun h => ⟨h, fun _ h => h⟩, fun h => h.1⟩, fun z => absurd rfl z⟩⟩
      refine bk_Mo_complete_111 _ _ _ _ _ _ ⟨fun h => go _ (x0 h).symm, fun h => ⟨fun _ => go _ h.symm, fun z => absurd rfl z⟩⟩
    · -- it is there already
      have h7 := bI_n0.mp hh
      have hS : ∀ a, S a ↔ (S a ∨ (gk g r = kd ∧ a = 7 * r)) := fun a => ⟨Or.inl, fun h => h.elim id (fun z => by rw [z.2]; exact h7)⟩
      have go : ∀ x' : Int32, x' = x → tp_W shM m_Mo_complete 126 [some (.ref 0), some (.int (nI q)), some (.int x'), some (.int (nI i)), some (.int (nI (14 + kd + 6))), some (.int (nI r)), some (.int (nI 0))] [] ν (tp_Qv K) := by
        intro x' ex
        subst ex
        refine bk_Mo_complete_126 _ _ _ _ _ _ ?_
        rw [pk_mul, pk_mul, nI_add, nI_clamp (by omega), hs8]
        exact ⟨hv, fun h => wr _ _ S hS (bI_t h7).symm hx ⟨fun h => ⟨h, fun _ h => h⟩, fun h => h.1⟩, fun h => absurd h hh⟩
      refine bk_Mo_complete_111 _ _ _ _ _ _ ⟨fun h => go _ (x0 h).symm, fun h => ⟨fun _ => go _ h.symm, fun z => absurd rfl z⟩⟩
    · -- it is new
      have h7 := bI_z0.mp hh
      have go : tp_W shM m_Mo_complete 126 [some (.ref 0), some (.int (nI q)), some (.int (nI 1)), some (.int (nI i)), some (.int (nI (14 + kd + 6))), some (.int (nI r)), some (.int (nI 1))] [] ν (tp_Qv K) := by
        refine bk_Mo_complete_126 _ _ _ _ _ _ ?_
        rw [pk_mul, pk_mul, nI_add, nI_clamp (by omega), hs8]
        refine ⟨hv, fun h => absurd hh h, fun _ => ⟨fun z => absurd z n1_0, fun _ => wr _ _ (fun a => S a ∨ (gk g r = kd ∧ a = 7 * r)) (fun a => Iff.rfl) (bI_t (Or.inr ⟨he, rfl⟩)).symm (Or.inr rfl) ⟨fun h => absurd h n1_0, fun h => absurd (h.2 (7 * r) (Or.inr ⟨he, rfl⟩)) h7⟩⟩⟩
      refine bk_Mo_complete_111 _ _ _ _ _ _ ⟨fun h => go, fun h => ⟨fun z => absurd z n1_0, fun _ => go⟩⟩
/-- one pass -/
theorem cm_10 {g : Gm} {op : Bool} {ok ol : Nat} {os : Nat → Nat} {μ : tp_S} (hw : gW g) (hg : gM g op ok ol os μ) {q : Nat} (hq : q < 100) {N S0 : Nat → Prop} (hN : ∀ i, N i → vI g i) {K : tp_S → Prop}
    (k0 : ∀ ν, f7 q μ ν → hsM ν 7 q S0 → cCl g S0 → tp_W shM m_Mo_complete 2 [some (.ref 0), some (.int (nI q)), some (.int (nI 0)), none, none, none, none] [] ν (tp_Qv K))
    (k1 : ∀ S ν, f7 q μ ν → hsM ν 7 q S → (∀ a, S0 a → S a) → (∀ a, S a → Cl g N a) → cR S0 < cR S → tp_W shM m_Mo_complete 2 [some (.ref 0), some (.int (nI q)), some (.int (nI 1)), none, none, none, none] [] ν (tp_Qv K)) :
    ∀ (n i : Nat) (x : Int32) (S : Nat → Prop) (ν : tp_S), i + n = 200 → f7 q μ ν → hsM ν 7 q S → (∀ a, S a → Cl g N a) →
    (x = nI 0 ∧ S = S0 ∧ (∀ j, j < i → mS S j → ∀ r, r < gn g → bcs g (7 * (j / 8) + j % 8) (14 + gk g r) → S (7 * r)) ∨ x = nI 1 ∧ (∀ a, S0 a → S a) ∧ cR S0 < cR S) →
    tp_W shM m_Mo_complete 10 [some (.ref 0), some (.int (nI q)), some (.int x), some (.int (nI i)), none, none, none] [] ν (tp_Qv K) := by
  have hn24 := hw.1
  intro n
  induction n with
  | zero =>
    intro i x S ν hi hf hs hin hx
    refine bk_Mo_complete_10 _ _ _ ⟨fun _ => ?_, fun h => absurd (nI_le (by omega) (by omega)) h⟩
    rcases hx with ⟨rfl, rfl, h1⟩ | ⟨rfl, h1, h2⟩
    · refine k0 ν hf hs (fun a r ha hr hb => ?_)
      have hb' := hb
      have h7 := (bcs_lt hw hb').1
      have := h1 (8 * (a / 7) + a % 7) (by omega) ((mS_i a).mpr ha) r hr
      rw [show (8 * (a / 7) + a % 7) / 8 = a / 7 by omega, show (8 * (a / 7) + a % 7) % 8 = a % 7 by omega, show 7 * (a / 7) + a % 7 = a by omega] at this
      exact this hb
    · exact k1 S ν hf hs h1 hin h2
  | succ n ih =>
    intro i x S ν hi hf hs hin hx
    have hgt := gM_ke hf.1 (by decide) hg
    have hx01 : x = nI 0 ∨ x = nI 1 := hx.elim (fun h => Or.inl h.1) (fun h => Or.inr h.1)
    -- nothing comes of item i
    have skip : (∀ r, r < gn g → mS S i → bcs g (7 * (i / 8) + i % 8) (14 + gk g r) → S (7 * r)) → tp_W shM m_Mo_complete 10 [some (.ref 0), some (.int (nI q)), some (.int x), some (.int (nI (i + 1))), none, none, none] [] ν (tp_Qv K) := by
      intro hno
      refine ih (i + 1) x S ν (by omega) hf hs hin ?_
      rcases hx with ⟨e, e2, h1⟩ | h
      · refine Or.inl ⟨e, e2, fun j hj hm r hr hb => ?_⟩
        by_cases z : j = i
        · subst z; exact hno r hr hm hb
        · exact h1 j (by omega) hm r hr hb
      · exact Or.inr h
    have none1 : ∀ y : Int32, (y = -1 ∨ ∃ c, c < 14 ∧ y = nI (s6 c)) → (∀ r, r < gn g → mS S i → bcs g (7 * (i / 8) + i % 8) (14 + gk g r) → S (7 * r)) → tp_W shM m_Mo_complete 50 [some (.ref 0), some (.int (nI q)), some (.int x), some (.int (nI i)), some (.int y), none, none] [] ν (tp_Qv K) := by
      intro y hy hno
      refine bk_Mo_complete_50 _ _ _ _ (bk_Mo_complete_53 _ _ _ _ _ (sp_Mclosed hw hgt ⟨fun _ => ?_, fun _ => ?_⟩))
      · rw [nI_add]; exact skip hno
      · rcases hy with rfl | ⟨c, hc, rfl⟩
        · refine sp_MisKind_m ⟨fun _ => ?_, fun h => absurd rfl h⟩
          rw [nI_add]; exact skip hno
        · refine sp_MisKind (by omega) (fun _ => ⟨fun _ => ?_, fun h => absurd rfl h⟩) (fun z => by omega)
          rw [nI_add]; exact skip hno
    refine bk_Mo_complete_10 _ _ _ ⟨fun h => absurd ((nI_leI (by omega) (by omega)).mp h) (by omega), fun _ => ?_⟩
    rw [pk_mul, nI_add, nI_clamp (by omega), hs i (by omega), pk_rem (by omega) (by decide) (by decide), pk_div (by omega) (by decide) (by decide)]
    refine ⟨vp_in_nI (by omega) (by decide), fun h => none1 _ (Or.inl rfl) (fun r _ hm => absurd hm (bI_z0.mp h)), fun h => ⟨by decide, by decide, ?_⟩⟩
    have hm := bI_n0.mp h
    have hvi : vI g (7 * (i / 8) + i % 8) := Cl_vI hN (hin _ hm.2)
    obtain ⟨r, p, hr, hp, e⟩ := hvi
    have h6 := rl_6 hw hr
    have h86 := hm.1
    have er : i / 8 = r := by omega
    have ep : i % 8 = p := by omega
    rw [er, ep]
    refine sp_symAt hw hgt hr hp (fun hlt hc => ?_) (fun hge => none1 _ (Or.inl rfl) (fun r' _ _ hb => ?_))
    · by_cases c14 : rs g r p < 14
      · refine none1 _ (Or.inr ⟨_, c14, rfl⟩) (fun r' _ _ hb => ?_)
        rw [er, ep] at hb
        have := (bcs_at hw (by omega) hb).2.2
        omega
      · have ec : rs g r p = 14 + (rs g r p - 14) := by omega
        have hbc : bcs g (7 * r + p) (rs g r p) := ⟨r, p, hr, hlt, rfl, rfl⟩
        rw [ec]
        refine bk_Mo_complete_50 _ _ _ _ (cm_53 hw hg hq (by omega) (gn g) 0 x S ν (Nat.zero_add _) hf hs hx01 (fun S' x' ν' f1 f2 f3 f4 f5 => ?_))
        have hin' : ∀ a, S' a → Cl g N a := fun a ha => by
          rcases (f3 a).mp ha with h | ⟨r', _, h1, h2, h3⟩
          · exact hin a h
          · rw [h3]
            refine Cl_cl g N (7 * r + p) r' ?_ h1 ?_
            · have := hin _ hm.2
              rw [er, ep] at this
              exact this
            · rw [h2, ← ec]; exact hbc
        refine ih (i + 1) x' S' ν' (by omega) f1 f2 hin' ?_
        rcases f4 with e0 | e1
        · obtain ⟨ex, hsub⟩ := f5.mp e0
          have eS : S' = S := by
            funext a
            exact propext ⟨hsub a, fun h => (f3 a).mpr (Or.inl h)⟩
          rcases hx with ⟨_, e2, h1⟩ | ⟨e2, _⟩
          · refine Or.inl ⟨e0, eS.trans e2, fun j hj hm' r' hr' hb => ?_⟩
            rw [eS] at hm' ⊢
            by_cases z : j = i
            · subst z
              rw [er, ep] at hb
              have := (bcs_at hw (by omega) hb).2.2
              exact hsub _ ((f3 _).mpr (Or.inr ⟨r', Nat.zero_le _, hr', by omega, rfl⟩))
            · exact h1 j (by omega) hm' r' hr' hb
          · rw [ex] at e2; exact absurd e2.symm n1_0
        · refine Or.inr ⟨e1, ?_⟩
          rcases hx with ⟨e2, e3, h1⟩ | ⟨e2, h1, h2⟩
          · subst e3
            have hex : ∃ a, S' a ∧ ¬ S a := by
              refine Classical.byContradiction (fun hno => ?_)
              have := f5.mpr ⟨e2, fun a ha => Classical.byContradiction (fun hs => hno ⟨a, ha, hs⟩)⟩
              rw [this] at e1
              exact absurd e1.symm n1_0
            obtain ⟨a, ha, hna⟩ := hex
            rcases (f3 a).mp ha with h | ⟨r', _, h1, h2, h3⟩
            · exact absurd h hna
            · subst h3
              exact ⟨fun a h => (f3 a).mpr (Or.inl h), cR_lt (fun a h => (f3 a).mpr (Or.inl h)) (by omega) ha hna⟩
          · exact ⟨fun a h => (f3 a).mpr (Or.inl (h1 a h)), Nat.lt_of_lt_of_le h2 (cR_mono (fun a h => (f3 a).mpr (Or.inl h)))⟩
    · rw [er, ep] at hb
      have := (bcs_at hw (by omega) hb).2.1
      omega
theorem sp_Mcomplete {g : Gm} {op : Bool} {ok ol : Nat} {os : Nat → Nat} {μ : tp_S} (hw : gW g) (hg : gM g op ok ol os μ) {q : Nat} (hq : q < 100) {N : Nat → Prop} (hN : ∀ i, N i → vI g i) (hs : hsM μ 7 q N) {K : tp_S → Prop} (k : ∀ ν, f7 q μ ν → hsM ν 7 q (Cl g N) → K ν) : tp_W shM m_Mo_complete 0 [some (.ref 0), some (.int (nI q)), none, none, none, none, none] [] μ (tp_Qv K) := by
  refine bk_Mo_complete_0 _ ?_
  suffices h : ∀ (n : Nat) (S : Nat → Prop) (ν : tp_S), 24 - cR S < n → f7 q μ ν → hsM ν 7 q S → (∀ a, N a → S a) → (∀ a, S a → Cl g N a) → tp_W shM m_Mo_complete 2 [some (.ref 0), some (.int (nI q)), some (.int (nI 1)), none, none, none, none] [] ν (tp_Qv K) from h 25 N μ (by omega) ⟨ke_rf _ _, fun _ _ => rfl⟩ hs (fun _ h => h) (fun _ h => Cl_in h)
  intro n
  induction n with
  | zero => intro S ν h; omega
  | succ n ih =>
    intro S ν hn hf hS h1 h2
    refine bk_Mo_complete_2 _ _ ⟨fun h => absurd h n1_0, fun _ => ?_⟩
    refine cm_10 hw hg hq hN (fun ξ f1 f2 f3 => bk_Mo_complete_2 _ _ ⟨fun _ => k ξ f1 ?_, fun h => absurd rfl h⟩) (fun T ξ f1 f2 f3 f4 f5 => ih T ξ (by have := cR_le T; omega) f1 f2 (fun a ha => f3 a (h1 a ha)) f4) 200 0 (nI 0) S ν rfl hf hS h2 (Or.inl ⟨rfl, rfl, fun j hj => absurd hj (Nat.not_lt_zero j)⟩)
    have : S = Cl g N := by funext a; exact propext (Cl_eq h1 f3 h2 a)
    rw [← this]; exact f2
