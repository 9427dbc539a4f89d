/-! what comes in each state, and clashes -/
def sm (f : Nat → Nat) : Nat → Nat
  | 0 => 0
  | n + 1 => sm f n + f n
theorem sm_congr {f h : Nat → Nat} : ∀ {n : Nat}, (∀ i, i < n → f i = h i) → sm f n = sm h n
  | 0, _ => rfl
  | n + 1, e => by
    show sm f n + f n = sm h n + h n
    rw [sm_congr (fun i hi => e i (by omega)), e n (by omega)]
theorem sm_add (f h : Nat → Nat) : ∀ n, sm (fun i => f i + h i) n = sm f n + sm h n
  | 0 => rfl
  | n + 1 => by
    show sm (fun i => f i + h i) n + (f n + h n) = (sm f n + f n) + (sm h n + h n)
    rw [sm_add f h n]; omega
theorem sm_0 : ∀ n, sm (fun _ => 0) n = 0
  | 0 => rfl
  | n + 1 => sm_0 n
theorem sm_swap (f : Nat → Nat → Nat) (m : Nat) : ∀ n, sm (fun i => sm (f i) m) n = sm (fun j => sm (fun i => f i j) n) m
  | 0 => (sm_0 m).symm
  | n + 1 => by
    show sm (fun i => sm (f i) m) n + sm (f n) m = sm (fun j => sm (fun i => f i j) n + f n j) m
    rw [sm_add, sm_swap f m n]
def cnd (g : Gm) (B : Bs) (q t r : Nat) : Prop := bS B q (7 * r + gl g r) ∧ lA g B q (7 * r + gl g r) t
noncomputable def bas (B : Bs) (q t : Nat) : Nat := match bL B q t with
  | some s => 1000 + s
  | none => match pd (t = 0 ∧ bS B q 169) with
    | true => 2000
    | false => 0
noncomputable def nxt (C : Nat → Prop) (r : Nat) (f : Nat → Nat) (t : Nat) : Nat := match pd (C t ∧ f t = 0) with
  | true => 3000 + r
  | false => f t
noncomputable def ch (C : Nat → Prop) (f : Nat → Nat) (t : Nat) : Nat := match pd (C t ∧ ¬ f t = 0) with
  | true => 1
  | false => 0
noncomputable def act (g : Gm) (B : Bs) (q : Nat) : Nat → Nat → Nat
  | 0, t => bas B q t
  | k + 1, t => nxt (fun t => cnd g B q t k) k (act g B q k) t
noncomputable def clh (g : Gm) (B : Bs) (q t k : Nat) : Nat := ch (fun t => cnd g B q t k) (act g B q k) t
theorem nxt_y {C : Nat → Prop} {r : Nat} {f : Nat → Nat} {t : Nat} (h1 : C t) (h2 : f t = 0) : nxt C r f t = 3000 + r := by
  unfold nxt; rw [pd_t ⟨h1, h2⟩]
theorem nxt_n {C : Nat → Prop} {r : Nat} {f : Nat → Nat} {t : Nat} (h : ¬ C t ∨ ¬ f t = 0) : nxt C r f t = f t := by
  unfold nxt; rw [pd_f (fun z => h.elim (fun y => y z.1) (fun y => y z.2))]
theorem ch_y {C : Nat → Prop} {f : Nat → Nat} {t : Nat} (h1 : C t) (h2 : ¬ f t = 0) : ch C f t = 1 := by
  unfold ch; rw [pd_t ⟨h1, h2⟩]
theorem ch_n {C : Nat → Prop} {f : Nat → Nat} {t : Nat} (h : ¬ C t ∨ f t = 0) : ch C f t = 0 := by
  unfold ch; rw [pd_f (fun z => h.elim (fun y => y z.1) (fun y => z.2 y))]
theorem bas_lt {B : Bs} (hb : ∀ q c t, bL B q c = some t → t < 100) {q t : Nat} : bas B q t ≤ 2000 := by
  unfold bas
  split
  · next s e => have := hb q t s e; omega
  · split <;> omega
theorem act_lt {g : Gm} {B : Bs} (hb : ∀ q c t, bL B q c = some t → t < 100) {q : Nat} : ∀ {k t : Nat}, k ≤ 24 → act g B q k t ≤ 3023
  | 0, t, _ => Nat.le_trans (bas_lt hb) (by omega)
  | k + 1, t, h => by
    show nxt (fun t => cnd g B q t k) k (act g B q k) t ≤ 3023
    have ih := act_lt hb (q := q) (k := k) (t := t) (g := g) (by omega)
    unfold nxt
    split
    · omega
    · exact ih
noncomputable def CL (g : Gm) (B : Bs) : Nat := sm (fun q => sm (fun t => sm (fun r => clh g B q t r) (gn g)) 14) (bn B)
theorem CL_swap (g : Gm) (B : Bs) : sm (fun q => sm (fun r => sm (fun t => clh g B q t r) 14) (gn g)) (bn B) = CL g B := sm_congr (fun q _ => sm_swap (fun r t => clh g B q t r) 14 (gn g))
theorem b_test {m : Int32} {t : Nat} (ht : t < 32) : ((Int32.toUInt32 m >>> (Int32.toUInt32 (nI t) &&& Int32.toUInt32 31)).toInt32 &&& (nI 1)) = 0 ↔ ¬ bt m t = true := by
  rw [b_nz]
  constructor
  · intro h hc
    have := h 0 (by omega)
    rw [b_and, b_ushr _ ht, b_one (by omega), Nat.add_zero, hc] at this
    exact absurd this (by decide)
  · intro h i hi
    rw [b_and, b_ushr _ ht, b_one hi]
    by_cases z : i = 0
    · subst z
      rw [Nat.add_zero]
      cases c : bt m t with
      | true => exact absurd c h
      | false => rfl
    · rw [decide_eq_false z, Bool.and_false]
theorem b_test1 {m : Int32} {t : Nat} (ht : t < 32) : ((m >>> (nI t &&& 31)) &&& (nI 1)) = nI 1 ↔ bt m t = true := by
  constructor
  · intro h
    have e : bt ((m >>> (nI t &&& 31)) &&& (nI 1)) 0 = bt (nI 1) 0 := by rw [h]
    rw [b_and, b_sshr _ ht _ (by omega), b_one (by omega), if_pos (by omega), Nat.add_zero] at e
    simpa using e
  · intro h
    refine b_ext (fun i hi => ?_)
    rw [b_and, b_sshr _ ht _ hi, b_one hi]
    by_cases z : i = 0
    · subst z
      rw [if_pos (by omega), Nat.add_zero, h]; rfl
    · rw [decide_eq_false z, Bool.and_false]
theorem sp_addRed {σ : tp_S} {q r : Nat} (hq : q < 100) (hr : r < 24) {f : Nat → Nat} (hfl : ∀ t, f t < 2 ^ 31) (hf : ∀ t, t < 14 → σ.1 9 (22 * q + t) = nI (f t)) {m : Int32} {C : Nat → Prop} (hm : ∀ t, t < 14 → (bt m t = true ↔ C t)) {cl : Nat} (h8 : σ.1 8 1 = nI cl) {K : tp_S → Prop} (k : ∀ τ, ke [8, 9] σ τ → (∀ x, (x < 22 * q ∨ 22 * q + 14 ≤ x) → τ.1 9 x = σ.1 9 x) → (∀ t, t < 14 → τ.1 9 (22 * q + t) = nI (nxt C r f t)) → τ.1 8 1 = nI (cl + sm (ch C f) 14) → K τ) : tp_W shC m_Pl_addReduction 0 [some (.ref 8), some (.int (nI q)), some (.int (nI r)), some (.int m), none, none] [] σ (tp_Qv K) := by
  refine bk_Pl_addReduction_0 _ _ _ ?_
  suffices h : ∀ (n t : Nat) (τ : tp_S), t + n = 14 → ke [8, 9] σ τ → (∀ x, (x < 22 * q ∨ 22 * q + 14 ≤ x) → τ.1 9 x = σ.1 9 x) → (∀ t', t' < 14 → τ.1 9 (22 * q + t') = nI (if t' < t then nxt C r f t' else f t')) → τ.1 8 1 = nI (cl + sm (ch C f) t) → tp_W shC m_Pl_addReduction 3 [some (.ref 8), some (.int (nI q)), some (.int (nI r)), some (.int m), some (.int (nI t)), none] [] τ (tp_Qv K) from h 14 0 σ rfl (ke_rf _ _) (fun _ _ => rfl) (fun t ht => by rw [if_neg (Nat.not_lt_zero t)]; exact hf t ht) h8
  intro n
  induction n with
  | zero =>
    intro t τ ht hk ho hm9 h81
    have e : t = 14 := by omega
    subst e
    exact bk_Pl_addReduction_3 _ _ _ _ ⟨fun _ => k τ hk ho (fun t' h => by rw [hm9 t' h, if_pos h]) h81, fun h => absurd (nI_le (by omega) (by omega)) h⟩
  | succ n ih =>
    intro t τ ht hk ho hm9 h81
    have e9 : τ.1 9 (22 * q + t) = nI (f t) := by rw [hm9 t (by omega), if_neg (by omega)]
    refine bk_Pl_addReduction_3 _ _ _ _ ⟨fun h => absurd ((nI_leI (by omega) (by omega)).mp h) (by omega), fun _ => ?_⟩
    rw [b_test (by omega), hm t (by omega), pk_mul]
    simp only [nI_add]
    rw [nI_clamp (by omega), show q * 22 + t = 22 * q + t by omega, e9, nI_z (hfl t), h81]
    refine ⟨fun hno => ?_, fun hyes => ⟨vp_in_nI (by omega) (by decide), fun hne => ?_, fun he => ⟨vp_in_nI (by omega) (by decide), ?_⟩⟩⟩
    · refine ih (t + 1) τ (by omega) hk ho (fun t' h' => ?_) (by rw [h81]; show _ = nI (cl + (sm (ch C f) t + ch C f t)); rw [ch_n (Or.inl hno)]; rfl)
      rw [hm9 t' h']
      by_cases z : t' = t
      · subst z
        rw [if_neg (by omega), if_pos (by omega), nxt_n (Or.inl hno)]
      · by_cases y : t' < t
        · rw [if_pos y, if_pos (by omega)]
        · rw [if_neg y, if_neg (by omega)]
    · have hyes' := Classical.not_not.mp hyes
      refine ih (t + 1) _ (by omega) (ke_si hk (by decide)) (fun x hx => by rw [si_ne (by decide)]; exact ho x hx) (fun t' h' => ?_) (by rw [si_at]; show nI (cl + sm (ch C f) t) + nI 1 = nI (cl + (sm (ch C f) t + ch C f t)); rw [ch_y hyes' hne, nI_add]; congr 1)
      rw [si_ne (by decide), hm9 t' h']
      by_cases z : t' = t
      · subst z
        rw [if_neg (by omega), if_pos (by omega), nxt_n (Or.inr hne)]
      · by_cases y : t' < t
        · rw [if_pos y, if_pos (by omega)]
        · rw [if_neg y, if_neg (by omega)]
    · have hyes' := Classical.not_not.mp hyes
      refine ih (t + 1) _ (by omega) (ke_si hk (by decide)) (fun x hx => by rw [si_nj (by omega)]; exact ho x hx) (fun t' h' => ?_) (by rw [si_ne (by decide), h81]; show _ = nI (cl + (sm (ch C f) t + ch C f t)); rw [ch_n (Or.inr he)]; rfl)
      by_cases z : t' = t
      · subst z
        rw [si_at, if_pos (by omega), nxt_y hyes' he]
      · rw [si_nj (by omega), hm9 t' h']
        by_cases y : t' < t
        · rw [if_pos y, if_pos (by omega)]
        · rw [if_neg y, if_neg (by omega)]
/-- the plain table -/
def plC (g : Gm) (B : Bs) (σ : tp_S) : Prop := (∀ q t, q < bn B → t < 14 → σ.1 9 (22 * q + t) = nI (act g B q (gn g) t)) ∧ (∀ q c, q < bn B → 14 ≤ c → c < 22 → σ.1 9 (22 * q + c) = mv (bL B q c)) ∧ σ.1 8 1 = nI (CL g B)
theorem Bk_c0 {g : Gm} (hw : gW g) {B : Bs} (hB : Bk g B) {q : Nat} : bL B q 0 = none := by
  cases e : bL B q 0 with
  | none => rfl
  | some t =>
    obtain ⟨_, _, ⟨i, j, _, _, r, p, hr, hp, _, hs⟩, _⟩ := hB.l q 0 t e
    exfalso
    unfold rs rl at *
    by_cases h : r = 24
    · rw [if_pos h] at hs
      exact absurd hs (by decide)
    · rw [if_neg h] at hs hp
      have hrn : r < gn g := by omega
      have := ((hw.2 r hrn).2.2 p hp).1
      omega
theorem mv_bas {B : Bs} {q t : Nat} (h : ¬ (t = 0 ∧ bS B q 169) ∨ ∃ s, bL B q t = some s) : mv (bL B q t) = nI (bas B q t) := by
  unfold mv bas
  cases e : bL B q t with
  | some s => rfl
  | none =>
    rcases h with h | ⟨s, h⟩
    · rw [pd_f h]
    · rw [e] at h; cases h
theorem sp_addReds {g : Gm} {op : Bool} {ok ol : Nat} {os : Nat → Nat} {B : Bs} {σ : tp_S} (hw : gW g) (hB : Bk g B) (hg : gC g op ok ol os σ) (h106 : σ.1 10 6 = nI (bn B)) (hS : ∀ q, q < bn B → ∀ i, bS B q i ↔ (i < 192 ∧ ib σ 11 q i)) (hld : ldC B σ) (hA : ∀ q i t, aS σ q i t ↔ lA g B q i t) (h8 : σ.1 8 1 = nI 0) {K : tp_S → Prop} (k : ∀ τ, ke [8, 9] σ τ → plC g B τ → K τ) : tp_W shC m_Pl_addReductions 0 [some (.ref 8), some (.ref 1), some (.ref 10), some (.ref 15), none, none, none] [] σ (tp_Qv K) := by
  have h100 := hB.n100
  have hn24 := hw.1
  have hb100 : ∀ q c t, bL B q c = some t → t < 100 := fun q c t h => by have := (hB.l q c t h).2.1; omega
  refine bk_Pl_addReductions_1_10_15_0 ?_
  suffices h : ∀ (n q : Nat) (τ : tp_S), q + n = bn B → ke [8, 9] σ τ → (∀ q' t, q' < q → t < 14 → τ.1 9 (22 * q' + t) = nI (act g B q' (gn g) t)) → (∀ q' c, q' < bn B → c < 22 → (q ≤ q' ∨ 14 ≤ c) → τ.1 9 (22 * q' + c) = mv (bL B q' c)) → τ.1 8 1 = nI (sm (fun q => sm (fun r => sm (fun t => clh g B q t r) 14) (gn g)) q) → tp_W shC m_Pl_addReductions 3 [some (.ref 8), some (.ref 1), some (.ref 10), some (.ref 15), some (.int (nI q)), none, none] [] τ (tp_Qv K) from h (bn B) 0 σ (Nat.zero_add _) (ke_rf _ _) (fun q' t h => absurd h (Nat.not_lt_zero q')) (fun q' c h1 h2 _ => hld q' c (by omega) h2) h8
  intro n
  induction n with
  | zero =>
    intro q τ hq hk c1 c2 c3
    have eq : q = bn B := by omega
    subst eq
    refine bk_Pl_addReductions_1_10_15_3 _ (bk_St_size_0 ?_)
    rw [hk.1 10 (by decide), h106]
    refine ⟨fun _ => k τ hk ⟨c1, fun q' c h1 h2 h3 => c2 q' c h1 h3 (Or.inr h2), by rw [c3, CL_swap]⟩, fun h => absurd (nI_le (by omega) (by omega)) h⟩
  | succ n ih =>
    intro q τ hq hk c1 c2 c3
    have hqn : q < bn B := by omega
    -- the rules
    have rules : ∀ (m r : Nat) (τ : tp_S), r + m = gn g → ke [8, 9] σ τ → (∀ q' t, q' < q → t < 14 → τ.1 9 (22 * q' + t) = nI (act g B q' (gn g) t)) → (∀ q' c, q' < bn B → c < 22 → (q < q' ∨ 14 ≤ c) → τ.1 9 (22 * q' + c) = mv (bL B q' c)) → (∀ t, t < 14 → τ.1 9 (22 * q + t) = nI (act g B q r t)) → τ.1 8 1 = nI (sm (fun q => sm (fun r => sm (fun t => clh g B q t r) 14) (gn g)) q + sm (fun r => sm (fun t => clh g B q t r) 14) r) → tp_W shC m_Pl_addReductions 42 [some (.ref 8), some (.ref 1), some (.ref 10), some (.ref 15), some (.int (nI q)), some (.int (nI r)), none] [] τ (tp_Qv K) := by
      intro m
      induction m with
      | zero =>
        intro r τ hr hk c1 c2 c4 c3
        have er : r = gn g := by omega
        subst er
        have hgt := gC_ke hk (by decide) hg
        refine bk_Pl_addReductions_1_10_15_42 _ _ (bk_Gr_rules_0 ?_)
        rw [hgt.1, nI_add]
        refine ⟨fun _ => ih (q + 1) τ (by omega) hk (fun q' t h1 h2 => ?_) (fun q' c h1 h2 h3 => c2 q' c h1 h2 (by omega)) c3, fun h => absurd (nI_le (by omega) (by omega)) h⟩
        by_cases z : q' = q
        · subst z; exact c4 t h2
        · exact c1 q' t (by omega) h2
      | succ m ihr =>
        intro r τ hr hk c1 c2 c4 c3
        have hrn : r < gn g := by omega
        have hgt := gC_ke hk (by decide) hg
        have hl6 := (hw.2 r hrn).2.1
        have e3 : τ.1 3 r = nI (gl g r) := (hgt.2.2.1 r hrn).2.1
        refine bk_Pl_addReductions_1_10_15_42 _ _ (bk_Gr_rules_0 ?_)
        rw [hgt.1]
        refine ⟨fun h => absurd ((nI_leI (by omega) (by omega)).mp h) (by omega), fun _ => bk_Gr_lengthOf_0 _ ?_⟩
        rw [nI_clamp (by omega), e3, pk_mul]
        simp only [nI_add]
        rw [show r * 7 + gl g r = 7 * r + gl g r by omega]
        refine ⟨vp_in_nI (by omega) (by decide), sp_holds (by omega) (by omega) ⟨fun h => ?_, fun h => sp_setOf (by omega) (by omega) (fun w hwm => ?_)⟩⟩
        · have hno : ∀ t, ¬ cnd g B q t r := fun t hc => by
            refine bI_z0.mp h ?_
            rw [ib_ke hk (by decide)]
            exact ((hS q hqn _).mp hc.1).2
          refine ihr (r + 1) τ (by omega) hk c1 c2 (fun t ht => ?_) ?_
          · show _ = nI (nxt (fun t => cnd g B q t r) r (act g B q r) t)
            rw [nxt_n (C := fun t => cnd g B q t r) (t := t) (Or.inl (hno t))]; exact c4 t ht
          · rw [c3]
            show _ = nI (_ + (sm (fun r => sm (fun t => clh g B q t r) 14) r + sm (fun t => clh g B q t r) 14))
            have : sm (fun t => clh g B q t r) 14 = 0 := by
              have e : ∀ t, t < 14 → clh g B q t r = 0 := fun t _ => ch_n (C := fun t => cnd g B q t r) (t := t) (Or.inl (hno t))
              rw [sm_congr (h := fun _ => 0) e]
              exact sm_0 14
            rw [this]; rfl
        · have hyes : bS B q (7 * r + gl g r) := by
            have := bI_n0.mp h
            rw [ib_ke hk (by decide)] at this
            exact (hS q hqn _).mpr ⟨by omega, this⟩
          have haS : ∀ q i t, aS τ q i t ↔ lA g B q i t := fun q i t => by
            rw [← hA q i t]
            unfold aS
            rw [hk.2 16 (by decide)]
          refine sp_addRed (C := fun t => cnd g B q t r) (f := act g B q r) (by omega) (by omega) (fun t => by have := act_lt hb100 (g := g) (q := q) (k := r) (t := t) (by omega); omega) c4 (fun t ht => ?_) c3 (fun υ hku ho h9 h81 => ?_)
          · rw [hwm t (by omega), haS]
            exact ⟨fun z => ⟨hyes, z⟩, fun z => z.2⟩
          · refine ihr (r + 1) υ (by omega) (ke_tr hk hku) (fun q' t h1 h2 => ?_) (fun q' c h1 h2 h3 => ?_) h9 ?_
            · rw [ho _ (by omega)]; exact c1 q' t h1 h2
            · rw [ho _ (by omega)]; exact c2 q' c h1 h2 h3
            · rw [h81, Nat.add_assoc]; rfl
    refine bk_Pl_addReductions_1_10_15_3 _ (bk_St_size_0 ?_)
    rw [hk.1 10 (by decide), h106]
    refine ⟨fun h => absurd ((nI_leI (by omega) (by omega)).mp h) (by omega), fun _ => sp_holds (by omega) (by omega) ⟨fun h => ?_, fun h => ?_⟩⟩
    · have hno : ¬ bS B q 169 := fun z => by
        refine bI_z0.mp h ?_
        rw [ib_ke hk (by decide)]
        exact ((hS q hqn _).mp z).2
      exact rules (gn g) 0 τ (Nat.zero_add _) hk c1 (fun q' c h1 h2 h3 => c2 q' c h1 h2 (by omega)) (fun t ht => by rw [c2 q t hqn (by omega) (Or.inl (Nat.le_refl _))]; exact mv_bas (Or.inl (fun z => hno z.2))) c3
    · have hyes : bS B q 169 := by
        have := bI_n0.mp h
        rw [ib_ke hk (by decide)] at this
        exact (hS q hqn _).mpr ⟨by omega, this⟩
      rw [pk_mul, nI_add, nI_clamp (by omega), show q * 22 + 0 = 22 * q by omega]
      refine ⟨vp_in_nI (by omega) (by decide), rules (gn g) 0 _ (Nat.zero_add _) (ke_si hk (by decide)) (fun q' t h1 h2 => ?_) (fun q' c h1 h2 h3 => ?_) (fun t ht => ?_) (by rw [si_ne (by decide)]; exact c3)⟩
      · rw [si_nj (by omega)]; exact c1 q' t h1 h2
      · rw [si_nj (by omega)]; exact c2 q' c h1 h2 (by omega)
      · by_cases z : t = 0
        · subst z
          rw [Nat.add_zero, si_at]
          show nI 2000 = nI (bas B q 0)
          unfold bas
          rw [Bk_c0 hw hB, pd_t ⟨rfl, hyes⟩]
        · rw [si_nj (by omega), c2 q t hqn (by omega) (Or.inl (Nat.le_refl _))]
          exact mv_bas (Or.inl (fun y => z y.1))
/-- the reference's actions -/
def plM (g : Gm) (B : Bs) (μ : tp_S) : Prop := (∀ q t, q < bn B → t < 14 → μ.1 12 (14 * q + t) = nI (act g B q (gn g) t)) ∧ μ.1 0 19 = nI (CL g B)
theorem sp_findActions {g : Gm} {op : Bool} {ok ol : Nat} {os : Nat → Nat} {B : Bs} {μ : tp_S} (hw : gW g) (hB : Bk g B) (hR : maR g op ok ol os B μ) (hA : ∀ q i t, aM (bn B) μ q i t ↔ lA g B q i t) {K : tp_S → Prop} (k : ∀ ν, kf [12] [19] μ ν → plM g B ν → K ν) : tp_W shM m_Mo_findActions 0 [some (.ref 0), none, none, none, none, none, none] [] μ (tp_Qv K) := by
  have h100 := hB.n100
  have hn24 := hw.1
  have hb100 : ∀ q c t, bL B q c = some t → t < 100 := fun q c t h => by have := (hB.l q c t h).2.1; omega
  refine bk_Mo_findActions_0 ?_
  suffices h : ∀ (n q : Nat) (ν : tp_S), q + n = bn B → kf [12] [19] μ ν → (∀ q' t, q' < q → t < 14 → ν.1 12 (14 * q' + t) = nI (act g B q' (gn g) t)) → ν.1 0 19 = nI (sm (fun q => sm (fun t => sm (fun r => clh g B q t r) (gn g)) 14) q) → tp_W shM m_Mo_findActions 7 [some (.ref 0), some (.int (nI q)), none, none, none, none, none] [] ν (tp_Qv K) from h (bn B) 0 _ (Nat.zero_add _) (kf_s0 (kf_rf _ _ _) (by decide)) (fun q' t h => absurd h (Nat.not_lt_zero q')) si_at
  intro n
  induction n with
  | zero =>
    intro q ν hq hk c1 c3
    have eq : q = bn B := by omega
    subst eq
    have hRn := maR_kf hk (by decide) hR
    refine bk_Mo_findActions_7 _ ?_
    rw [hRn.2.2.1]
    exact ⟨fun _ => k ν hk ⟨c1, c3⟩, fun h => absurd (nI_le (by omega) (by omega)) h⟩
  | succ n ih =>
    intro q ν hq hk c1 c3
    have hqn : q < bn B := by omega
    have hRn := maR_kf hk (by decide) hR
    refine bk_Mo_findActions_7 _ ?_
    rw [hRn.2.2.1]
    refine ⟨fun h => absurd ((nI_leI (by omega) (by omega)).mp h) (by omega), fun _ => ?_⟩
    suffices h2 : ∀ (m t : Nat) (ν : tp_S), t + m = 14 → kf [12] [19] μ ν → (∀ q' t', (q' < q ∨ (q' = q ∧ t' < t)) → t' < 14 → ν.1 12 (14 * q' + t') = nI (act g B q' (gn g) t')) → ν.1 0 19 = nI (sm (fun q => sm (fun t => sm (fun r => clh g B q t r) (gn g)) 14) q + sm (fun t => sm (fun r => clh g B q t r) (gn g)) t) → tp_W shM m_Mo_findActions 17 [some (.ref 0), some (.int (nI q)), some (.int (nI t)), none, none, none, none] [] ν (tp_Qv K) from h2 14 0 ν rfl hk (fun q' t' h => c1 q' t' (h.elim id (fun z => absurd z.2 (Nat.not_lt_zero t')))) c3
    intro m
    induction m with
    | zero =>
      intro t ν ht hk c1 c3
      have et : t = 14 := by omega
      subst et
      refine bk_Mo_findActions_17 _ _ ⟨fun _ => ?_, fun h => absurd (nI_le (by omega) (by omega)) h⟩
      rw [nI_add]
      exact ih (q + 1) ν (by omega) hk (fun q' t' h1 h2 => c1 q' t' (by omega) h2) c3
    | succ m iht =>
      intro t ν ht hk c1 c3
      have hRn := maR_kf hk (by decide) hR
      -- the rules
      have rules : ∀ (l r : Nat) (ν : tp_S), r + l = gn g → kf [12] [19] μ ν → (∀ q' t', (q' < q ∨ (q' = q ∧ t' < t)) → t' < 14 → ν.1 12 (14 * q' + t') = nI (act g B q' (gn g) t')) → ν.1 0 19 = nI (sm (fun q => sm (fun t => sm (fun r => clh g B q t r) (gn g)) 14) q + sm (fun t => sm (fun r => clh g B q t r) (gn g)) t + sm (fun r => clh g B q t r) r) → tp_W shM m_Mo_findActions 82 [some (.ref 0), some (.int (nI q)), some (.int (nI t)), none, some (.int (nI (act g B q r t))), some (.int (nI r)), none] [] ν (tp_Qv K) := by
        intro l
        induction l with
        | zero =>
          intro r ν hr hk c1 c3
          have er : r = gn g := by omega
          subst er
          have hRn := maR_kf hk (by decide) hR
          refine bk_Mo_findActions_82 _ _ _ _ (sp_Mclosed hw hRn.1 ⟨fun _ => ?_, fun h => absurd (nI_le (by omega) (by omega)) h⟩)
          rw [pk_mul]
          simp only [nI_add]
          rw [nI_clamp (by omega)]
          refine ⟨vp_in_nI (by omega) (by decide), iht (t + 1) _ (by omega) (kf_si hk (by decide) (by decide)) (fun q' t' h1 h2 => ?_) (by rw [si_ne (by decide), c3, Nat.add_assoc]; rfl)⟩
          by_cases z : q' = q ∧ t' = t
          · rw [z.1, z.2, si_at]
          · rw [si_nj (by omega)]; exact c1 q' t' (by omega) h2
        | succ l ihr =>
          intro r ν hr hk c1 c3
          have hrn : r < gn g := by omega
          have hRn := maR_kf hk (by decide) hR
          have hl6 := (hw.2 r hrn).2.1
          have e3 : ν.1 3 r = nI (gl g r) := (hRn.1.2.2.1 r hrn).2.1
          have hal := act_lt hb100 (g := g) (q := q) (k := r) (t := t) (by omega)
          refine bk_Mo_findActions_82 _ _ _ _ (sp_Mclosed hw hRn.1 ⟨fun h => absurd ((nI_leI (by omega) (by omega)).mp h) (by omega), fun _ => ?_⟩)
          rw [nI_clamp (by omega), e3, pk_mul, pk_mul]
          simp only [nI_add]
          have e7 : ν.1 7 (200 * q + 8 * r + gl g r) = bI (pd (bS B q (7 * r + gl g r))) := by
            rw [Nat.add_assoc, hRn.2.2.2.1 q hqn _ (by omega), pd_i (mS_rp (by omega))]
          have e9 : bt (ν.1 9 (200 * q + 8 * r + gl g r)) t = true ↔ lA g B q (7 * r + gl g r) t := by
            rw [← hA q (7 * r + gl g r) t]
            unfold aM
            rw [hk.1 9 (by decide) (by decide), show 8 * ((7 * r + gl g r) / 7) + (7 * r + gl g r) % 7 = 8 * r + gl g r by omega, Nat.add_assoc]
            exact ⟨fun z => ⟨hqn, by omega, by omega, z⟩, fun z => z.2.2.2⟩
          rw [nI_clamp (by omega), e7, nI_z (by omega), b_test1 (by omega), e9, c3]
          have hv : vp_in (nI (200 * q + 8 * r + gl g r)) 20000 := vp_in_nI (by omega) (by decide)
          -- no such rule here
          have skip : ¬ cnd g B q t r → tp_W shM m_Mo_findActions 82 [some (.ref 0), some (.int (nI q)), some (.int (nI t)), none, some (.int (nI (act g B q r t))), some (.int (nI (r + 1))), none] [] ν (tp_Qv K) := by
            intro hno
            have ea : act g B q (r + 1) t = act g B q r t := nxt_n (Or.inl hno)
            rw [← ea]
            refine ihr (r + 1) ν (by omega) hk c1 ?_
            rw [c3]
            show _ = nI (_ + (sm (fun r => clh g B q t r) r + clh g B q t r))
            rw [show clh g B q t r = 0 from ch_n (Or.inl hno)]; rfl
          refine ⟨vp_in_nI (by omega) (by decide), hv, fun h => skip (fun z => bI_z0.mp h z.1), fun h => ⟨hv, fun hno => skip (fun z => hno z.2), fun hy => ⟨fun h0 => ⟨fun _ => ?_, fun z => absurd h0 z⟩, fun h0 => ⟨fun z => absurd z h0, fun _ => ?_⟩⟩⟩⟩
          · have hc : cnd g B q t r := ⟨bI_n0.mp h, hy⟩
            have ea : act g B q (r + 1) t = 3000 + r := nxt_y hc h0
            rw [← ea]
            refine ihr (r + 1) _ (by omega) (kf_s0 hk (by decide)) (fun q' t' h1 h2 => by rw [si_ne (by decide)]; exact c1 q' t' h1 h2) ?_
            rw [si_at]
            show _ = nI (_ + (sm (fun r => clh g B q t r) r + clh g B q t r))
            rw [show clh g B q t r = 0 from ch_n (Or.inr h0)]; rfl
          · have hc : cnd g B q t r := ⟨bI_n0.mp h, hy⟩
            have ea : act g B q (r + 1) t = act g B q r t := nxt_n (Or.inr h0)
            rw [← ea]
            refine ihr (r + 1) _ (by omega) (kf_s0 hk (by decide)) (fun q' t' h1 h2 => by rw [si_ne (by decide)]; exact c1 q' t' h1 h2) ?_
            rw [si_at]
            show _ = nI (_ + (sm (fun r => clh g B q t r) r + clh g B q t r))
            rw [show clh g B q t r = 1 from ch_y hc h0]
            simp only [nI_add]
            congr 1
      refine bk_Mo_findActions_17 _ _ ⟨fun h => absurd ((nI_leI (by omega) (by omega)).mp h) (by omega), fun _ => ?_⟩
      have e10 : ν.1 10 (28 * q + t) = lv (bL B q t) := by
        rw [hRn.2.2.2.2 q hqn t (by omega)]
        unfold ldv
        rw [if_pos (by omega)]
      rw [pk_mul, pk_mul]
      simp only [nI_add]
      rw [nI_clamp (by omega), e10, nI_z (by omega)]
      refine ⟨vp_in_nI (by omega) (by decide), ?_⟩
      have start : ∀ a, a = nI (bas B q t) → tp_W shM m_Mo_findActions 82 [some (.ref 0), some (.int (nI q)), some (.int (nI t)), none, some (.int a), some (.int (nI 0)), none] [] ν (tp_Qv K) := fun a ha => by
        rw [ha]
        exact rules (gn g) 0 ν (Nat.zero_add _) hk c1 c3
      cases e : bL B q t with
      | some s =>
        have hs := hb100 q t s e
        refine ⟨fun h => absurd h (nI_pos (by omega)), fun _ => start _ ?_⟩
        show nI 1000 + nI s = _
        rw [nI_add]
        unfold bas
        rw [e]
      | none =>
        refine ⟨fun _ => ⟨fun h => start _ ?_, fun h => ⟨vp_in_nI (by omega) (by decide), ?_⟩⟩, fun h => absurd m1_neg h⟩
        · unfold bas
          rw [e, pd_f (fun z => h z.1)]
        · subst h
          have e7 : ν.1 7 (200 * q + 192 + 1) = bI (pd (bS B q 169)) := by
            rw [show 200 * q + 192 + 1 = 200 * q + 193 by omega, hRn.2.2.2.1 q hqn 193 (by omega)]
            exact congrArg bI (pd_i (mS_rp (r := 24) (p := 1) (by omega)))
          rw [nI_clamp (by omega), e7]
          refine ⟨fun h => start _ ?_, fun h => start _ ?_⟩
          · unfold bas
            rw [e, pd_f (fun z => bI_z0.mp h z.2)]
          · unfold bas
            rw [e, pd_t ⟨rfl, bI_n0.mp h⟩]
