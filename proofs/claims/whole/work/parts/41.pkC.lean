/-! the class packs: numbers read -/
theorem sp_fillI21 {σ : tp_S} {K : tp_S → Prop} {x : Int32} (k : ∀ τ, ke [21] σ τ → (∀ j, j < 108 → τ.1 21 j = x) → K τ) : tp_W shC m_JA_fillI 0 [some (.ref 21), some (.int x), none, none] [] σ (tp_Qv K) := by
  refine bk_JA_fillI_21_0 _ ?_
  suffices h : ∀ (n i : Nat) (τ : tp_S), i + n = 108 → ke [21] σ τ → (∀ j, j < i → τ.1 21 j = x) → tp_W shC m_JA_fillI 5 [some (.ref 21), some (.int x), some (.int (nI i)), some (.int (nI 108))] [] τ (tp_Qv K) from h 108 0 σ rfl (ke_rf _ _) (fun j hj => absurd hj (Nat.not_lt_zero j))
  intro n
  induction n with
  | zero =>
    intro i τ hi hk hz
    refine bk_JA_fillI_21_5 _ _ _ ⟨fun _ => k τ hk (fun j hj => hz j (by omega)), fun h => absurd (nI_le (by omega) (by omega)) h⟩
  | succ n ih =>
    intro i τ hi hk hz
    refine bk_JA_fillI_21_5 _ _ _ ⟨fun h => absurd ((nI_leI (by omega) (by omega)).mp h) (by omega), fun _ => ⟨vp_in_nI (by omega) (by decide), ?_⟩⟩
    rw [nI_clamp (by omega), nI_add]
    refine ih (i + 1) _ (by omega) (ke_si hk (by decide)) (fun j hj => ?_)
    by_cases q : j = i
    · subst q; exact si_at
    · rw [si_nj q]; exact hz j (by omega)
theorem sp_fillI22 {σ : tp_S} {K : tp_S → Prop} {x : Int32} (k : ∀ τ, ke [22] σ τ → (∀ j, j < 2200 → τ.1 22 j = x) → K τ) : tp_W shC m_JA_fillI 0 [some (.ref 22), some (.int x), none, none] [] σ (tp_Qv K) := by
  refine bk_JA_fillI_22_0 _ ?_
  suffices h : ∀ (n i : Nat) (τ : tp_S), i + n = 2200 → ke [22] σ τ → (∀ j, j < i → τ.1 22 j = x) → tp_W shC m_JA_fillI 5 [some (.ref 22), some (.int x), some (.int (nI i)), some (.int (nI 2200))] [] τ (tp_Qv K) from h 2200 0 σ rfl (ke_rf _ _) (fun j hj => absurd hj (Nat.not_lt_zero j))
  intro n
  induction n with
  | zero =>
    intro i τ hi hk hz
    refine bk_JA_fillI_22_5 _ _ _ ⟨fun _ => k τ hk (fun j hj => hz j (by omega)), fun h => absurd (nI_le (by omega) (by omega)) h⟩
  | succ n ih =>
    intro i τ hi hk hz
    refine bk_JA_fillI_22_5 _ _ _ ⟨fun h => absurd ((nI_leI (by omega) (by omega)).mp h) (by omega), fun _ => ⟨vp_in_nI (by omega) (by decide), ?_⟩⟩
    rw [nI_clamp (by omega), nI_add]
    refine ih (i + 1) _ (by omega) (ke_si hk (by decide)) (fun j hj => ?_)
    by_cases q : j = i
    · subst q; exact si_at
    · rw [si_nj q]; exact hz j (by omega)
theorem sp_fillI23 {σ : tp_S} {K : tp_S → Prop} {x : Int32} (k : ∀ τ, ke [23] σ τ → (∀ j, j < 100 → τ.1 23 j = x) → K τ) : tp_W shC m_JA_fillI 0 [some (.ref 23), some (.int x), none, none] [] σ (tp_Qv K) := by
  refine bk_JA_fillI_23_0 _ ?_
  suffices h : ∀ (n i : Nat) (τ : tp_S), i + n = 100 → ke [23] σ τ → (∀ j, j < i → τ.1 23 j = x) → tp_W shC m_JA_fillI 5 [some (.ref 23), some (.int x), some (.int (nI i)), some (.int (nI 100))] [] τ (tp_Qv K) from h 100 0 σ rfl (ke_rf _ _) (fun j hj => absurd hj (Nat.not_lt_zero j))
  intro n
  induction n with
  | zero =>
    intro i τ hi hk hz
    refine bk_JA_fillI_23_5 _ _ _ ⟨fun _ => k τ hk (fun j hj => hz j (by omega)), fun h => absurd (nI_le (by omega) (by omega)) h⟩
  | succ n ih =>
    intro i τ hi hk hz
    refine bk_JA_fillI_23_5 _ _ _ ⟨fun h => absurd ((nI_leI (by omega) (by omega)).mp h) (by omega), fun _ => ⟨vp_in_nI (by omega) (by decide), ?_⟩⟩
    rw [nI_clamp (by omega), nI_add]
    refine ih (i + 1) _ (by omega) (ke_si hk (by decide)) (fun j hj => ?_)
    by_cases q : j = i
    · subst q; exact si_at
    · rw [si_nj q]; exact hz j (by omega)
def lo (x : Nat) : Int32 := if x = 0 then -1 else nI x
/-- a table's numbers are small -/
def vB (n : Nat) (V : Nat → Nat → Nat) : Prop := n ≤ 100 ∧ (∀ q t, q < 100 → V q t ≤ 3023) ∧ ∀ row k, 100 ≤ row → V row k < 100
/-- the class's plain table holds V -/
def vC (n : Nat) (V : Nat → Nat → Nat) (σ : tp_S) : Prop := σ.1 18 6 = nI n ∧ (∀ q t, q < n → t < 14 → σ.1 9 (22 * q + t) = nI (V q t)) ∧ ∀ q kd, q < n → kd < 8 → σ.1 9 (22 * q + (14 + kd)) = if V (100 + kd) q = 0 then nI 0 else nI (1000 + V (100 + kd) q)
theorem vB_V {n : Nat} {V : Nat → Nat → Nat} (h : vB n V) (row k : Nat) : V row k ≤ 3023 := by
  by_cases z : row < 100
  · exact h.2.1 row k z
  · have := h.2.2 row k (by omega)
    omega
theorem en_lt {n : Nat} {V : Nat → Nat → Nat} (h : vB n V) (row k : Nat) : en n V row k ≤ 3023 := by
  have := vB_V h row k
  unfold en
  split <;> omega
theorem sp_isStateRow {σ : tp_S} {row : Nat} (hr : row < 108) {K : Int32 → tp_S → Prop} (k1 : row < 100 → K (nI 1) σ) (k0 : 100 ≤ row → K (nI 0) σ) : tp_W shC m_Pk_isStateRow 0 [some (.int (nI row))] [] σ (tp_Qi K) :=
  bk_Pk_isStateRow_0 _ ⟨fun h => ⟨bo_0, k0 ((nI_leI (by decide) (by omega)).mp h)⟩, fun h => ⟨bo_1, k1 (by
    rcases Nat.lt_or_ge row 100 with z | z
    · exact z
    · exact absurd (nI_le z (by omega)) h)⟩⟩
theorem sp_widthOf {n : Nat} {V : Nat → Nat → Nat} {σ : tp_S} (hB : vB n V) (h : vC n V σ) {row : Nat} (hr : row < 108) {K : Int32 → tp_S → Prop} (k : K (nI (wd n row)) σ) : tp_W shC m_Pk_widthOf 0 [some (.ref 18), some (.int (nI row))] [] σ (tp_Qi K) := by
  have hn := hB.1
  refine bk_Pk_widthOf_0 _ (sp_isStateRow hr (fun z => ⟨fun h => absurd h n1_0, fun _ => ?_⟩) (fun z => ⟨fun _ => ?_, fun h => absurd rfl h⟩))
  · rw [h.1, nI_leI (by omega) (by omega)]
    unfold wd at k
    rw [if_pos z] at k
    refine ⟨fun y => ?_, fun y => ?_⟩
    · rw [if_neg (by omega)] at k; exact k
    · rw [if_pos (by omega)] at k; exact k
  · rw [h.1]
    unfold wd at k
    rw [if_neg (by omega)] at k
    exact k
theorem sp_leadV {n : Nat} {V : Nat → Nat → Nat} {σ : tp_S} (hB : vB n V) (h : vC n V σ) {q kd : Nat} (hq : q < n) (hk : kd < 8) {K : Int32 → tp_S → Prop} (k : K (lo (V (100 + kd) q)) σ) : tp_W shC m_Pl_leadAt 0 [some (.ref 8), some (.int (nI q)), some (.int (nI (14 + kd))), none] [] σ (tp_Qi K) := by
  have hn := hB.1
  have hv := hB.2.2 (100 + kd) q (by omega)
  refine bk_Pl_leadAt_0 _ _ ?_
  rw [pk_mul, nI_add, nI_clamp (by omega), show q * 22 + (14 + kd) = 22 * q + (14 + kd) by omega, h.2.2 q kd hq hk]
  refine ⟨vp_in_nI (by omega) (by decide), ?_⟩
  unfold lo at k
  by_cases z : V (100 + kd) q = 0
  · rw [if_pos z] at k ⊢
    exact ⟨fun _ => k, fun h => absurd (by decide) h⟩
  · rw [if_neg z] at k ⊢
    rw [pk_sub (by omega), show 1000 + V (100 + kd) q - 1000 = V (100 + kd) q by omega]
    exact ⟨fun y => absurd y (nI_nlt (by omega) (by omega)), fun _ => ⟨fun y => absurd y (nI_ge (by omega) (by omega)), fun _ => k⟩⟩
theorem sp_moveV {n : Nat} {V : Nat → Nat → Nat} {σ : tp_S} (hB : vB n V) (h : vC n V σ) {q t : Nat} (hq : q < n) (ht : t < 14) {K : Int32 → tp_S → Prop} (k : K (nI (V q t)) σ) : tp_W shC m_Pl_moveOn 0 [some (.ref 8), some (.int (nI q)), some (.int (nI t))] [] σ (tp_Qi K) := by
  have hn := hB.1
  refine bk_Pl_moveOn_0 _ _ ?_
  rw [pk_mul, nI_add, nI_clamp (by omega), show q * 22 + t = 22 * q + t by omega, h.2.1 q t hq ht]
  exact ⟨vp_in_nI (by omega) (by decide), k⟩
/-- a choice: a rule, or a state -/
theorem sp_choice {n : Nat} {V : Nat → Nat → Nat} {σ : tp_S} (hB : vB n V) (h : vC n V σ) {row k : Nat} (hr : row < 108) (hk : k < wd n row) {K : Int32 → tp_S → Prop} (k0 : (∀ v, v < 100 → ¬ hit V row v k) → K (-1) σ) (k1 : ∀ c, c < 100 → (∀ v, hit V row v k ↔ v = c) → K (nI c) σ) : tp_W shC m_Pk_choiceAt 0 [some (.ref 18), some (.int (nI row)), some (.int (nI k)), none] [] σ (tp_Qi K) := by
  have hn := hB.1
  unfold hit at k0 k1
  unfold wd at hk
  refine bk_Pk_choiceAt_0 _ _ (sp_isStateRow hr (fun z => ⟨fun _ => ?_, fun h => absurd h n1_0⟩) (fun z => ⟨fun h => absurd rfl h, fun _ => ?_⟩))
  · rw [if_pos z] at hk
    have hrn : row < n := by
      rcases Nat.lt_or_ge row n with y | y
      · exact y
      · rw [if_neg (by omega)] at hk; omega
    rw [if_pos hrn] at hk
    have hv := hB.2.1 row k z
    refine sp_moveV hB h hrn hk ⟨fun y => k0 (fun v _ => ?_), fun y => ?_⟩
    · rw [if_pos z]
      have := (nI_ltI (by omega) (by decide)).mp y
      omega
    · have hge : 3000 ≤ V row k := by
        rcases Nat.lt_or_ge (V row k) 3000 with w | w
        · exact absurd ((nI_ltI (by omega) (by decide)).mpr w) y
        · exact w
      rw [pk_sub (by omega)]
      refine k1 _ (by omega) (fun v => ?_)
      rw [if_pos z]; omega
  · rw [if_neg (by omega)] at hk
    have hv := hB.2.2 row k z
    rw [nI_add, pk_sub (by omega), show 14 + row - 100 = 14 + (row - 100) by omega]
    refine sp_leadV hB h hk (by omega) ?_
    rw [show 100 + (row - 100) = row by omega]
    unfold lo
    by_cases y : V row k = 0
    · rw [if_pos y]
      refine k0 (fun v _ => ?_)
      rw [if_neg (by omega)]
      omega
    · rw [if_neg y]
      refine k1 _ hv (fun v => ?_)
      rw [if_neg (by omega)]
      omega
theorem sm_bN (p : Nat → Prop) : ∀ k, sm (fun i => bN (p i)) k ≤ k
  | 0 => Nat.le_refl _
  | k + 1 => by
    have := sm_bN p k
    show sm (fun i => bN (p i)) k + bN (p k) ≤ k + 1
    have : bN (p k) ≤ 1 := by unfold bN; split <;> omega
    omega
theorem cn_le {n : Nat} (hn : n ≤ 100) {V : Nat → Nat → Nat} {row v : Nat} : cn n V row v ≤ 100 := Nat.le_trans (sm_bN _ _) (wd_le hn)
theorem vC_ke {n : Nat} {V : Nat → Nat → Nat} {σ τ : tp_S} {cs : List Nat} (hk : ke cs σ τ) (h9 : 9 ∉ cs) (h18 : 18 ∉ cs) (h : vC n V σ) : vC n V τ := by
  unfold vC at h ⊢
  rw [hk.1 9 h9, hk.1 18 h18]; exact h
theorem vC_eq {n : Nat} {V : Nat → Nat → Nat} {σ τ : tp_S} (h9 : τ.1 9 = σ.1 9) (h18 : τ.1 18 6 = σ.1 18 6) (h : vC n V σ) : vC n V τ := by
  unfold vC at h ⊢
  rw [h9, h18]; exact h
theorem sp_mostCommon {n : Nat} {V : Nat → Nat → Nat} {σ : tp_S} (hB : vB n V) (h : vC n V σ) {row : Nat} (hr : row < 108) {K : Int32 → tp_S → Prop} (k : ∀ τ, ke [23] σ τ → K (lv (dfl n V row)) τ) : tp_W shC m_Pk_mostCommon 0 [some (.ref 18), some (.int (nI row)), none, none, none] [] σ (tp_Qi K) := by
  have hn := hB.1
  have hwd := wd_le (row := row) hn
  -- the greatest is sought
  have ph2 : ∀ (m i : Nat) (τ : tp_S), i + m = 99 → ke [23] σ τ → (∀ v, v < 100 → τ.1 23 v = nI (cn n V row v)) → tp_W shC m_Pk_mostCommon 57 [some (.ref 18), none, none, some (.int (nI (am (cn n V row) i))), some (.int (nI (i + 1)))] [] τ (tp_Qi K) := by
    intro m
    induction m with
    | zero =>
      intro i τ hi hk hc
      have ei : i = 99 := by omega
      subst ei
      have ha := am_le (cn n V row) 99
      have hcn := cn_le (V := V) (row := row) (v := am (cn n V row) 99) hn
      have hd := k τ hk
      unfold dfl at hd
      refine bk_Pk_mostCommon_57 _ _ ⟨fun _ => ?_, fun h => absurd (nI_le (by omega) (by omega)) h⟩
      rw [nI_clamp (by omega), hc _ (by omega), show (0 : Int32) = nI 0 from rfl, nI_leI (by omega) (by decide)]
      refine ⟨vp_in_nI (by omega) (by decide), fun z => ?_, fun z => ?_⟩
      · rw [if_neg (by omega)] at hd; exact hd
      · rw [if_pos (by omega)] at hd; exact hd
    | succ m ih =>
      intro i τ hi hk hc
      have ha := am_le (cn n V row) i
      have c1 := cn_le (V := V) (row := row) (v := am (cn n V row) i) hn
      have c2 := cn_le (V := V) (row := row) (v := i + 1) hn
      refine bk_Pk_mostCommon_57 _ _ ⟨fun h => absurd ((nI_leI (by omega) (by omega)).mp h) (by omega), fun _ => ?_⟩
      rw [nI_clamp (by omega), nI_clamp (by omega), hc _ (by omega), hc _ (by omega), nI_leI (by omega) (by omega), nI_add]
      refine ⟨vp_in_nI (by omega) (by decide), vp_in_nI (by omega) (by decide), fun z => ?_, fun z => ?_⟩
      · have e : am (cn n V row) (i + 1) = am (cn n V row) i := if_neg (by omega)
        have := ih (i + 1) τ (by omega) hk hc
        rw [e] at this
        exact this
      · have e : am (cn n V row) (i + 1) = i + 1 := if_pos (by omega)
        have := ih (i + 1) τ (by omega) hk hc
        rw [e] at this
        exact this
  refine bk_Pk_mostCommon_0 _ (sp_fillI23 (fun τ1 hk1 hz1 => sp_widthOf hB (vC_ke hk1 (by decide) (by decide) h) hr ?_))
  suffices hh : ∀ (m i : Nat) (τ : tp_S), i + m = wd n row → ke [23] σ τ → (∀ v, v < 100 → τ.1 23 v = nI (sm (fun k => bN (hit V row v k)) i)) → tp_W shC m_Pk_mostCommon 16 [some (.ref 18), some (.int (nI row)), some (.int (nI (wd n row))), some (.int (nI i)), none] [] τ (tp_Qi K) from hh (wd n row) 0 τ1 (Nat.zero_add _) hk1 hz1
  intro m
  induction m with
  | zero =>
    intro i τ hi hk hc
    have ei : i = wd n row := by omega
    subst ei
    exact bk_Pk_mostCommon_16 _ _ _ ⟨fun _ => ph2 99 0 τ rfl hk hc, fun h => absurd (nI_le (by omega) (by omega)) h⟩
  | succ m ih =>
    intro i τ hi hk hc
    refine bk_Pk_mostCommon_16 _ _ _ ⟨fun h => absurd ((nI_leI (by omega) (by omega)).mp h) (by omega), fun _ => sp_choice hB (vC_ke hk (by decide) (by decide) h) hr (by omega) (fun hno => ⟨fun _ => ?_, fun h => absurd rfl h⟩) (fun c hc100 hyes => ⟨fun h => absurd h (nI_neg1 (by omega)), fun _ => ?_⟩)⟩
    · rw [nI_add]
      refine ih (i + 1) τ (by omega) hk (fun v hv => ?_)
      show _ = nI (sm (fun k => bN (hit V row v k)) i + bN (hit V row v i))
      rw [bN_f (hno v hv)]; exact hc v hv
    · rw [nI_clamp (by omega), hc c hc100, nI_add, nI_add]
      refine ⟨vp_in_nI (by omega) (by decide), vp_in_nI (by omega) (by decide), ih (i + 1) _ (by omega) (ke_si hk (by decide)) (fun v hv => ?_)⟩
      show _ = nI (sm (fun k => bN (hit V row v k)) i + bN (hit V row v i))
      by_cases z : v = c
      · subst z
        rw [si_at, bN_t ((hyes v).mpr rfl)]
      · rw [si_nj z, bN_f (fun y => z ((hyes v).mp y))]; exact hc v hv
theorem dfl_lt {n : Nat} {V : Nat → Nat → Nat} {row v : Nat} (h : dfl n V row = some v) : v < 100 := by
  unfold dfl at h
  split at h
  · cases h
    have := am_le (cn n V row) 99
    omega
  · cases h
theorem sp_entryOf {n : Nat} {V : Nat → Nat → Nat} {σ : tp_S} (hB : vB n V) (h : vC n V σ) {row k : Nat} (hr : row < 108) (hk : k < wd n row) (h19 : σ.1 19 row = lv (dfl n V row)) {K : Int32 → tp_S → Prop} (kk : K (lo (en n V row k)) σ) : tp_W shC m_Pk_entryOf 0 [some (.ref 18), some (.int (nI row)), some (.int (nI k)), none] [] σ (tp_Qi K) := by
  have hn := hB.1
  have hwk := hk
  unfold wd at hk
  unfold en dvl lo at kk
  refine bk_Pk_entryOf_0 _ _ (sp_isStateRow hr (fun z => ⟨fun _ => ?_, fun h => absurd h n1_0⟩) (fun z => ⟨fun h => absurd rfl h, fun _ => ?_⟩))
  · rw [if_pos z] at hk
    have hrn : row < n := by
      rcases Nat.lt_or_ge row n with y | y
      · exact y
      · rw [if_neg (by omega)] at hk; omega
    rw [if_pos hrn] at hk
    have hv := hB.2.1 row k z
    refine sp_moveV hB h hrn hk ?_
    rw [nI_z (by omega)]
    refine ⟨fun y => ?_, fun y => bk_Pk_moveByDefault_0 _ ?_⟩
    · rw [y] at kk
      simp only [ite_self, if_true] at kk
      exact kk
    · rw [nI_clamp (by omega), h19]
      cases e : dfl n V row with
      | none =>
        rw [e] at kk
        refine ⟨vp_in_nI (by omega) (by decide), fun w => absurd rfl w, fun _ => ⟨fun _ => ?_, fun w => ?_⟩⟩
        · have kk' : K (if (if V row k = 0 then 0 else V row k) = 0 then -1 else nI (if V row k = 0 then 0 else V row k)) σ := kk
          rw [if_neg y, if_neg y] at kk'
          exact kk'
        · exact absurd ((nI_z (by omega)).mp w) y
      | some v =>
        have hv100 := dfl_lt e
        rw [e] at kk
        have kk' : K (if (if V row k = (if row < 100 then 3000 + v else v) then 0 else V row k) = 0 then -1 else nI (if V row k = (if row < 100 then 3000 + v else v) then 0 else V row k)) σ := kk
        rw [if_pos z] at kk'
        refine ⟨vp_in_nI (by omega) (by decide), fun _ => ⟨vp_in_nI (by omega) (by decide), ?_⟩, fun w => absurd w (nI_neg1 (by omega))⟩
        show (¬ nI (V row k) = nI 3000 + nI v → _) ∧ (nI (V row k) = nI 3000 + nI v → _)
        rw [nI_add, nI_eq (by omega) (by omega)]
        refine ⟨fun w => ?_, fun w => ?_⟩
        · rw [if_neg w, if_neg y] at kk'; exact kk'
        · rw [if_pos w, if_pos rfl] at kk'; exact kk'
  · rw [if_neg (by omega)] at hk
    have hv := hB.2.2 row k z
    rw [nI_add, pk_sub (by omega), show 14 + row - 100 = 14 + (row - 100) by omega]
    refine sp_leadV hB h hk (by omega) ?_
    rw [show 100 + (row - 100) = row by omega, nI_clamp (by omega), h19]
    refine ⟨vp_in_nI (by omega) (by decide), ?_⟩
    unfold lo
    by_cases y : V row k = 0
    · rw [y] at kk
      simp only [ite_self, if_true] at kk
      rw [if_pos y]
      exact ⟨fun _ => kk, fun _ => kk⟩
    · rw [if_neg y]
      cases e : dfl n V row with
      | none =>
        rw [e] at kk
        have kk' : K (if (if V row k = 0 then 0 else V row k) = 0 then -1 else nI (if V row k = 0 then 0 else V row k)) σ := kk
        rw [if_neg y, if_neg y] at kk'
        exact ⟨fun _ => kk', fun w => absurd w (nI_neg1 (by omega))⟩
      | some v =>
        have hv100 := dfl_lt e
        rw [e] at kk
        have kk' : K (if (if V row k = (if row < 100 then 3000 + v else v) then 0 else V row k) = 0 then -1 else nI (if V row k = (if row < 100 then 3000 + v else v) then 0 else V row k)) σ := kk
        rw [if_neg (show ¬ row < 100 by omega)] at kk'
        show (¬ nI (V row k) = nI v → _) ∧ (nI (V row k) = nI v → _)
        rw [nI_eq (by omega) (by omega)]
        refine ⟨fun w => ?_, fun w => ?_⟩
        · rw [if_neg w, if_neg y] at kk'; exact kk'
        · rw [if_pos w, if_pos rfl] at kk'; exact kk'
def spt (n : Nat) (V : Nat → Nat → Nat) (row : Nat) (σ : tp_S) : Prop := ∀ k, k < wd n row → ¬ en n V row k = 0 → σ.1 23 (cz n V row k) = nI k
theorem sp_findSpots {n : Nat} {V : Nat → Nat → Nat} {σ : tp_S} (hB : vB n V) (h : vC n V σ) {row : Nat} (hr : row < 108) (h19 : σ.1 19 row = lv (dfl n V row)) {K : Int32 → tp_S → Prop} (k : ∀ τ, ke [23] σ τ → spt n V row τ → K (nI (ct n V row)) τ) : tp_W shC m_Pk_findSpots 0 [some (.ref 18), some (.int (nI row)), none, none, none] [] σ (tp_Qi K) := by
  have hn := hB.1
  have hwd := wd_le (row := row) hn
  refine bk_Pk_findSpots_0 _ (sp_widthOf hB h hr ?_)
  suffices hh : ∀ (m i : Nat) (τ : tp_S), i + m = wd n row → ke [23] σ τ → (∀ k, k < i → ¬ en n V row k = 0 → τ.1 23 (cz n V row k) = nI k) → tp_W shC m_Pk_findSpots 11 [some (.ref 18), some (.int (nI row)), some (.int (nI (cz n V row i))), some (.int (nI (wd n row))), some (.int (nI i))] [] τ (tp_Qi K) from hh (wd n row) 0 σ (Nat.zero_add _) (ke_rf _ _) (fun k hk => absurd hk (Nat.not_lt_zero k))
  intro m
  induction m with
  | zero =>
    intro i τ hi hk hs
    have ei : i = wd n row := by omega
    subst ei
    exact bk_Pk_findSpots_11 _ _ _ _ ⟨fun _ => k τ hk hs, fun h => absurd (nI_le (by omega) (by omega)) h⟩
  | succ m ih =>
    intro i τ hi hk hs
    have hcz := cz_le (n := n) (V := V) (row := row) i
    have hel := en_lt hB row i
    refine bk_Pk_findSpots_11 _ _ _ _ ⟨fun h => absurd ((nI_leI (by omega) (by omega)).mp h) (by omega), fun _ => sp_entryOf hB (vC_ke hk (by decide) (by decide) h) hr (by omega) (by rw [hk.1 19 (by decide)]; exact h19) ?_⟩
    unfold lo
    by_cases z : en n V row i = 0
    · rw [if_pos z, nI_add]
      have := ih (i + 1) τ (by omega) hk (fun k hk' he => by
        by_cases y : k = i
        · subst y; exact absurd z he
        · exact hs k (by omega) he)
      rw [cz_z z] at this
      exact ⟨fun _ => this, fun h => absurd rfl h⟩
    · rw [if_neg z]
      refine ⟨fun h => absurd h (nI_neg1 (by omega)), fun _ => ⟨vp_in_nI (by omega) (by decide), ?_⟩⟩
      rw [nI_clamp (by omega), nI_add, nI_add, ← cz_s z]
      refine ih (i + 1) _ (by omega) (ke_si hk (by decide)) (fun k hk' he => ?_)
      by_cases y : k = i
      · subst y; exact si_at
      · have h1 : cz n V row (k + 1) ≤ cz n V row i := cz_mono (by omega)
        rw [cz_s he] at h1
        rw [si_nj (by omega)]
        exact hs k (by omega) he
