/-! the reference packs -/
def rOk (n row : Nat) : Prop := row < n ∨ (100 ≤ row ∧ row < 108)
theorem rOk_lt {n row : Nat} (hn : n ≤ 100) (h : rOk n row) : row < 108 := by unfold rOk at h; omega
theorem wd_ok {n row : Nat} (hn : n ≤ 100) (h : rOk n row) : wd n row = if row < 100 then 14 else n := by
  unfold wd
  by_cases z : row < 100
  · rw [if_pos z, if_pos z, if_pos (by unfold rOk at h; omega)]
  · rw [if_neg z, if_neg z]
theorem wd_no {n row : Nat} (hr : row < 108) (h : ¬ rOk n row) : wd n row = 0 := by
  unfold wd
  unfold rOk at h
  rw [if_pos (by omega), if_neg (by omega)]
/-- the reference's tables hold V -/
def vM (n : Nat) (V : Nat → Nat → Nat) (μ : tp_S) : Prop := μ.1 0 16 = nI n ∧ (∀ q t, q < n → t < 14 → μ.1 12 (14 * q + t) = nI (V q t)) ∧ ∀ q kd, q < n → kd < 8 → μ.1 10 (28 * q + (20 + kd)) = lo (V (100 + kd) q)
theorem vM_kf {n : Nat} {V : Nat → Nat → Nat} {μ ν : tp_S} {cs js : List Nat} (hk : kf cs js μ ν) (ho : 10 ∉ cs ∧ 12 ∉ cs ∧ 16 ∉ js) (h : vM n V μ) : vM n V ν := by
  unfold vM at h ⊢
  rw [hk.1 10 ho.1 (by decide), hk.1 12 ho.2.1 (by decide), hk.2 16 ho.2.2]; exact h
theorem sp_Mwidth {n : Nat} {V : Nat → Nat → Nat} {μ : tp_S} (hB : vB n V) (h : vM n V μ) {row : Nat} (hr : rOk n row) {K : Int32 → tp_S → Prop} (k : K (nI (wd n row)) μ) : tp_W shM m_Mo_widthOf 0 [some (.ref 0), some (.int (nI row))] [] μ (tp_Qi K) := by
  have hn := hB.1
  have hlt := rOk_lt hn hr
  rw [wd_ok hn hr] at k
  refine bk_Mo_widthOf_0 _ ⟨fun z => ?_, fun z => ?_⟩
  · have := (nI_leI (by decide) (by omega)).mp z
    rw [if_neg (by omega)] at k
    rw [h.1]; exact k
  · have : row < 100 := by
      rcases Nat.lt_or_ge row 100 with y | y
      · exact y
      · exact absurd (nI_le y (by omega)) z
    rw [if_pos this] at k; exact k
theorem sp_Mwhole {n : Nat} {V : Nat → Nat → Nat} {μ : tp_S} (hB : vB n V) (h : vM n V μ) {row k : Nat} (hr : rOk n row) (hk : k < wd n row) {K : Int32 → tp_S → Prop} (kk : K (nI (V row k)) μ) : tp_W shM m_Mo_whole 0 [some (.ref 0), some (.int (nI row)), some (.int (nI k)), none] [] μ (tp_Qi K) := by
  have hn := hB.1
  have hlt := rOk_lt hn hr
  rw [wd_ok hn hr] at hk
  refine bk_Mo_whole_0 _ _ ?_
  rw [pk_mul, pk_mul]
  simp only [nI_add]
  refine ⟨fun z => ?_, fun z => ?_⟩
  · have z' := (nI_leI (by decide) (by omega)).mp z
    rw [if_neg (by omega)] at hk
    have hv := hB.2.2 row k z'
    rw [pk_sub (by omega), show 28 * k + 20 + row - 100 = 28 * k + (20 + (row - 100)) by omega, nI_clamp (by omega), h.2.2 k (row - 100) hk (by omega), show 100 + (row - 100) = row by omega]
    refine ⟨vp_in_nI (by omega) (by decide), ?_⟩
    unfold lo
    by_cases y : V row k = 0
    · rw [if_pos y]
      rw [y] at kk
      exact ⟨fun w => absurd w (by decide), fun _ => kk⟩
    · rw [if_neg y]
      exact ⟨fun _ => kk, fun w => absurd (nI_le (a := 0) (b := V row k) (by omega) (by omega)) w⟩
  · have z' : row < 100 := by
      rcases Nat.lt_or_ge row 100 with y | y
      · exact y
      · exact absurd (nI_le y (by omega)) z
    rw [if_pos z'] at hk
    have hrn : row < n := by unfold rOk at hr; omega
    rw [nI_clamp (by omega), h.2.1 row k hrn hk]
    exact ⟨vp_in_nI (by omega) (by decide), kk⟩
theorem sp_Mdval {n : Nat} {V : Nat → Nat → Nat} {μ : tp_S} {row : Nat} (hr : row < 108) (h13 : μ.1 13 row = lv (dfl n V row)) {K : Int32 → tp_S → Prop} (kk : K (nI (dvl n V row)) μ) : tp_W shM m_Mo_defaultValue 0 [some (.ref 0), some (.int (nI row))] [] μ (tp_Qi K) := by
  refine bk_Mo_defaultValue_0 _ ?_
  rw [nI_clamp (by omega), h13]
  have hv : vp_in (nI row) 108 := vp_in_nI (by omega) (by decide)
  unfold dvl at kk
  cases e : dfl n V row with
  | none =>
    rw [e] at kk
    exact ⟨hv, fun w => absurd w (by decide), fun _ => kk⟩
  | some v =>
    have hv100 := dfl_lt e
    rw [e] at kk
    have kk' : K (nI (if row < 100 then 3000 + v else v)) μ := kk
    refine ⟨hv, fun _ => ⟨fun z => ⟨hv, ?_⟩, fun z => ⟨hv, ?_⟩⟩, fun w => absurd (nI_le (a := 0) (b := v) (by omega) (by omega)) w⟩
    · have := (nI_leI (by decide) (by omega)).mp z
      rw [if_neg (by omega)] at kk'; exact kk'
    · have : row < 100 := by
        rcases Nat.lt_or_ge row 100 with y | y
        · exact y
        · exact absurd (nI_le y (by omega)) z
      rw [if_pos this] at kk'
      show K (nI 3000 + nI v) μ
      rw [nI_add]; exact kk'
theorem dvl_lt {n : Nat} {V : Nat → Nat → Nat} {row : Nat} : dvl n V row < 4000 := by
  unfold dvl
  cases e : dfl n V row with
  | none => exact (by decide : 0 < 4000)
  | some v =>
    have := dfl_lt e
    show (if row < 100 then 3000 + v else v) < 4000
    split <;> omega
theorem sp_Mentry {n : Nat} {V : Nat → Nat → Nat} {μ : tp_S} (hB : vB n V) (h : vM n V μ) {row k : Nat} (hr : rOk n row) (hk : k < wd n row) (h13 : μ.1 13 row = lv (dfl n V row)) {K : Int32 → tp_S → Prop} (kk : K (nI (en n V row k)) μ) : tp_W shM m_Mo_entry 0 [some (.ref 0), some (.int (nI row)), some (.int (nI k)), none] [] μ (tp_Qi K) := by
  have hn := hB.1
  have hv := vB_V hB row k
  have hd := dvl_lt (n := n) (V := V) (row := row)
  unfold en at kk
  refine bk_Mo_entry_0 _ _ (sp_Mwhole hB h hr hk (sp_Mdval (rOk_lt hn hr) h13 ?_))
  rw [nI_eq (by omega) (by omega)]
  refine ⟨fun z => ?_, fun z => ?_⟩
  · rw [if_neg z] at kk; exact kk
  · rw [if_pos z] at kk; exact kk
/-- most and default after so many values -/
def mst (f : Nat → Nat) : Nat → Nat × Option Nat
  | 0 => (0, none)
  | v + 1 => (f (am f v), if 0 < f (am f v) then some (am f v) else none)
theorem mst_s (f : Nat → Nat) : ∀ v, mst f (v + 1) = if f v ≤ (mst f v).1 then mst f v else (f v, some v)
  | 0 => by
    show (f 0, if 0 < f 0 then some 0 else none) = if f 0 ≤ 0 then (0, none) else (f 0, some 0)
    by_cases h : f 0 ≤ 0
    · rw [if_pos h, if_neg (by omega), show f 0 = 0 by omega]
    · rw [if_neg h, if_pos (by omega)]
  | v + 1 => by
    show (f (am f (v + 1)), if 0 < f (am f (v + 1)) then some (am f (v + 1)) else none) = if f (v + 1) ≤ f (am f v) then (f (am f v), if 0 < f (am f v) then some (am f v) else none) else (f (v + 1), some (v + 1))
    by_cases h : f (v + 1) ≤ f (am f v)
    · have e : am f (v + 1) = am f v := if_neg (by omega)
      rw [if_pos h, e]
    · have e : am f (v + 1) = v + 1 := if_pos (by omega)
      rw [if_neg h, e, if_pos (by omega)]
theorem mst_le {n : Nat} (hn : n ≤ 100) {V : Nat → Nat → Nat} {row : Nat} : ∀ v, (mst (cn n V row) v).1 ≤ 100
  | 0 => Nat.zero_le _
  | v + 1 => cn_le hn
/-- frame of a row's default -/
def dF (row : Nat) (μ ν : tp_S) : Prop := kf [13, 14, 15] [] μ ν ∧ ∀ row', row' ≠ row → ν.1 13 row' = μ.1 13 row' ∧ ν.1 14 row' = μ.1 14 row' ∧ ν.1 15 row' = μ.1 15 row'
theorem dF_rf (row : Nat) (μ : tp_S) : dF row μ μ := ⟨kf_rf _ _ _, fun _ _ => ⟨rfl, rfl, rfl⟩⟩
theorem dF_13 {row : Nat} {μ ν : tp_S} {x : Int32} (h : dF row μ ν) : dF row μ (tp_si ν 13 row x) := ⟨kf_si h.1 (by decide) (by decide), fun r hr => by rw [si_nj hr, si_ne (by decide), si_ne (by decide)]; exact h.2 r hr⟩
theorem dF_14 {row : Nat} {μ ν : tp_S} {x : Int32} (h : dF row μ ν) : dF row μ (tp_si ν 14 row x) := ⟨kf_si h.1 (by decide) (by decide), fun r hr => by rw [si_nj hr, si_ne (by decide), si_ne (by decide)]; exact h.2 r hr⟩
theorem dF_15 {row : Nat} {μ ν : tp_S} {x : Int32} (h : dF row μ ν) : dF row μ (tp_si ν 15 row x) := ⟨kf_si h.1 (by decide) (by decide), fun r hr => by rw [si_nj hr, si_ne (by decide), si_ne (by decide)]; exact h.2 r hr⟩
theorem sp_findDefault {n : Nat} {V : Nat → Nat → Nat} {μ : tp_S} (hB : vB n V) (h : vM n V μ) {row : Nat} (hr : rOk n row) {K : tp_S → Prop} (k : ∀ ν, dF row μ ν → ν.1 13 row = lv (dfl n V row) → ν.1 14 row = nI (ct n V row) → ν.1 15 row = -1 → K ν) : tp_W shM m_Mo_findDefault 0 [some (.ref 0), some (.int (nI row)), none, none, none, none, none] [] μ (tp_Qv K) := by
  have hn := hB.1
  have hlt := rOk_lt hn hr
  have hwd := wd_le (row := row) hn
  have hv108 : vp_in (nI row) 108 := vp_in_nI (by omega) (by decide)
  -- entries are counted
  have ph3 : ∀ (m i : Nat) (ν : tp_S), i + m = wd n row → dF row μ ν → ν.1 13 row = lv (dfl n V row) → ν.1 14 row = nI (cz n V row i) → tp_W shM m_Mo_findDefault 115 [some (.ref 0), some (.int (nI row)), none, some (.int (nI i)), none, none, none] [] ν (tp_Qv K) := by
    intro m
    induction m with
    | zero =>
      intro i ν hi hF h13 h14
      have ei : i = wd n row := by omega
      subst ei
      have hVn := vM_kf hF.1 (by decide) h
      refine bk_Mo_findDefault_115 _ _ (sp_Mwidth hB hVn hr ⟨fun _ => ⟨hv108, ?_⟩, fun h => absurd (nI_le (by omega) (by omega)) h⟩)
      rw [nI_clamp (by omega)]
      exact k _ (dF_15 hF) (by rw [si_ne (by decide)]; exact h13) (by rw [si_ne (by decide)]; exact h14) si_at
    | succ m ih =>
      intro i ν hi hF h13 h14
      have hVn := vM_kf hF.1 (by decide) h
      have hel := en_lt hB row i
      refine bk_Mo_findDefault_115 _ _ (sp_Mwidth hB hVn hr ⟨fun h => absurd ((nI_leI (by omega) (by omega)).mp h) (by omega), fun _ => sp_Mentry hB hVn hr (by omega) h13 ?_⟩)
      rw [nI_z (by omega), nI_clamp (by omega), h14, nI_add, nI_add]
      refine ⟨fun z => ⟨hv108, hv108, ih (i + 1) _ (by omega) (dF_14 hF) (by rw [si_ne (by decide)]; exact h13) (by rw [si_at, cz_z z])⟩, fun z => ⟨hv108, hv108, ih (i + 1) _ (by omega) (dF_14 hF) (by rw [si_ne (by decide)]; exact h13) (by rw [si_at, cz_s z])⟩⟩
  refine bk_Mo_findDefault_0 _ ⟨hv108, ?_⟩
  rw [nI_clamp (by omega)]
  suffices hh : ∀ (m v : Nat) (ν : tp_S), v + m = 100 → dF row μ ν → ν.1 13 row = lv (mst (cn n V row) v).2 → tp_W shM m_Mo_findDefault 11 [some (.ref 0), some (.int (nI row)), some (.int (nI (mst (cn n V row) v).1)), some (.int (nI v)), none, none, none] [] ν (tp_Qv K) from hh 100 0 _ rfl (dF_13 (dF_rf _ _)) si_at
  intro m
  induction m with
  | zero =>
    intro v ν hv hF h13
    have ev : v = 100 := by omega
    subst ev
    refine bk_Mo_findDefault_11 _ _ _ ⟨fun _ => ⟨hv108, ?_⟩, fun h => absurd (nI_le (by omega) (by omega)) h⟩
    rw [nI_clamp (by omega)]
    exact ph3 (wd n row) 0 _ (Nat.zero_add _) (dF_14 hF) (by rw [si_ne (by decide)]; exact h13) si_at
  | succ m ih =>
    intro v ν hv hF h13
    refine bk_Mo_findDefault_11 _ _ _ ⟨fun h => absurd ((nI_leI (by omega) (by omega)).mp h) (by omega), fun _ => ?_⟩
    have hVn := vM_kf hF.1 (by decide) h
    have hml := mst_le (V := V) (row := row) hn v
    have hcl := cn_le (V := V) (row := row) (v := v) hn
    suffices h2 : ∀ (l i : Nat), i + l = wd n row → tp_W shM m_Mo_findDefault 23 [some (.ref 0), some (.int (nI row)), some (.int (nI (mst (cn n V row) v).1)), some (.int (nI v)), some (.int (nI (sm (fun k => bN (hit V row v k)) i))), some (.int (nI i)), none] [] ν (tp_Qv K) from h2 (wd n row) 0 (Nat.zero_add _)
    intro l
    induction l with
    | zero =>
      intro i hi
      have ei : i = wd n row := by omega
      subst ei
      refine bk_Mo_findDefault_23 _ _ _ _ _ (sp_Mwidth hB hVn hr ⟨fun _ => ?_, fun h => absurd (nI_le (by omega) (by omega)) h⟩)
      show (nI (cn n V row v) ≤ _ → _) ∧ (¬ nI (cn n V row v) ≤ _ → _ ∧ tp_W shM m_Mo_findDefault 11 [some (.ref 0), some (.int (nI row)), some (.int (nI (cn n V row v))), _, none, none, none] [] _ _)
      rw [nI_leI (by omega) (by omega), nI_add, nI_clamp (by omega)]
      have hs := mst_s (cn n V row) v
      refine ⟨fun z => ?_, fun z => ⟨hv108, ?_⟩⟩
      · rw [if_pos z] at hs
        have := ih (v + 1) ν (by omega) hF (by rw [hs]; exact h13)
        rw [hs] at this
        exact this
      · rw [if_neg z] at hs
        have := ih (v + 1) (tp_si ν 13 row (nI v)) (by omega) (dF_13 hF) (by rw [hs, si_at]; rfl)
        rw [hs] at this
        exact this
    | succ l ihl =>
      intro i hi
      have hvv := vB_V hB row i
      have go0 : ¬ hit V row v i → tp_W shM m_Mo_findDefault 23 [some (.ref 0), some (.int (nI row)), some (.int (nI (mst (cn n V row) v).1)), some (.int (nI v)), some (.int (nI (sm (fun k => bN (hit V row v k)) i))), some (.int (nI (i + 1))), none] [] ν (tp_Qv K) := by
        intro hno
        have := ihl (i + 1) (by omega)
        have e : sm (fun k => bN (hit V row v k)) (i + 1) = sm (fun k => bN (hit V row v k)) i := by
          show sm (fun k => bN (hit V row v k)) i + bN (hit V row v i) = _
          rw [bN_f hno]; rfl
        rw [e] at this
        exact this
      have go1 : hit V row v i → tp_W shM m_Mo_findDefault 23 [some (.ref 0), some (.int (nI row)), some (.int (nI (mst (cn n V row) v).1)), some (.int (nI v)), some (.int (nI (sm (fun k => bN (hit V row v k)) i + 1))), some (.int (nI (i + 1))), none] [] ν (tp_Qv K) := by
        intro hy
        have := ihl (i + 1) (by omega)
        have e : sm (fun k => bN (hit V row v k)) (i + 1) = sm (fun k => bN (hit V row v k)) i + 1 := by
          show sm (fun k => bN (hit V row v k)) i + bN (hit V row v i) = _
          rw [bN_t hy]
        rw [e] at this
        exact this
      unfold hit at go0 go1
      refine bk_Mo_findDefault_23 _ _ _ _ _ (sp_Mwidth hB hVn hr ⟨fun h => absurd ((nI_leI (by omega) (by omega)).mp h) (by omega), fun _ => ⟨fun z => ?_, fun z => ?_⟩⟩)
      · have z' := (nI_leI (by decide) (by omega)).mp z
        refine sp_Mwhole hB hVn hr (by omega) ?_
        rw [nI_eq (by omega) (by omega)]
        simp only [nI_add]
        rw [if_neg (by omega)] at go0 go1
        refine ⟨fun hne => go0 (fun y => hne y.1), fun he => ⟨fun h0 => go0 (fun y => ?_), fun h0 => go1 ⟨he, ?_⟩⟩⟩
        · have := (nI_leI (a := v) (b := 0) (by omega) (by decide)).mp h0
          omega
        · rcases Nat.eq_zero_or_pos v with y | y
          · exact absurd (by rw [y]; decide) h0
          · exact y
      · have z' : row < 100 := by
          rcases Nat.lt_or_ge row 100 with y | y
          · exact y
          · exact absurd (nI_le y (by omega)) z
        refine sp_Mwhole hB hVn hr (by omega) ?_
        simp only [nI_add]
        rw [nI_eq (by omega) (by omega)]
        rw [if_pos z'] at go0 go1
        refine ⟨fun hne => go0 hne, fun he => ⟨fun h0 => ?_, fun h0 => go1 he⟩⟩
        have := (nI_leI (a := 3000 + v) (b := 0) (by omega) (by decide)).mp h0
        omega
/-- places of the reference -/
def ow (o : Option (Nat × Nat)) : Int32 := match o with
  | none => -1
  | some (row, _) => nI row
def pkM (n : Nat) (P : Pt) (μ : tp_S) : Prop := (∀ x, x < 6000 → μ.1 16 x = ow (po P x)) ∧ (∀ x row v, x < 6000 → po P x = some (row, v) → μ.1 17 x = nI v) ∧ (∀ row, rOk n row → μ.1 15 row = lv (pb P row)) ∧ μ.1 0 25 = nI (pl P)
/-- defaults and counts of the reference -/
def rwM' (n : Nat) (V : Nat → Nat → Nat) (μ : tp_S) : Prop := ∀ row, rOk n row → μ.1 13 row = lv (dfl n V row) ∧ μ.1 14 row = nI (ct n V row)
theorem ow_neg {n : Nat} {V : Nat → Nat → Nat} {P : Pt} (hI : pI n V P) {x : Nat} : ¬ 0 ≤ ow (po P x) ↔ po P x = none := by
  cases e : po P x with
  | none => exact ⟨fun _ => rfl, fun _ => by decide⟩
  | some p =>
    obtain ⟨row, v⟩ := p
    have := (hI.2.2.2.1 x row v e).1
    exact ⟨fun h => absurd (nI_le (a := 0) (b := row) (by omega) (by omega)) h, fun h => by cases h⟩
theorem rwM_kf {n : Nat} {V : Nat → Nat → Nat} {μ ν : tp_S} {cs js : List Nat} (hk : kf cs js μ ν) (ho : 13 ∉ cs ∧ 14 ∉ cs) (h : rwM' n V μ) : rwM' n V ν := by
  unfold rwM' at h ⊢
  rw [hk.1 13 ho.1 (by decide), hk.1 14 ho.2 (by decide)]; exact h
abbrev csL : List Nat := [15, 16, 17]
theorem sp_lay {n : Nat} {V : Nat → Nat → Nat} {μ : tp_S} (hB : vB n V) (hV : vM n V μ) (hW : rwM' n V μ) {P : Pt} (hI : pI n V P) (hP : pkM n P μ) {row : Nat} (hr : rOk n row) (hbn : pb P row = none) {K : tp_S → Prop} (k : ∀ ν, kf csL [25] μ ν → pkM n (lay n V row P) ν → K ν) : tp_W shM m_Mo_lay 0 [some (.ref 0), some (.int (nI row)), none, none, none] [] μ (tp_Qv K) := by
  have hn := hB.1
  have hlt := rOk_lt hn hr
  have hwd := wd_le (row := row) hn
  have hroom := wl_room hn hlt hbn
  have hlen := hI.1
  have hble : bse n V row (po P) (pl P) ≤ pl P := bse_le
  have hbf : fit n V row (po P) (bse n V row (po P) (pl P)) := bse_fit hI.2.1
  have hbm : ∀ b, b < bse n V row (po P) (pl P) → ¬ fit n V row (po P) b := fun b h => bse_min h
  unfold lay at k
  generalize bse n V row (po P) (pl P) = bs at hble hbf hbm k ⊢
  have hv108 : vp_in (nI row) 108 := vp_in_nI (by omega) (by decide)
  have h13 := (hW row hr).1
  -- the entries are laid
  have ph2 : ∀ (m kk : Nat) (ν : tp_S), kk + m = wd n row → kf csL [25] μ ν → pkM n ((pf n V row bs (po P) (pl P) kk).1, va_up (pb P) row (some bs), (pf n V row bs (po P) (pl P) kk).2) ν → tp_W shM m_Mo_lay 86 [some (.ref 0), some (.int (nI row)), some (.int (nI bs)), none, some (.int (nI kk))] [] ν (tp_Qv K) := by
    intro m
    induction m with
    | zero =>
      intro kk ν hk hf hp
      have ek : kk = wd n row := by omega
      subst ek
      exact bk_Mo_lay_86 _ _ _ (sp_Mwidth hB (vM_kf hf (by decide) hV) hr ⟨fun _ => k ν hf hp, fun h => absurd (nI_le (by omega) (by omega)) h⟩)
    | succ m ih =>
      intro kk ν hk hf hp
      have hVn := vM_kf hf (by decide) hV
      have h13n : ν.1 13 row = lv (dfl n V row) := by rw [hf.1 13 (by decide) (by decide)]; exact h13
      have hel := en_lt hB row kk
      have hpl := (pf_len (n := n) (V := V) (row := row) (b := bs) (own := po P) (len := pl P) kk).2.1
      refine bk_Mo_lay_86 _ _ _ (sp_Mwidth hB hVn hr ⟨fun h => absurd ((nI_leI (by omega) (by omega)).mp h) (by omega), fun _ => sp_Mentry hB hVn hr (by omega) h13n ?_⟩)
      rw [nI_z (by omega)]
      simp only [nI_add]
      rw [nI_clamp (by omega)]
      refine ⟨fun z => ?_, fun z => ⟨vp_in_nI (by omega) (by decide), ?_⟩⟩
      · have e : pf n V row bs (po P) (pl P) (kk + 1) = pf n V row bs (po P) (pl P) kk := if_pos z
        exact ih (kk + 1) ν (by omega) hf (by rw [e]; exact hp)
      · have e : pf n V row bs (po P) (pl P) (kk + 1) = (va_up (pf n V row bs (po P) (pl P) kk).1 (bs + kk) (some (row, en n V row kk)), max (pf n V row bs (po P) (pl P) kk).2 (bs + kk + 1)) := if_neg z
        have hf1 : kf csL [25] μ (tp_si ν 16 (bs + kk) (nI row)) := kf_si hf (by decide) (by decide)
        refine sp_Mentry hB (vM_kf hf1 (by decide) hV) hr (by omega) (by rw [si_ne (by decide)]; exact h13n) ?_
        rw [si_ne (by decide), hp.2.2.2]
        -- the place is written
        have fin : ∀ x : Int32, x = nI (max (pf n V row bs (po P) (pl P) kk).2 (bs + kk + 1)) → tp_W shM m_Mo_lay 86 [some (.ref 0), some (.int (nI row)), some (.int (nI bs)), none, some (.int (nI (kk + 1)))] [] (tp_si (tp_si (tp_si ν 16 (bs + kk) (nI row)) 17 (bs + kk) (nI (en n V row kk))) 0 25 x) (tp_Qv K) := by
          intro x hx
          refine ih (kk + 1) _ (by omega) (kf_s0 (kf_si hf1 (by decide) (by decide)) (by decide)) ?_
          rw [e]
          refine ⟨fun y hy => ?_, fun y row' v hy hpo => ?_, fun row' hr' => ?_, by rw [si_at, hx]⟩
          · rw [si_ne (by decide), si_ne (by decide)]
            show _ = ow (va_up (pf n V row bs (po P) (pl P) kk).1 (bs + kk) (some (row, en n V row kk)) y)
            by_cases w : y = bs + kk
            · subst w; rw [si_at, va_up_self]; rfl
            · rw [si_nj w, va_up_ne _ _ w]; exact hp.1 y hy
          · have hpo' : va_up (pf n V row bs (po P) (pl P) kk).1 (bs + kk) (some (row, en n V row kk)) y = some (row', v) := hpo
            rw [si_ne (by decide)]
            by_cases w : y = bs + kk
            · subst w
              rw [va_up_self] at hpo'
              cases hpo'
              exact si_at
            · rw [va_up_ne _ _ w] at hpo'
              rw [si_nj w, si_ne (by decide)]
              exact hp.2.1 y row' v hy hpo'
          · rw [si_ne (by decide), si_ne (by decide), si_ne (by decide)]
            exact hp.2.2.1 row' hr'
        show _ ∧ (nI (bs + kk + 1) ≤ nI (pf n V row bs (po P) (pl P) kk).2 → _) ∧ (¬ nI (bs + kk + 1) ≤ nI (pf n V row bs (po P) (pl P) kk).2 → _)
        rw [nI_leI (by omega) (by omega)]
        exact ⟨vp_in_nI (by omega) (by decide), fun y => fin _ (by rw [Nat.max_eq_left (by omega)]), fun y => fin _ (by rw [Nat.max_eq_right (by omega)])⟩
  -- a base is sought
  have ph1 : ∀ (m b : Nat), b + m = bs → (∀ b', b' < b → ¬ fit n V row (po P) b') → tp_W shM m_Mo_lay 4 [some (.ref 0), some (.int (nI row)), some (.int (nI b)), some (.int (nI 0)), none] [] μ (tp_Qv K) := by
    intro m
    induction m with
    | zero =>
      intro b hb hno
      have eb : b = bs := by omega
      subst eb
      refine bk_Mo_lay_4 _ _ _ ⟨fun h => absurd rfl h, fun _ => ?_⟩
      suffices h2 : ∀ (l kk : Nat), kk + l = wd n row → tp_W shM m_Mo_lay 13 [some (.ref 0), some (.int (nI row)), some (.int (nI b)), some (.int (nI 1)), some (.int (nI kk))] [] μ (tp_Qv K) from h2 (wd n row) 0 (Nat.zero_add _)
      intro l
      induction l with
      | zero =>
        intro kk hk
        refine bk_Mo_lay_13 _ _ _ _ (sp_Mwidth hB hV hr ⟨fun _ => ⟨fun h => absurd h n1_0, fun _ => bk_Mo_lay_4 _ _ _ ⟨fun _ => ⟨hv108, ?_⟩, fun h => absurd h n1_0⟩⟩, fun h => absurd (nI_le (by omega) (by omega)) h⟩)
        rw [nI_clamp (by omega)]
        refine ph2 (wd n row) 0 _ (Nat.zero_add _) (kf_si (kf_rf _ _ _) (by decide) (by decide)) ⟨fun x hx => by rw [si_ne (by decide)]; exact hP.1 x hx, fun x row' v hx hpo => by rw [si_ne (by decide)]; exact hP.2.1 x row' v hx hpo, fun row' hr' => ?_, by rw [si_ne (by decide)]; exact hP.2.2.2⟩
        show _ = lv (va_up (pb P) row (some b) row')
        by_cases w : row' = row
        · subst w; rw [si_at, va_up_self]; rfl
        · rw [si_nj w, va_up_ne _ _ w]; exact hP.2.2.1 row' hr'
      | succ l ihl =>
        intro kk hk
        have hel := en_lt hB row kk
        refine bk_Mo_lay_13 _ _ _ _ (sp_Mwidth hB hV hr ⟨fun h => absurd ((nI_leI (by omega) (by omega)).mp h) (by omega), fun _ => ⟨fun h => absurd h n1_0, fun _ => sp_Mentry hB hV hr (by omega) h13 ?_⟩⟩)
        rw [nI_z (by omega)]
        simp only [nI_add]
        rw [nI_clamp (by omega), hP.1 _ (by omega)]
        refine ⟨fun _ => ihl (kk + 1) (by omega), fun z => ⟨vp_in_nI (by omega) (by decide), fun y => ?_, fun _ => ihl (kk + 1) (by omega)⟩⟩
        exact absurd y ((ow_neg hI).mpr (hbf kk (by omega) z))
    | succ m ih =>
      intro b hb hno
      have hnf := hbm b (by omega)
      have next := ih (b + 1) (by omega) (fun b' h => by
        by_cases y : b' = b
        · subst y; exact hnf
        · exact hno b' (by omega))
      refine bk_Mo_lay_4 _ _ _ ⟨fun h => absurd rfl h, fun _ => ?_⟩
      suffices h2 : ∀ (l kk : Nat) (x : Int32), kk + l = wd n row → (x = nI 1 ∧ (∀ k', k' < kk → ¬ en n V row k' = 0 → po P (b + k') = none) ∨ x = nI 0) → tp_W shM m_Mo_lay 13 [some (.ref 0), some (.int (nI row)), some (.int (nI b)), some (.int x), some (.int (nI kk))] [] μ (tp_Qv K) from h2 (wd n row) 0 (nI 1) (Nat.zero_add _) (Or.inl ⟨rfl, fun k' h => absurd h (Nat.not_lt_zero k')⟩)
      intro l
      induction l with
      | zero =>
        intro kk x hk hx
        refine bk_Mo_lay_13 _ _ _ _ (sp_Mwidth hB hV hr ⟨fun _ => ⟨fun h => ?_, fun h => ?_⟩, fun h => absurd (nI_le (by omega) (by omega)) h⟩)
        · have ex : x = nI 0 := h
          rw [nI_add, ex]; exact next
        · rcases hx with ⟨_, hx⟩ | hx
          · exact absurd (fun k' h1 h2 => hx k' (by omega) h2) hnf
          · exact absurd hx h
      | succ l ihl =>
        intro kk x hk hx
        have hel := en_lt hB row kk
        refine bk_Mo_lay_13 _ _ _ _ (sp_Mwidth hB hV hr ⟨fun h => absurd ((nI_leI (by omega) (by omega)).mp h) (by omega), fun _ => ⟨fun h => ⟨fun _ => ?_, fun h' => absurd h h'⟩, fun h => sp_Mentry hB hV hr (by omega) h13 ?_⟩⟩)
        · have ex : x = nI 0 := h
          rw [nI_add, ex]; exact next
        · have hx1 : ∀ k', k' < kk → ¬ en n V row k' = 0 → po P (b + k') = none := by
            rcases hx with ⟨_, hx⟩ | hx
            · exact hx
            · exact absurd hx h
          rw [nI_z (by omega)]
          simp only [nI_add]
          rw [nI_clamp (by omega), hP.1 _ (by omega)]
          refine ⟨fun z => ihl (kk + 1) _ (by omega) (Or.inl ⟨rfl, fun k' h1 h2 => ?_⟩), fun z => ⟨vp_in_nI (by omega) (by decide), fun y => ihl (kk + 1) _ (by omega) (Or.inr rfl), fun y => ihl (kk + 1) _ (by omega) (Or.inl ⟨rfl, fun k' h1 h2 => ?_⟩)⟩⟩
          · by_cases w : k' = kk
            · subst w; exact absurd z h2
            · exact hx1 k' (by omega) h2
          · by_cases w : k' = kk
            · subst w; exact (ow_neg hI).mp y
            · exact hx1 k' (by omega) h2
  exact bk_Mo_lay_0 _ (ph1 bs 0 (Nat.zero_add _) (fun b' h => absurd h (Nat.not_lt_zero b')))
theorem sp_isRow {n : Nat} (hn : n ≤ 100) {μ : tp_S} (h : μ.1 0 16 = nI n) {row : Nat} (hr : row < 108) {K : Int32 → tp_S → Prop} (k1 : rOk n row → K (nI 1) μ) (k0 : ¬ rOk n row → K (nI 0) μ) : tp_W shM m_Mo_isRow 0 [some (.ref 0), some (.int (nI row))] [] μ (tp_Qi K) := by
  unfold rOk at k1 k0
  refine bk_Mo_isRow_0 _ ?_
  rw [h, nI_ltI (by omega) (by omega), nI_ltI (by omega) (by omega), nI_leI (by omega) (by omega)]
  exact ⟨fun z => absurd z (nI_pos (by omega)), fun _ => ⟨fun z => ⟨bo_1, k1 (by omega)⟩, fun z => ⟨fun y => ⟨bo_0, k0 (by omega)⟩, fun y => ⟨fun w => by omega, fun w => ⟨bo_1, k1 (by omega)⟩⟩⟩⟩⟩
theorem sp_Mpack {n : Nat} {V : Nat → Nat → Nat} {μ : tp_S} (hB : vB n V) (hV : vM n V μ) {K : tp_S → Prop} (k : ∀ ν, kf [13, 14, 15, 16, 17] [25] μ ν → rwM' n V ν → pkM n (PF n V) ν → K ν) : tp_W shM m_Mo_pack 0 [some (.ref 0), none, none] [] μ (tp_Qv K) := by
  have hn := hB.1
  -- counts go down
  have ph3 : ∀ (c : Nat) (P : Pt) (ν : tp_S), c ≤ 100 → kf [13, 14, 15, 16, 17] [25] μ ν → rwM' n V ν → pJ n V c 0 P → pkM n P ν → sdn n V c P = PF n V → tp_W shM m_Mo_pack 57 [some (.ref 0), some (.int (nI c)), none] [] ν (tp_Qv K) := by
    intro c
    induction c with
    | zero =>
      intro P ν hc hf hW hJ hP hd
      have hd' : P = PF n V := hd
      exact bk_Mo_pack_57 _ ⟨fun _ => k ν hf hW (by rw [← hd']; exact hP), fun h => absurd (by decide) h⟩
    | succ c ih =>
      intro P ν hc hf hW hJ hP hd
      refine bk_Mo_pack_57 _ ⟨fun h => ?_, fun _ => ?_⟩
      · have := (nI_leI (a := c + 1) (b := 0) (by omega) (by decide)).mp h
        omega
      · suffices h2 : ∀ (m r : Nat) (ξ : tp_S), r + m = 108 → kf [13, 14, 15, 16, 17] [25] μ ξ → rwM' n V ξ → pkM n (srw n V (c + 1) P r) ξ → tp_W shM m_Mo_pack 63 [some (.ref 0), some (.int (nI (c + 1))), some (.int (nI r))] [] ξ (tp_Qv K) from h2 108 0 ν rfl hf hW hP
        intro m
        induction m with
        | zero =>
          intro r ξ hr hfx hWx hPx
          have er : r = 108 := by omega
          subst er
          refine bk_Mo_pack_63 _ _ ⟨fun _ => ?_, fun h => absurd (nI_le (by omega) (by omega)) h⟩
          rw [nI_dec]
          exact ih _ ξ (by omega) hfx hWx (pJ_dn (srw_pJ hn hJ (Nat.le_refl _))) hPx hd
        | succ m ihm =>
          intro r ξ hr hfx hWx hPx
          have hVx := vM_kf hfx (by decide) hV
          have hct := ct_le (V := V) (row := r) hn
          have hJr := srw_pJ hn hJ (r := r) (by omega)
          refine bk_Mo_pack_63 _ _ ⟨fun h => absurd ((nI_leI (by omega) (by omega)).mp h) (by omega), fun _ => sp_isRow hn hVx.1 (by omega) (fun hok => ⟨fun h => absurd h n1_0, fun _ => ?_⟩) (fun hno => ⟨fun _ => ?_, fun h => absurd rfl h⟩)⟩
          · rw [nI_clamp (by omega), (hWx r hok).2, nI_eq (by omega) (by omega), nI_add]
            refine ⟨vp_in_nI (by omega) (by decide), fun hne => ?_, fun he => ?_⟩
            · have e : srw n V (c + 1) P (r + 1) = srw n V (c + 1) P r := if_neg hne
              exact ihm (r + 1) ξ (by omega) hfx hWx (by rw [e]; exact hPx)
            · have e : srw n V (c + 1) P (r + 1) = lay n V r (srw n V (c + 1) P r) := if_pos he
              refine sp_lay hB hVx hWx hJr.1 hPx hok ((hJr.2 r (by omega)).1 (Or.inr ⟨he, Nat.le_refl _⟩)) (fun ζ hfz hPz => ihm (r + 1) ζ (by omega) (kf_tr hfx (kf_sub hfz (by decide) (by decide))) (rwM_kf hfz (by decide) hWx) (by rw [e]; exact hPz))
          · have e : srw n V (c + 1) P (r + 1) = srw n V (c + 1) P r := if_neg (by rw [ct_0 (wd_no (by omega) hno)]; omega)
            rw [nI_add]
            exact ihm (r + 1) ξ (by omega) hfx hWx (by rw [e]; exact hPx)
  -- defaults
  have ph2 : ∀ (m r : Nat) (ν : tp_S), r + m = 108 → kf [13, 14, 15, 16, 17] [25] μ ν → (∀ row, row < r → rOk n row → ν.1 13 row = lv (dfl n V row) ∧ ν.1 14 row = nI (ct n V row) ∧ ν.1 15 row = -1) → (∀ x, x < 6000 → ν.1 16 x = -1) → ν.1 0 25 = nI 0 → tp_W shM m_Mo_pack 29 [some (.ref 0), some (.int (nI r)), none] [] ν (tp_Qv K) := by
    intro m
    induction m with
    | zero =>
      intro r ν hr hf hrow h16 h25
      have er : r = 108 := by omega
      subst er
      refine bk_Mo_pack_29 _ ⟨fun _ => ph3 100 P0 ν (by omega) hf (fun row hok => ?_) (P0_pJ hn V (fun row _ => ct_le hn)) ⟨h16, fun x row v _ h => (by cases h), fun row hok => (hrow row (rOk_lt hn hok) hok).2.2, h25⟩ rfl, fun h => absurd (nI_le (by omega) (by omega)) h⟩
      have := hrow row (rOk_lt hn hok) hok
      exact ⟨this.1, this.2.1⟩
    | succ m ih =>
      intro r ν hr hf hrow h16 h25
      have hVn := vM_kf hf (by decide) hV
      refine bk_Mo_pack_29 _ ⟨fun h => absurd ((nI_leI (by omega) (by omega)).mp h) (by omega), fun _ => sp_isRow hn hVn.1 (by omega) (fun hok => ⟨fun h => absurd h n1_0, fun _ => sp_findDefault hB hVn hok (fun ξ hd d13 d14 d15 => ?_)⟩) (fun hno => ⟨fun _ => ?_, fun h => absurd rfl h⟩)⟩
      · rw [nI_add]
        refine ih (r + 1) ξ (by omega) (kf_tr hf (kf_sub hd.1 (by decide) (by decide))) (fun row h1 h2 => ?_) (fun x hx => by rw [hd.1.1 16 (by decide) (by decide)]; exact h16 x hx) (by rw [hd.1.2 25 (by decide)]; exact h25)
        by_cases y : row = r
        · subst y; exact ⟨d13, d14, d15⟩
        · obtain ⟨e1, e2, e3⟩ := hd.2 row y
          rw [e1, e2, e3]; exact hrow row (by omega) h2
      · rw [nI_add]
        refine ih (r + 1) ν (by omega) hf (fun row h1 h2 => ?_) h16 h25
        by_cases y : row = r
        · subst y; exact absurd h2 hno
        · exact hrow row (by omega) h2
  refine bk_Mo_pack_0 ?_
  suffices h : ∀ (m i : Nat) (ν : tp_S), i + m = 6000 → kf [13, 14, 15, 16, 17] [25] μ ν → (∀ x, x < i → ν.1 16 x = -1) → ν.1 0 25 = nI 0 → tp_W shM m_Mo_pack 7 [some (.ref 0), some (.int (nI i)), none] [] ν (tp_Qv K) from h 6000 0 _ rfl (kf_s0 (kf_rf _ _ _) (by decide)) (fun x h => absurd h (Nat.not_lt_zero x)) si_at
  intro m
  induction m with
  | zero =>
    intro i ν hi hf hz h25
    exact bk_Mo_pack_7 _ ⟨fun _ => ph2 108 0 ν rfl hf (fun row h => absurd h (Nat.not_lt_zero row)) (fun x hx => hz x (by omega)) h25, fun h => absurd (nI_le (by omega) (by omega)) h⟩
  | succ m ih =>
    intro i ν hi hf hz h25
    refine bk_Mo_pack_7 _ ⟨fun h => absurd ((nI_leI (by omega) (by omega)).mp h) (by omega), fun _ => ⟨vp_in_nI (by omega) (by decide), ?_⟩⟩
    rw [nI_clamp (by omega), nI_add]
    refine ih (i + 1) _ (by omega) (kf_si hf (by decide) (by decide)) (fun x hx => ?_) (by rw [si_ne (by decide)]; exact h25)
    by_cases y : x = i
    · subst y; exact si_at
    · rw [si_nj y]; exact hz x (by omega)
