/-! place, check, count -/
theorem pl_le {n : Nat} (hn : n ≤ 100) {V : Nat → Nat → Nat} {P : Pt} (hI : pI n V P) : pl P ≤ 2200 := by
  have := hI.1
  have := wl_all hn (pb P)
  omega
theorem sp_isOwned {n : Nat} {V : Nat → Nat → Nat} (hB : vB n V) {P : Pt} (hI : pI n V P) {σ : tp_S} (hP : pkC P σ) {x : Int32} {K : Int32 → tp_S → Prop} (k0 : (∀ j, po P j ≠ none → x ≠ nI j) → K (nI 0) σ) (k1 : ∀ j row v, j < 2200 → po P j = some (row, v) → x = nI j → K (nI 1) σ) : tp_W shC m_Pk_isOwned 0 [some (.ref 18), some (.int x)] [] σ (tp_Qi K) := by
  have hl := pl_le hB.1 hI
  refine bk_Pk_isOwned_0 x ?_
  rw [hP.2.2]
  rcases nI_ix x (pl P) (by omega) with ⟨a, b⟩ | ⟨a, b⟩ | ⟨j, hj, e, a, b⟩
  · exact ⟨fun _ => ⟨bo_0, k0 (fun j hj e => b ⟨j, hI.2.1 j hj, e⟩)⟩, fun h => absurd a h⟩
  · refine ⟨fun h => absurd h a, fun _ => ⟨fun _ => ⟨bo_0, k0 (fun j hj e => ?_)⟩, fun h => absurd b h⟩⟩
    rw [e] at b
    exact nI_ge (hI.2.1 j hj) (by omega) b
  · subst e
    refine ⟨fun h => absurd h a, fun _ => ⟨fun h => absurd h b, fun _ => ⟨vp_in_nI (by omega) (by decide), ?_⟩⟩⟩
    rw [nI_clamp (by omega), hP.1 j (by omega)]
    refine ⟨fun h => ⟨bo_0, k0 (fun i hi e => ?_)⟩, fun h => ⟨bo_1, ?_⟩⟩
    · have hil := hI.2.1 i hi
      have := nI_same (by omega) (by omega) e
      subst this
      exact hi ((plv_n hB hI).mp h)
    · cases ep : po P j with
      | none => exact absurd ((plv_n hB hI).mpr ep) h
      | some p => exact k1 j p.1 p.2 (by omega) ep rfl
theorem pl_v {n : Nat} {V : Nat → Nat → Nat} (hB : vB n V) {P : Pt} (hI : pI n V P) {j row v : Nat} (h : po P j = some (row, v)) : row < 108 ∧ v ≤ 3023 ∧ ¬ v = 0 := by
  obtain ⟨h1, b, _, _, _, h5, h2⟩ := hI.2.2.2.1 j row v h
  have := en_lt hB row (j - b)
  exact ⟨h1, by omega, by omega⟩
theorem pl_12 {row v : Nat} (hr : row < 108) (hv : v ≤ 3023) : nI (4096 * row + v) >>> (nI 12 &&& 31) = nI row := by
  rw [pk_shrN (by omega) _ 12 (s_l 12 (by decide))]
  congr 1
  omega
theorem pl_m {row v : Nat} (hr : row < 108) (hv : v ≤ 3023) : nI (4096 * row + v) &&& nI 4095 = nI v := by
  rw [pk_andN (by omega) 12 (by decide)]
  congr 1
  omega
theorem ca_place : lw_case (Rel TC TM) m_Tp_place m_Mo_place 2 := by
  intro σ μ vs hvs hR
  obtain ⟨x, y, rfl⟩ := ls_two hvs
  refine bk_Tp_place_0 x y (sp_refresh hR (fun g op ok ol os tc tk τ hG hT => sp_big hT (fun hb => ⟨fun h => absurd h n1_0, fun _ => bk_Mo_place_0 x y (sp_kn0 hG hb (fun ν hn => ⟨fun h => absurd rfl h, fun _ => ⟨rfl, RG_Rel hn⟩⟩))⟩) (fun hb hC => ⟨fun _ => ?_, fun h => absurd rfl h⟩)))
  have hB := Bk_of hG.1 hb
  have hn := hB.n100
  have hV := VV_B hG.1 hB
  have hI := (PF_pJ hn (VV g (bfs g 2200))).1
  have hP := hC.2.2.2.2.2.2.1
  have hl := pl_le hn hI
  generalize hPe : PF (bn (bfs g 2200)) (VV g (bfs g 2200)) = P at hI hP hl
  -- no place
  have no : (∀ j, po P j ≠ none → x ≠ nI j) → tp_W shM m_Mo_place 0 [some (.ref 0), some (.int x), some (.int y)] [] μ (tp_Qi fun r' μ' => (-1 : Int32) = r' ∧ Rel TC TM τ μ') := by
    intro hx
    refine bk_Mo_place_0 x y (sp_kn1 hG hb (fun ν hN _ hM => ⟨fun _ => ?_, fun h => absurd h n1_0⟩))
    have hp := hM.2.2.2.2.2.2.2.2
    rw [hPe] at hp
    rw [hp.2.2.2]
    rcases nI_ix x (pl P) (by omega) with ⟨a, b⟩ | ⟨a, b⟩ | ⟨j, hj, e, a, b⟩
    · exact ⟨fun _ => ⟨rfl, RG_Rel hN⟩, fun h => absurd a h⟩
    · exact ⟨fun h => absurd h a, fun _ => ⟨fun _ => ⟨rfl, RG_Rel hN⟩, fun h => absurd b h⟩⟩
    · subst e
      refine ⟨fun h => absurd h a, fun _ => ⟨fun h => absurd h b, fun _ => ⟨vp_in_nI (by omega) (by decide), ?_⟩⟩⟩
      rw [nI_clamp (by omega), hp.1 j (by omega)]
      have hno : po P j = none := Classical.byContradiction (fun z => hx j z rfl)
      exact ⟨fun h => absurd h ((ow_neg hI).mpr hno), fun _ => ⟨rfl, RG_Rel hN⟩⟩
  -- a place
  have yes : ∀ j row v, j < 2200 → po P j = some (row, v) → x = nI j → ∀ z : Int32, (y = nI 0 → z = nI row) → (¬ y = nI 0 → y = nI 1 → z = nI v) → (¬ y = nI 0 → ¬ y = nI 1 → z = -1) → tp_W shM m_Mo_place 0 [some (.ref 0), some (.int x), some (.int y)] [] μ (tp_Qi fun r' μ' => z = r' ∧ Rel TC TM τ μ') := by
    intro j row v hj2 hj e z z0 z1 z2
    subst e
    refine bk_Mo_place_0 _ y (sp_kn1 hG hb (fun ν hN _ hM => ⟨fun _ => ?_, fun h => absurd h n1_0⟩))
    have hp := hM.2.2.2.2.2.2.2.2
    rw [hPe] at hp
    rw [hp.2.2.2]
    have hjl : j < pl P := hI.2.1 j (by rw [hj]; intro h; cases h)
    refine ⟨fun h => absurd h (nI_pos (by omega)), fun _ => ⟨fun h => absurd h (nI_ge hjl (by omega)), fun _ => ⟨vp_in_nI (by omega) (by decide), ?_⟩⟩⟩
    rw [nI_clamp (by omega)]
    have hnn : ¬ po P j = none := by rw [hj]; intro h; cases h
    have e16 : ν.1 16 j = nI row := by rw [hp.1 j (by omega), hj]; rfl
    have e17 := hp.2.1 j row v (by omega) hj
    refine ⟨fun _ => ⟨fun y0 => ⟨fun y1 => ⟨z2 y0 y1, RG_Rel hN⟩, fun y1 => ⟨vp_in_nI (by omega) (by decide), ?_, RG_Rel hN⟩⟩, fun y0 => ⟨vp_in_nI (by omega) (by decide), ?_, RG_Rel hN⟩⟩, fun h => ?_⟩
    · rw [z1 y0 y1, e17]
    · rw [z0 y0, e16]
    · rw [hp.1 j (by omega)] at h
      exact absurd ((ow_neg hI).mp h) hnn
  refine ⟨fun y0 => bk_Pk_ownerAt_0 x (sp_isOwned hV hI hP (fun hx => ⟨fun _ => no hx, fun h => absurd rfl h⟩) (fun j row v hj2 hj e => ⟨fun h => absurd h n1_0, fun _ => ?_⟩)), fun y0 => ⟨fun y1 => bk_Pk_entryAt_0 x (sp_isOwned hV hI hP (fun hx => ⟨fun _ => no hx, fun h => absurd rfl h⟩) (fun j row v hj2 hj e => ⟨fun h => absurd h n1_0, fun _ => ?_⟩)), fun y1 => ?_⟩⟩
  · obtain ⟨v1, v2, _⟩ := pl_v hV hI hj
    refine ⟨by rw [e]; exact vp_in_nI (by omega) (by decide), yes j row v hj2 hj e _ (fun _ => ?_) (fun h => absurd y0 h) (fun h => absurd y0 h)⟩
    rw [e, nI_clamp (by omega), hP.1 j hj2, hj]
    exact pl_12 v1 v2
  · obtain ⟨v1, v2, _⟩ := pl_v hV hI hj
    refine ⟨by rw [e]; exact vp_in_nI (by omega) (by decide), yes j row v hj2 hj e _ (fun h => absurd h y0) (fun _ _ => ?_) (fun _ h => absurd y1 h)⟩
    rw [e, nI_clamp (by omega), hP.1 j hj2, hj]
    exact pl_m v1 v2
  · by_cases hx : ∀ j, po P j ≠ none → x ≠ nI j
    · exact no hx
    · have : ∃ j, po P j ≠ none ∧ x = nI j := Classical.byContradiction (fun z => hx (fun j hj e => z ⟨j, hj, e⟩))
      obtain ⟨j, hj, e⟩ := this
      have hjl := hI.2.1 j hj
      cases ep : po P j with
      | none => exact absurd ep hj
      | some p => exact yes j p.1 p.2 (by omega) ep e _ (fun h => absurd h y0) (fun _ h => absurd h y1) (fun _ _ => rfl)
/-- what a row looks up -/
theorem sp_lookUp {n : Nat} {V : Nat → Nat → Nat} (hB : vB n V) {σ : tp_S} (hP : pkC (PF n V) σ) {row k : Nat} (hr : row < 108) (hk : k < 100) {K : Int32 → tp_S → Prop} (kk : K (lo (fnd n V row k)) σ) : tp_W shC m_Pk_lookUp 0 [some (.ref 18), some (.int (nI row)), some (.int (nI k)), none, none] [] σ (tp_Qi K) := by
  have hI := (PF_pJ hB.1 V).1
  have hl := pl_le hB.1 hI
  refine bk_Pk_lookUp_0 _ _ ⟨vp_in_nI (by omega) (by decide), vp_in_nI (by omega) (by decide), ?_⟩
  rw [nI_clamp (by omega), hP.2.1 row hr]
  unfold fnd at kk
  cases eb : pb (PF n V) row with
  | none =>
    rw [eb] at kk
    exact ⟨fun _ => ⟨fun _ => kk, fun h => absurd rfl h⟩, fun h => absurd rfl h⟩
  | some b =>
    rw [eb] at kk
    have kk : K (lo (match po (PF n V) (b + k) with
      | none => 0
      | some (row', v) => if row' = row then v else 0)) σ := kk
    have hbl := (hI.2.2.2.2 row b eb).1
    refine ⟨fun h => absurd h (nI_neg1 (by omega)), fun _ => ?_⟩
    show tp_W shC m_Pk_isOwned 0 [some (.ref 18), some (.int (nI b + nI k))] [] σ (tp_Qi _)
    rw [nI_add]
    refine sp_isOwned hB hI hP (fun hx => ⟨fun _ => ⟨fun _ => ?_, fun h => absurd rfl h⟩, fun h => absurd rfl h⟩) (fun j row' v hj2 hj e => ⟨fun h => absurd h n1_0, fun _ => ?_⟩)
    · have : po (PF n V) (b + k) = none := Classical.byContradiction (fun z => hx _ z rfl)
      rw [this] at kk
      exact kk
    · have ej := nI_same (by omega) (by omega) e
      subst ej
      rw [hj] at kk
      obtain ⟨v1, v2, v3⟩ := pl_v hB hI hj
      show vp_in (nI b + nI k) 2200 ∧ _
      simp only [lv, nI_add]
      rw [nI_clamp (by omega), hP.1 _ hj2, hj]
      show vp_in (nI (b + k)) 2200 ∧ (¬ nI (4096 * row' + v) >>> (nI 12 &&& 31) = nI row → _) ∧ (nI (4096 * row' + v) >>> (nI 12 &&& 31) = nI row → (nI 1 = 0 → K (-1 : Int32) σ) ∧ (¬ nI 1 = 0 → vp_in (nI (b + k)) 2200 ∧ K (nI (4096 * row' + v) &&& nI 4095) σ))
      rw [pl_12 v1 v2, pl_m v1 v2]
      have kk' : K (lo (if row' = row then v else 0)) σ := kk
      refine ⟨vp_in_nI (by omega) (by decide), fun h => ⟨fun _ => ?_, fun h => absurd rfl h⟩, fun h => ⟨fun h => absurd h n1_0, fun _ => ⟨vp_in_nI (by omega) (by decide), ?_⟩⟩⟩
      · rw [if_neg (fun z => h (by rw [z]))] at kk'
        exact kk'
      · have := nI_same (by omega) (by omega) h
        rw [if_pos this] at kk'
        unfold lo at kk'
        rw [if_neg v3] at kk'
        exact kk'
theorem ca_check : lw_case (Rel TC TM) m_Tp_check m_Mo_check 0 := by
  intro σ μ vs hvs hR
  obtain rfl := ls_nil hvs
  refine bk_Tp_check_0 (sp_refresh hR (fun g op ok ol os tc tk τ hG hT => ?_))
  have fin : tp_W shM m_Mo_check 0 [some (.ref 0)] [] μ (tp_Qi fun r' μ' => nI 1 = r' ∧ Rel TC TM τ μ') := bk_Mo_check_0 ⟨rfl, RG_Rel (RG_thrown hG)⟩
  refine sp_big hT (fun hb => ⟨fun _ => fin, fun h => absurd h n1_0⟩) (fun hb hC => ⟨fun h => absurd rfl h, fun _ => ?_⟩)
  have hB := Bk_of hG.1 hb
  have hn := hB.n100
  have hV := VV_B hG.1 hB
  have hP := hC.2.2.2.2.2.2.1
  have hv := hC.2.2.2.2.1
  have hrw := hC.2.2.2.2.2.1
  generalize VV g (bfs g 2200) = V at hV hP hv hrw
  refine bk_Pk_isSound_0 ?_
  suffices h : ∀ (m row : Nat), row + m = 108 → tp_W shC m_Pk_isSound 2 [some (.ref 18), some (.int (nI row)), none, none] [] τ (tp_Qi fun r3 σ3 => (r3 = 0 → tp_W shM m_Mo_check 0 [some (.ref 0)] [] μ (tp_Qi fun r' μ' => nI 0 = r' ∧ Rel TC TM σ3 μ')) ∧ (¬ r3 = 0 → tp_W shM m_Mo_check 0 [some (.ref 0)] [] μ (tp_Qi fun r' μ' => nI 1 = r' ∧ Rel TC TM σ3 μ'))) from h 108 0 rfl
  intro m
  induction m with
  | zero =>
    intro row hr
    exact bk_Pk_isSound_2 _ ⟨fun _ => ⟨bo_1, fun h => absurd h n1_0, fun _ => fin⟩, fun h => absurd (nI_le (by omega) (by omega)) h⟩
  | succ m ih =>
    intro row hr
    refine bk_Pk_isSound_2 _ ⟨fun h => absurd h (nI_ge (by omega) (by decide)), fun _ => sp_widthOf hV hv (by omega) ?_⟩
    have hwd := wd_le (row := row) hn
    suffices h2 : ∀ (m' k : Nat), k + m' = wd (bn (bfs g 2200)) row → tp_W shC m_Pk_isSound 16 [some (.ref 18), some (.int (nI row)), some (.int (nI (wd (bn (bfs g 2200)) row))), some (.int (nI k))] [] τ (tp_Qi fun r3 σ3 => (r3 = 0 → tp_W shM m_Mo_check 0 [some (.ref 0)] [] μ (tp_Qi fun r' μ' => nI 0 = r' ∧ Rel TC TM σ3 μ')) ∧ (¬ r3 = 0 → tp_W shM m_Mo_check 0 [some (.ref 0)] [] μ (tp_Qi fun r' μ' => nI 1 = r' ∧ Rel TC TM σ3 μ'))) from h2 _ 0 (Nat.zero_add _)
    intro m'
    induction m' with
    | zero =>
      intro k hk
      refine bk_Pk_isSound_16 _ _ _ ⟨fun _ => ?_, fun h => absurd (nI_le (by omega) (by omega)) h⟩
      simp only [nI_add]
      exact ih (row + 1) (by omega)
    | succ m' ih2 =>
      intro k hk
      refine bk_Pk_isSound_16 _ _ _ ⟨fun h => absurd h (nI_ge (by omega) (by omega)), fun _ => sp_lookUp hV hP (by omega) (by omega) (sp_entryOf hV hv (by omega) (by omega) (hrw row (by omega)).1 ?_)⟩
      rw [fnd_en hn (by omega) (by omega)]
      refine ⟨fun _ => ?_, fun h => absurd rfl h⟩
      simp only [nI_add]
      exact ih2 (k + 1) (by omega)
/-- the kinds that can be empty, by bits -/
noncomputable def ek (g : Gm) : Nat → Int32
  | 0 => nI 0
  | k + 1 => match pd (Og g k 14) with
    | true => ek g k ||| (nI 1 <<< (nI k &&& 31))
    | false => ek g k
theorem ek_t {g : Gm} {k : Nat} (h : Og g k 14) : ek g (k + 1) = ek g k ||| (nI 1 <<< (nI k &&& 31)) := by
  show (match pd (Og g k 14) with
    | true => ek g k ||| (nI 1 <<< (nI k &&& 31))
    | false => ek g k) = _
  rw [pd_t h]
theorem ek_f {g : Gm} {k : Nat} (h : ¬ Og g k 14) : ek g (k + 1) = ek g k := by
  show (match pd (Og g k 14) with
    | true => ek g k ||| (nI 1 <<< (nI k &&& 31))
    | false => ek g k) = _
  rw [pd_f h]
theorem sp_emptyKinds {g : Gm} {σ : tp_S} (h : oOK g σ) {K : Int32 → tp_S → Prop} (k : K (ek g 8) σ) : tp_W shC m_Op_emptyKinds 0 [some (.ref 5), none, none] [] σ (tp_Qi K) := by
  refine bk_Op_emptyKinds_0 ?_
  suffices hh : ∀ (m j : Nat), j + m = 8 → tp_W shC m_Op_emptyKinds 4 [some (.ref 5), some (.int (ek g j)), some (.int (nI j))] [] σ (tp_Qi K) from hh 8 0 rfl
  intro m
  induction m with
  | zero =>
    intro j hj
    rw [show j = 8 by omega]
    exact bk_Op_emptyKinds_4 _ _ ⟨fun _ => k, fun h => absurd (nI_le (by omega) (by omega)) h⟩
  | succ m ih =>
    intro j hj
    refine bk_Op_emptyKinds_4 _ _ ⟨fun h => absurd h (nI_ge (by omega) (by decide)), fun _ => ⟨vp_in_nI (by omega) (by decide), ?_⟩⟩
    rw [nI_clamp (by omega), b_t14]
    simp only [nI_add]
    have ho := h j 14 (by omega) (by decide)
    unfold oS at ho
    refine ⟨fun hz => ?_, fun hz => ?_⟩
    · rw [← ek_f (g := g) (k := j) (fun z => by rw [ho.mpr ⟨by omega, z⟩] at hz; cases hz)]
      exact ih (j + 1) (by omega)
    · rw [← ek_t (g := g) (k := j) (ho.mp (by simpa using hz)).2]
      exact ih (j + 1) (by omega)
theorem sp_Mbits {g : Gm} {μ : tp_S} (h : mOK g μ) (x1 x2 : Int32) {K : Int32 → tp_S → Prop} (k : tp_W shM m_Mo_count 15 [some (.ref 0), some (.int x1), some (.int x2), some (.int (ek g 8)), some (.int (nI 8))] [] μ (tp_Qi K)) : tp_W shM m_Mo_count 15 [some (.ref 0), some (.int x1), some (.int x2), some (.int (nI 0)), some (.int (nI 0))] [] μ (tp_Qi K) := by
  suffices hh : ∀ (m j : Nat), j + m = 8 → tp_W shM m_Mo_count 15 [some (.ref 0), some (.int x1), some (.int x2), some (.int (ek g j)), some (.int (nI j))] [] μ (tp_Qi K) from hh 8 0 rfl
  intro m
  induction m with
  | zero =>
    intro j hj
    rw [show j = 8 by omega]
    exact k
  | succ m ih =>
    intro j hj
    refine bk_Mo_count_15 _ _ _ _ ⟨fun h => absurd h (nI_ge (by omega) (by decide)), fun _ => ⟨vp_in_nI (by omega) (by decide), ?_⟩⟩
    rw [nI_clamp (by omega)]
    simp only [nI_add]
    obtain ⟨h1, h2⟩ := h.1 j (by omega)
    refine ⟨fun hz => ?_, fun hz => ?_⟩
    · rw [← ek_f (g := g) (k := j) (fun z => by rw [h2.mpr z] at hz; exact absurd hz (by decide))]
      exact ih (j + 1) (by omega)
    · rw [← ek_t (g := g) (k := j) (h2.mp (h1.resolve_left hz))]
      exact ih (j + 1) (by omega)
theorem sp_Mentries {n : Nat} {V : Nat → Nat → Nat} {μ : tp_S} (hn : n ≤ 100) (h : μ.1 0 16 = nI n) (hw : rwM' n V μ) {K : Int32 → tp_S → Prop} (k : K (nI (sm (ct n V) 108)) μ) : tp_W shM m_Mo_entries 0 [some (.ref 0), none, none] [] μ (tp_Qi K) := by
  refine bk_Mo_entries_0 ?_
  suffices hh : ∀ (m row : Nat), row + m = 108 → tp_W shM m_Mo_entries 4 [some (.ref 0), some (.int (nI (sm (ct n V) row))), some (.int (nI row))] [] μ (tp_Qi K) from hh 108 0 rfl
  intro m
  induction m with
  | zero =>
    intro row hr
    rw [show row = 108 by omega]
    exact bk_Mo_entries_4 _ _ ⟨fun _ => k, fun h => absurd (nI_le (by omega) (by omega)) h⟩
  | succ m ih =>
    intro row hr
    have ih' := ih (row + 1) (by omega)
    refine bk_Mo_entries_4 _ _ ⟨fun h => absurd h (nI_ge (by omega) (by decide)), fun _ => sp_isRow hn h (by omega) (fun hok => ⟨fun h => absurd h n1_0, fun _ => ⟨vp_in_nI (by omega) (by decide), ?_⟩⟩) (fun hno => ⟨fun _ => ?_, fun h => absurd rfl h⟩)⟩
    · rw [nI_clamp (by omega), (hw row hok).2]
      simp only [nI_add]
      exact ih'
    · simp only [nI_add]
      have e : sm (ct n V) (row + 1) = sm (ct n V) row := by
        show sm (ct n V) row + ct n V row = _
        rw [ct_0 (wd_no (by omega) hno)]; rfl
      rw [e] at ih'
      exact ih'
theorem ca_count : lw_case (Rel TC TM) m_Tp_count m_Mo_count 1 := by
  intro σ μ vs hvs hR
  obtain ⟨x, rfl⟩ := ls_one hvs
  refine bk_Tp_count_0 x (sp_refresh hR (fun g op ok ol os tc tk τ hG hT => ?_))
  have hw := hG.1
  -- where no tables are asked
  have out : ∀ z : Int32, (x < nI 2 ∨ nI 5 < x) → (x = nI 0 → z = nI (gn g)) → (x = nI 1 → z = nI tc) → (x = nI 6 → z = ek g 8) → (¬ x = nI 0 → ¬ x = nI 1 → ¬ x = nI 6 → z = -1) → tp_W shM m_Mo_count 0 [some (.ref 0), some (.int x), none, none, none] [] μ (tp_Qi fun r' μ' => z = r' ∧ Rel TC TM τ μ') := by
    intro z hx z0 z1 z6 z9
    refine bk_Mo_count_0 x (sp_know (RG_thrown hG) (fun ν hN hTn => sp_Mbits hTn.1 _ _ ?_))
    have big : (¬ x = 0 → (¬ x = (nI 1) → (¬ x = (nI 2) → (¬ x = (nI 3) → (¬ x = (nI 4) → (¬ x = (nI 5) → (¬ x = (nI 6) → z = (-1 : Int32) ∧ Rel TC TM τ ν) ∧ (x = (nI 6) → z = ek g 8 ∧ Rel TC TM τ ν)) ∧ (x = (nI 5) → z = (ν.1 0 25) ∧ Rel TC TM τ ν)) ∧ (x = (nI 4) → tp_W shM m_Mo_entries 0 [some (.ref 0), none, none] [] ν (tp_Qi fun r1 σ1 => z = r1 ∧ Rel TC TM τ σ1))) ∧ (x = (nI 3) → z = (ν.1 0 19) ∧ Rel TC TM τ ν)) ∧ (x = (nI 2) → z = (ν.1 0 16) ∧ Rel TC TM τ ν)) ∧ (x = (nI 1) → z = (ν.1 0 7) ∧ Rel TC TM τ ν)) ∧ (x = 0 → tp_W shM m_Mo_closed 0 [some (.ref 0)] [] ν (tp_Qi fun r2 σ2 => z = r2 ∧ Rel TC TM τ σ2)) := by
      have nx : ∀ j, 2 ≤ j → j ≤ 5 → ¬ x = nI j := by
        intro j h1 h2 e
        subst e
        rcases hx with h | h
        · exact absurd ((nI_ltI (by omega) (by omega)).mp h) (by omega)
        · exact absurd ((nI_ltI (by omega) (by omega)).mp h) (by omega)
      refine ⟨fun y0 => ⟨fun y1 => ⟨fun _ => ⟨fun _ => ⟨fun _ => ⟨fun _ => ⟨fun y6 => ⟨z9 y0 y1 y6, RG_Rel hN⟩, fun y6 => ⟨z6 y6, RG_Rel hN⟩⟩, fun e => absurd e (nx 5 (by decide) (by decide))⟩, fun e => absurd e (nx 4 (by decide) (by decide))⟩, fun e => absurd e (nx 3 (by decide) (by decide))⟩, fun e => absurd e (nx 2 (by decide) (by decide))⟩, fun y1 => ⟨?_, RG_Rel hN⟩⟩, fun y0 => sp_Mclosed hw hN.2.2.2.1 ⟨z0 y0, RG_Rel hN⟩⟩
      rw [z1 y1]
      exact hN.2.2.2.2.1.2.2.1.symm
    refine bk_Mo_count_15 _ _ _ _ ⟨fun _ => ⟨fun _ => big, fun h2 => ⟨fun _ => big, fun h5 => ?_⟩⟩, fun h => absurd (nI_le (by omega) (by omega)) h⟩
    exact absurd (hx.resolve_left h2) h5
  -- where tables are asked
  have inn : ¬ x < nI 2 → ¬ nI 5 < x → bb (bfs g 2200) = false → ∀ z : Int32, (x = nI 2 → z = nI (bn (bfs g 2200))) → (x = nI 3 → z = nI (CL g (bfs g 2200))) → (x = nI 4 → z = nI (sm (ct (bn (bfs g 2200)) (VV g (bfs g 2200))) 108)) → (¬ x = nI 2 → ¬ x = nI 3 → ¬ x = nI 4 → z = nI (pl (PF (bn (bfs g 2200)) (VV g (bfs g 2200))))) → tp_W shM m_Mo_count 0 [some (.ref 0), some (.int x), none, none, none] [] μ (tp_Qi fun r' μ' => z = r' ∧ Rel TC TM τ μ') := by
    intro h2 h5 hb z z2 z3 z4 z5
    have hB := Bk_of hw hb
    have hn := hB.n100
    refine bk_Mo_count_0 x (sp_kn1 hG hb (fun ν hN hO hM => sp_Mbits hO _ _ ?_))
    refine bk_Mo_count_15 _ _ _ _ ⟨fun _ => ⟨fun h => absurd h h2, fun _ => ⟨fun h => absurd h h5, fun _ => ⟨fun _ => ?_, fun h => absurd h n1_0⟩⟩⟩, fun h => absurd (nI_le (by omega) (by omega)) h⟩
    refine ⟨fun _ => ⟨fun _ => ⟨fun y2 => ⟨fun y3 => ⟨fun y4 => ⟨fun y5 => ?_, fun y5 => ⟨?_, RG_Rel hN⟩⟩, fun y4 => sp_Mentries hn hM.1 hM.2.2.2.2.2.2.2.1 ⟨z4 y4, RG_Rel hN⟩⟩, fun y3 => ⟨?_, RG_Rel hN⟩⟩, fun y2 => ⟨?_, RG_Rel hN⟩⟩, fun e => ?_⟩, fun e => ?_⟩
    · exfalso
      rcases nI_ix x 6 (by decide) with ⟨a, b⟩ | ⟨a, b⟩ | ⟨j, hj, e, a, b⟩
      · exact h2 (Int32.lt_trans a (by decide))
      · exact h5 (Int32.lt_of_lt_of_le (by decide) b)
      · have : 2 ≤ j := Nat.le_of_not_lt (fun w => h2 (by rw [e]; exact nI_lt w (by decide)))
        rcases (by omega : j = 2 ∨ j = 3 ∨ j = 4 ∨ j = 5) with w | w | w | w <;> subst w
        · exact y2 e
        · exact y3 e
        · exact y4 e
        · exact y5 e
    · rw [z5 y2 y3 y4]
      exact hM.2.2.2.2.2.2.2.2.2.2.2.symm
    · rw [z3 y3]
      exact hM.2.2.2.2.2.1.2.symm
    · rw [z2 y2]
      exact hM.1.symm
    · rw [e] at h2
      exact absurd (by decide) h2
    · rw [e] at h2
      exact absurd (by decide) h2
  refine ⟨fun y0 => bk_Gr_rules_0 ?_, fun y0 => ⟨fun y1 => bk_Ps_tokens_0 ?_, fun y1 => ⟨fun y6 => sp_emptyKinds hT.1 ?_, fun y6 => bk_Tp_countOfTables_0 x ⟨fun h2 => ?_, fun h2 => ⟨fun h5 => ?_, fun h5 => ?_⟩⟩⟩⟩⟩
  · rw [hG.2.2.1.1]
    exact out _ (Or.inl (by rw [y0]; decide)) (fun _ => rfl) (fun e => by rw [y0] at e; exact absurd e (by decide)) (fun e => by rw [y0] at e; exact absurd e (by decide)) (fun h => absurd y0 h)
  · rw [hG.2.2.2.2.1.2.1]
    exact out _ (Or.inl (by rw [y1]; decide)) (fun e => absurd e y0) (fun _ => rfl) (fun e => by rw [y1] at e; exact absurd e (by decide)) (fun _ h => absurd y1 h)
  · exact out _ (Or.inr (by rw [y6]; decide)) (fun e => absurd e y0) (fun e => absurd e y1) (fun _ => rfl) (fun _ _ h => absurd y6 h)
  · exact out _ (Or.inl h2) (fun e => absurd e y0) (fun e => absurd e y1) (fun e => absurd e y6) (fun _ _ _ => rfl)
  · have h5' : ¬ nI 5 < x := fun z => absurd h5 (Int32.not_le.mpr z)
    refine sp_big hT (fun hb => ⟨fun h => absurd h n1_0, fun _ => ?_⟩) (fun hb hC => ⟨fun _ => ?_, fun h => absurd rfl h⟩)
    · refine bk_Mo_count_0 x (sp_know (RG_thrown hG) (fun ν hN hTn => sp_Mbits hTn.1 _ _ ?_))
      rw [hb]
      exact bk_Mo_count_15 _ _ _ _ ⟨fun _ => ⟨fun h => absurd h h2, fun _ => ⟨fun h => absurd h h5', fun _ => ⟨fun h => absurd rfl h, fun _ => ⟨rfl, RG_Rel hN⟩⟩⟩⟩, fun h => absurd (nI_le (by omega) (by omega)) h⟩
    · have ii := inn h2 h5' hb
      refine ⟨fun y2 => bk_St_size_0 ?_, fun y2 => ⟨fun y3 => bk_Pl_clashes_0 ?_, fun y3 => ⟨fun y4 => bk_Pk_entries_0 ?_, fun y4 => bk_Pk_length_0 ?_⟩⟩⟩
      · rw [hC.1]
        exact ii _ (fun _ => rfl) (fun e => by rw [y2] at e; exact absurd e (by decide)) (fun e => by rw [y2] at e; exact absurd e (by decide)) (fun h => absurd y2 h)
      · rw [hC.2.2.2.1.2.2]
        exact ii _ (fun e => absurd e y2) (fun _ => rfl) (fun e => by rw [y3] at e; exact absurd e (by decide)) (fun _ h => absurd y3 h)
      · rw [hC.2.2.2.2.2.2.2]
        exact ii _ (fun e => absurd e y2) (fun e => absurd e y3) (fun _ => rfl) (fun _ _ h => absurd y4 h)
      · rw [hC.2.2.2.2.2.2.1.2.2]
        exact ii _ (fun e => absurd e y2) (fun e => absurd e y3) (fun e => absurd e y4) (fun _ _ _ => rfl)
  · exact out _ (Or.inr (Int32.not_le.mp h5)) (fun e => absurd e y0) (fun e => absurd e y1) (fun e => absurd e y6) (fun _ _ _ => rfl)
