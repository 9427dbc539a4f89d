/-! the calls that ask tables: first, comes, row, place, check -/
theorem sp_big {g : Gm} {τ : tp_S} (hT : TC g τ) {K : Int32 → tp_S → Prop} (k1 : bb (bfs g 2200) = true → K (nI 1) τ) (k0 : bb (bfs g 2200) = false → tC g (bfs g 2200) τ → K (nI 0) τ) : tp_W shC m_St_tooLarge 0 [some (.ref 10)] [] τ (tp_Qi K) := by
  refine bk_St_tooLarge_0 ?_
  rw [hT.2.1]
  refine ⟨bI_o _, ?_⟩
  cases hb : bb (bfs g 2200) with
  | true => exact k1 hb
  | false => exact k0 hb (hT.2.2 hb)
theorem sp_kn1 {g : Gm} {op : Bool} {ok ol : Nat} {os : Nat → Nat} {tc : Nat} {tk : Nat → Nat} {τ μ : tp_S} {x : Int32} (hG : RG g op ok ol os tc tk τ μ) (hb : bb (bfs g 2200) = false) {K : Int32 → tp_S → Prop} (k : ∀ ν, RG g op ok ol os tc tk τ ν → mOK g ν → tM g (bfs g 2200) ν → K (nI 1) ν) : tp_W shM m_Mo_know 0 [some (.ref 0)] [] (tp_si μ 0 0 x) (tp_Qi K) :=
  sp_know (RG_thrown hG) (fun ν hn hT => by
    have := k ν hn hT.1 (hT.2.2 hb)
    rw [hb]; exact this)
theorem sp_kn0 {g : Gm} {op : Bool} {ok ol : Nat} {os : Nat → Nat} {tc : Nat} {tk : Nat → Nat} {τ μ : tp_S} {x : Int32} (hG : RG g op ok ol os tc tk τ μ) (hb : bb (bfs g 2200) = true) {K : Int32 → tp_S → Prop} (k : ∀ ν, RG g op ok ol os tc tk τ ν → K (nI 0) ν) : tp_W shM m_Mo_know 0 [some (.ref 0)] [] (tp_si μ 0 0 x) (tp_Qi K) :=
  sp_know (RG_thrown hG) (fun ν hn _ => by
    have := k ν hn
    rw [hb]; exact this)
theorem sp_isState {n : Nat} (hn : n ≤ 100) {σ : tp_S} (h : σ.1 10 6 = nI n) {K : Int32 → tp_S → Prop} {x : Int32} (k0 : (∀ q, q < n → x ≠ nI q) → K (nI 0) σ) (k1 : ∀ q, q < n → x = nI q → K (nI 1) σ) : tp_W shC m_St_isState 0 [some (.ref 10), some (.int x)] [] σ (tp_Qi K) := by
  refine bk_St_isState_0 x ?_
  rw [h]
  rcases nI_ix x n (by omega) with ⟨a, b⟩ | ⟨a, b⟩ | ⟨j, hj, e, a, b⟩
  · exact ⟨fun _ => ⟨bo_0, k0 (fun j hj e => b ⟨j, hj, e⟩)⟩, fun h => absurd a h⟩
  · refine ⟨fun h => absurd h a, fun _ => ⟨fun _ => ⟨bo_0, k0 (fun j hj e => ?_)⟩, fun h => absurd b h⟩⟩
    rw [e] at b
    exact nI_ge hj (by omega) b
  · exact ⟨fun h => absurd h a, fun _ => ⟨fun h => absurd h b, fun _ => ⟨bo_1, k1 j hj e⟩⟩⟩
theorem sp_isStateM {n : Nat} (hn : n ≤ 100) {μ : tp_S} (h : μ.1 0 16 = nI n) {K : Int32 → tp_S → Prop} {x : Int32} (k0 : (∀ q, q < n → x ≠ nI q) → K (nI 0) μ) (k1 : ∀ q, q < n → x = nI q → K (nI 1) μ) : tp_W shM m_Mo_isState 0 [some (.ref 0), some (.int x)] [] μ (tp_Qi K) := by
  refine bk_Mo_isState_0 x ?_
  rw [h]
  rcases nI_ix x n (by omega) with ⟨a, b⟩ | ⟨a, b⟩ | ⟨j, hj, e, a, b⟩
  · exact ⟨fun _ => ⟨bo_0, k0 (fun j hj e => b ⟨j, hj, e⟩)⟩, fun h => absurd a h⟩
  · refine ⟨fun h => absurd h a, fun _ => ⟨fun _ => ⟨bo_0, k0 (fun j hj e => ?_)⟩, fun h => absurd b h⟩⟩
    rw [e] at b
    exact nI_ge hj (by omega) b
  · exact ⟨fun h => absurd h a, fun _ => ⟨fun h => absurd h b, fun _ => ⟨bo_1, k1 j hj e⟩⟩⟩
theorem nI_same {a b : Nat} (ha : a < 2 ^ 31) (hb : b < 2 ^ 31) (h : nI a = nI b) : a = b := (nI_eq ha hb).mp h
theorem ca_first : lw_case (Rel TC TM) m_Tp_first m_Mo_first 1 := by
  intro σ μ vs hvs hR
  obtain ⟨x, rfl⟩ := ls_one hvs
  refine bk_Tp_first_0 x (sp_refresh hR (fun g op ok ol os tc tk τ hG hT => sp_isKind (fun hx => ⟨fun _ => ?_, fun h => absurd rfl h⟩) (fun j hj e => ⟨fun h => absurd h n1_0, fun _ => bk_Op_ofKind_0 x ?_⟩)))
  · refine bk_Mo_first_0 x (sp_know (RG_thrown hG) (fun ν hn hTn => ?_))
    rcases nI_ix x 8 (by decide) with ⟨a, b⟩ | ⟨a, b⟩ | ⟨j, hj, e, a, b⟩
    · exact ⟨fun _ => ⟨rfl, RG_Rel hn⟩, fun h => absurd a h⟩
    · exact ⟨fun h => absurd h a, fun _ => ⟨fun _ => ⟨rfl, RG_Rel hn⟩, fun h => absurd b h⟩⟩
    · exact absurd e (hx j hj)
  · subst e
    refine ⟨vp_in_nI (by omega) (by decide), bk_Mo_first_0 _ (sp_know (RG_thrown hG) (fun ν hn hTn => ?_))⟩
    refine ⟨fun h => absurd h (nI_pos (by omega)), fun _ => ⟨fun h => absurd h (nI_ge hj (by decide)), fun _ => ⟨vp_in_nI (by omega) (by decide), ?_, RG_Rel hn⟩⟩⟩
    rw [nI_clamp (by omega)]
    refine b_ext (fun i hi => ?_)
    rw [b_and, b_all hi]
    have h1 := hT.1 j i hj hi
    have h2 := hTn.1.2 j i hj hi
    unfold oS at h1
    cases e1 : bt (τ.1 6 j) i <;> cases e2 : bt (ν.1 6 j) i <;> by_cases e3 : i < 14
    all_goals simp only [e1, e2, e3] at h1 h2 ⊢
    all_goals simp at h1 h2 ⊢
    · exact absurd h2 (h1 (by omega))
    · exact absurd h1.2 h2
theorem ca_comes : lw_case (Rel TC TM) m_Tp_comes m_Mo_comes 2 := by
  intro σ μ vs hvs hR
  obtain ⟨x, y, rfl⟩ := ls_two hvs
  refine bk_Tp_comes_0 x y (sp_refresh hR (fun g op ok ol os tc tk τ hG hT => sp_big hT (fun hb => ⟨fun h => absurd h n1_0, fun _ => bk_Mo_comes_0 x y (sp_kn0 hG hb (fun ν hn => ⟨fun h => absurd rfl h, fun _ => ⟨rfl, RG_Rel hn⟩⟩))⟩) (fun hb hC => ⟨fun _ => ?_, fun h => absurd rfl h⟩)))
  have hB := Bk_of hG.1 hb
  have hn := hB.n100
  refine sp_isState hn hC.1 (fun hx => ⟨fun _ => ?_, fun h => absurd rfl h⟩) (fun q hq e => ⟨fun h => absurd h n1_0, fun _ => sp_isToken (fun hy => ⟨fun _ => ?_, fun h => absurd rfl h⟩) (fun t ht e2 => ⟨fun h => absurd h n1_0, fun _ => ?_⟩)⟩)
  · exact bk_Mo_comes_0 x y (sp_kn1 hG hb (fun ν hN _ hM => ⟨fun _ => sp_isStateM hn hM.1 (fun _ => ⟨fun _ => ⟨rfl, RG_Rel hN⟩, fun h => absurd rfl h⟩) (fun q hq e => absurd e (hx q hq)), fun h => absurd h n1_0⟩))
  · refine bk_Mo_comes_0 x y (sp_kn1 hG hb (fun ν hN _ hM => ⟨fun _ => sp_isStateM hn hM.1 (fun hx => absurd e (hx q hq)) (fun _ _ _ => ⟨fun h => absurd h n1_0, fun _ => ?_⟩), fun h => absurd h n1_0⟩))
    rcases nI_ix y 14 (by decide) with ⟨a, b⟩ | ⟨a, b⟩ | ⟨j, hj, e, a, b⟩
    · exact ⟨fun _ => ⟨rfl, RG_Rel hN⟩, fun h => absurd a h⟩
    · exact ⟨fun h => absurd h a, fun _ => ⟨fun _ => ⟨rfl, RG_Rel hN⟩, fun h => absurd b h⟩⟩
    · exact absurd e (hy j hj)
  · subst e e2
    refine sp_moveV (VV_B hG.1 hB) hC.2.2.2.2.1 hq ht (bk_Mo_comes_0 _ _ (sp_kn1 hG hb (fun ν hN _ hM => ⟨fun _ => sp_isStateM hn hM.1 (fun hx => absurd rfl (hx q hq)) (fun _ _ _ => ⟨fun h => absurd h n1_0, fun _ => ⟨fun h => absurd h (nI_pos (by omega)), fun _ => ⟨fun h => absurd h (nI_ge ht (by decide)), fun _ => ?_⟩⟩⟩), fun h => absurd h n1_0⟩)))
    rw [pk_mul]
    simp only [nI_add]
    refine ⟨vp_in_nI (by omega) (by decide), ?_, RG_Rel hN⟩
    rw [nI_clamp (by omega)]
    exact (hM.2.2.2.2.2.2.1.2.1 q t hq ht).symm
theorem sp_isKindRow {σ : tp_S} {K : Int32 → tp_S → Prop} {x : Int32} (k0 : (∀ j, j < 8 → x ≠ nI (100 + j)) → K (nI 0) σ) (k1 : ∀ j, j < 8 → x = nI (100 + j) → K (nI 1) σ) : tp_W shC m_Tp_isKindRow 0 [some (.int x)] [] σ (tp_Qi K) := by
  refine bk_Tp_isKindRow_0 x ?_
  rcases nI_ix x 108 (by decide) with ⟨a, b⟩ | ⟨a, b⟩ | ⟨j, hj, e, a, b⟩
  · refine ⟨fun _ => ⟨bo_0, k0 (fun j hj e => b ⟨100 + j, by omega, e⟩)⟩, fun h => ⟨fun _ => ⟨bo_0, k0 (fun j hj e => b ⟨100 + j, by omega, e⟩)⟩, fun h2 => ?_⟩⟩
    exact absurd (Int32.lt_of_lt_of_le a (by decide : (0 : Int32) ≤ nI 100)) h
  · have nn : ∀ j, j < 8 → x ≠ nI (100 + j) := fun j hj e => by
      rw [e] at b
      exact nI_ge (by omega) (by decide) b
    exact ⟨fun _ => ⟨bo_0, k0 nn⟩, fun _ => ⟨fun _ => ⟨bo_0, k0 nn⟩, fun h => absurd b h⟩⟩
  · subst e
    refine ⟨fun h => ⟨bo_0, k0 (fun i hi e => ?_)⟩, fun h => ⟨fun h2 => absurd h2 b, fun _ => ⟨bo_1, ?_⟩⟩⟩
    · have := nI_same (by omega) (by omega) e
      have := (nI_ltI (by omega) (by omega)).mp h
      omega
    · have h3 : ¬ j < 100 := fun z => h ((nI_ltI (by omega) (by omega)).mpr z)
      exact k1 (j - 100) (by omega) (by rw [show 100 + (j - 100) = j by omega])
theorem sp_isRowX {n : Nat} (hn : n ≤ 100) {μ : tp_S} (h : μ.1 0 16 = nI n) {x : Int32} {K : Int32 → tp_S → Prop} (k1 : ∀ row, rOk n row → x = nI row → K (nI 1) μ) (k0 : (∀ row, rOk n row → x ≠ nI row) → K (nI 0) μ) : tp_W shM m_Mo_isRow 0 [some (.ref 0), some (.int x)] [] μ (tp_Qi K) := by
  rcases nI_ix x 108 (by decide) with ⟨a, b⟩ | ⟨a, b⟩ | ⟨j, hj, e, a, b⟩
  · have hk : K (nI 0) μ := k0 (fun row hr e => b ⟨row, rOk_lt hn hr, e⟩)
    refine bk_Mo_isRow_0 x ⟨fun _ => ⟨fun _ => ⟨bo_0, hk⟩, fun h => ?_⟩, fun h => absurd a h⟩
    exact absurd (Int32.lt_of_lt_of_le a (by decide : (0 : Int32) ≤ nI 100)) h
  · have hk : K (nI 0) μ := k0 (fun row hr e => by
      rw [e] at b
      exact nI_ge (rOk_lt hn hr) (by decide) b)
    refine bk_Mo_isRow_0 x ⟨fun h => absurd h a, fun _ => ⟨fun hl => ?_, fun _ => ⟨fun _ => ⟨bo_0, hk⟩, fun _ => ⟨fun _ => ⟨bo_0, hk⟩, fun h => absurd b h⟩⟩⟩⟩
    rw [h] at hl
    have h1 := Int32.lt_of_le_of_lt b hl
    have := (nI_ltI (by omega) (by omega)).mp h1
    omega
  · subst e
    exact sp_isRow hn h hj (fun hr => k1 j hr rfl) (fun hr => k0 (fun row hr' e => hr (by
      have := nI_same (by omega) (by have := rOk_lt hn hr'; omega) e
      rw [this]; exact hr')))
theorem ca_row : lw_case (Rel TC TM) m_Tp_row m_Mo_row 2 := by
  intro σ μ vs hvs hR
  obtain ⟨x, y, rfl⟩ := ls_two hvs
  refine bk_Tp_row_0 x y (sp_refresh hR (fun g op ok ol os tc tk τ hG hT => sp_big hT (fun hb => ⟨fun h => absurd h n1_0, fun _ => bk_Mo_row_0 x y (sp_kn0 hG hb (fun ν hn => ⟨fun h => absurd rfl h, fun _ => ⟨rfl, RG_Rel hn⟩⟩))⟩) (fun hb hC => ⟨fun _ => ?_, fun h => absurd rfl h⟩)))
  have hB := Bk_of hG.1 hb
  have hn := hB.n100
  -- a row that is one
  have one : ∀ row, rOk (bn (bfs g 2200)) row → x = nI row → ∀ (z : Int32), (y = nI 0 → z = τ.1 19 row) → (¬ y = nI 0 → y = nI 1 → z = τ.1 20 row) → (¬ y = nI 0 → ¬ y = nI 1 → y = nI 2 → z = τ.1 21 row) → (¬ y = nI 0 → ¬ y = nI 1 → ¬ y = nI 2 → z = -1) → tp_W shM m_Mo_row 0 [some (.ref 0), some (.int x), some (.int y)] [] μ (tp_Qi fun r' μ' => z = r' ∧ Rel TC TM τ μ') := by
    intro row hr e z z0 z1 z2 z3
    subst e
    have hr8 := rOk_lt hn hr
    obtain ⟨a1, a2⟩ := hC.2.2.2.2.2.1 row hr8
    have a3 := hC.2.2.2.2.2.2.1.2.1 row hr8
    refine bk_Mo_row_0 _ y (sp_kn1 hG hb (fun ν hN _ hM => ⟨fun _ => sp_isRowX hn hM.1 (fun _ _ _ => ⟨fun _ => ?_, fun h => absurd h n1_0⟩) (fun hx => absurd rfl (hx row hr)), fun h => absurd h n1_0⟩))
    obtain ⟨c1, c2⟩ := hM.2.2.2.2.2.2.2.1 row hr
    have c3 := hM.2.2.2.2.2.2.2.2.2.2.1 row hr
    rw [nI_clamp (by omega)]
    refine ⟨fun y0 => ⟨fun y1 => ⟨fun y2 => ⟨z3 y0 y1 y2, RG_Rel hN⟩, fun y2 => ⟨vp_in_nI (by omega) (by decide), ?_, RG_Rel hN⟩⟩, fun y1 => ⟨vp_in_nI (by omega) (by decide), ?_, RG_Rel hN⟩⟩, fun y0 => ⟨vp_in_nI (by omega) (by decide), ?_, RG_Rel hN⟩⟩
    · rw [z2 y0 y1 y2, a3, c3]
    · rw [z1 y0 y1, a2, c2]
    · rw [z0 y0, a1, c1]
  -- what a row answers
  have cls : ∀ row, rOk (bn (bfs g 2200)) row → x = nI row → (y = nI 0 → tp_W shC m_Pk_defaultOf 0 [some (.ref 18), some (.int x)] [] τ (tp_Qi fun r σ' => tp_W shM m_Mo_row 0 [some (.ref 0), some (.int x), some (.int y)] [] μ (tp_Qi fun r' μ' => r = r' ∧ Rel TC TM σ' μ'))) ∧ (¬ y = nI 0 → (y = nI 1 → tp_W shC m_Pk_entriesOf 0 [some (.ref 18), some (.int x)] [] τ (tp_Qi fun r σ' => tp_W shM m_Mo_row 0 [some (.ref 0), some (.int x), some (.int y)] [] μ (tp_Qi fun r' μ' => r = r' ∧ Rel TC TM σ' μ'))) ∧ (¬ y = nI 1 → (y = nI 2 → tp_W shC m_Pk_baseOf 0 [some (.ref 18), some (.int x)] [] τ (tp_Qi fun r σ' => tp_W shM m_Mo_row 0 [some (.ref 0), some (.int x), some (.int y)] [] μ (tp_Qi fun r' μ' => r = r' ∧ Rel TC TM σ' μ'))) ∧ (¬ y = nI 2 → tp_W shM m_Mo_row 0 [some (.ref 0), some (.int x), some (.int y)] [] μ (tp_Qi fun r' μ' => (-1 : Int32) = r' ∧ Rel TC TM τ μ')))) := by
    intro row hr e
    have hr8 := rOk_lt hn hr
    have o := one row hr e
    have ec : x.toNatClampNeg = row := by rw [e]; exact nI_clamp (by omega)
    have ev : vp_in x 108 := by rw [e]; exact vp_in_nI (by omega) (by decide)
    refine ⟨fun y0 => bk_Pk_defaultOf_0 x ⟨ev, ?_⟩, fun y0 => ⟨fun y1 => bk_Pk_entriesOf_0 x ⟨ev, ?_⟩, fun y1 => ⟨fun y2 => bk_Pk_baseOf_0 x ⟨ev, ?_⟩, fun y2 => ?_⟩⟩⟩
    · rw [ec]
      exact o _ (fun _ => rfl) (fun h => absurd y0 h) (fun h => absurd y0 h) (fun h => absurd y0 h)
    · rw [ec]
      exact o _ (fun h => absurd h y0) (fun _ _ => rfl) (fun _ h => absurd y1 h) (fun _ h => absurd y1 h)
    · rw [ec]
      exact o _ (fun h => absurd h y0) (fun _ h => absurd h y1) (fun _ _ _ => rfl) (fun _ _ h => absurd y2 h)
    · exact o _ (fun h => absurd h y0) (fun _ h => absurd h y1) (fun _ _ h => absurd h y2) (fun _ _ _ => rfl)
  refine sp_isState hn hC.1 (fun hx => ⟨fun h => absurd rfl h, fun _ => sp_isKindRow (fun hx2 => ⟨fun h => absurd rfl h, fun _ => ?_⟩) (fun j hj e => ⟨fun _ => cls (100 + j) (Or.inr ⟨by omega, by omega⟩) e, fun h => absurd h n1_0⟩)⟩) (fun q hq e => ⟨fun _ => cls q (Or.inl hq) e, fun h => absurd h n1_0⟩)
  refine bk_Mo_row_0 x y (sp_kn1 hG hb (fun ν hN _ hM => ⟨fun _ => sp_isRowX hn hM.1 (fun row hr e => ?_) (fun _ => ⟨fun h => absurd rfl h, fun _ => ⟨rfl, RG_Rel hN⟩⟩), fun h => absurd h n1_0⟩))
  rcases hr with hr | hr
  · exact absurd e (hx row hr)
  · exact absurd (show x = nI (100 + (row - 100)) by rw [show 100 + (row - 100) = row by omega]; exact e) (hx2 (row - 100) (by omega))
