theorem sp_Mitems {μ : tp_S} {q : Nat} (hq : q < 100) {S : Nat → Prop} (h : hsM μ 7 q S) (x2 : Int32) {K : Int32 → tp_S → Prop} (k : tp_W shM m_Mo_state 30 [some (.ref 0), some (.int (nI q)), some (.int x2), some (.int (nI (sm (fun j => bN (mS S j)) 200))), some (.int (nI 200))] [] μ (tp_Qi K)) : tp_W shM m_Mo_state 30 [some (.ref 0), some (.int (nI q)), some (.int x2), some (.int (nI 0)), some (.int (nI 0))] [] μ (tp_Qi K) := by
  suffices hh : ∀ (m j : Nat), j + m = 200 → tp_W shM m_Mo_state 30 [some (.ref 0), some (.int (nI q)), some (.int x2), some (.int (nI (sm (fun j => bN (mS S j)) j))), some (.int (nI j))] [] μ (tp_Qi K) from hh 200 0 rfl
  intro m
  induction m with
  | zero =>
    intro j hj
    rw [show j = 200 by omega]
    exact k
  | succ m ih =>
    intro j hj
    refine bk_Mo_state_30 _ _ _ _ ⟨fun h => absurd h (nI_ge (by omega) (by decide)), fun _ => ?_⟩
    rw [pk_mul]
    simp only [nI_add]
    refine ⟨vp_in_nI (by omega) (by decide), ?_⟩
    rw [nI_clamp (by omega), h j (by omega)]
    have ih' := ih (j + 1) (by omega)
    refine ⟨fun hz => ?_, fun hz => ?_⟩
    · have e : sm (fun j => bN (mS S j)) (j + 1) = sm (fun j => bN (mS S j)) j := by
        show sm (fun j => bN (mS S j)) j + bN (mS S j) = _
        rw [bN_f (bI_z0.mp hz)]; rfl
      rw [e] at ih'
      exact ih'
    · have e : sm (fun j => bN (mS S j)) (j + 1) = sm (fun j => bN (mS S j)) j + 1 := by
        show sm (fun j => bN (mS S j)) j + bN (mS S j) = _
        rw [bN_t (bI_n0.mp hz)]
      rw [e] at ih'
      exact ih'
theorem ca_state : lw_case (Rel TC TM) m_Tp_state m_Mo_state 2 := by
  intro σ μ vs hvs hR
  obtain ⟨x, y, rfl⟩ := ls_two hvs
  refine bk_Tp_state_0 x y (sp_refresh hR (fun g op ok ol os tc tk τ hG hT => sp_big hT (fun hb => ⟨fun h => absurd h n1_0, fun _ => bk_Mo_state_0 x y (sp_kn0 hG hb (fun ν hn => ⟨fun h => absurd rfl h, fun _ => ⟨rfl, RG_Rel hn⟩⟩))⟩) (fun hb hC => ⟨fun _ => ?_, fun h => absurd rfl h⟩)))
  have hw := hG.1
  have hB := Bk_of hw hb
  have hn := hB.n100
  refine sp_isState hn hC.1 (fun hx => ⟨fun h => absurd rfl h, fun _ => ?_⟩) (fun q hq e => ⟨fun _ => ?_, fun h => absurd h n1_0⟩)
  · exact bk_Mo_state_0 x y (sp_kn1 hG hb (fun ν hN _ hM => ⟨fun _ => sp_isStateM hn hM.1 (fun _ => ⟨fun h => absurd rfl h, fun _ => ⟨rfl, RG_Rel hN⟩⟩) (fun q hq e => absurd e (hx q hq)), fun h => absurd h n1_0⟩))
  subst e
  have hS := hC.2.1 q hq
  -- the reference
  have ref : ∀ z : Int32, (y = 0 → z = nI (sm (fun i => bN (bS (bfs g 2200) q i)) 192)) → (¬ y = 0 → y < nI 100 ∨ nI 128 ≤ y → z = -1) → (∀ j, 100 ≤ j → j < 128 → y = nI j → z = ldv (bL (bfs g 2200) q) (j - 100)) → tp_W shM m_Mo_state 0 [some (.ref 0), some (.int (nI q)), some (.int y), none, none] [] μ (tp_Qi fun r' μ' => z = r' ∧ Rel TC TM τ μ') := by
    intro z z0 z1 z2
    refine bk_Mo_state_0 _ y (sp_kn1 hG hb (fun ν hN _ hM => ⟨fun _ => sp_isStateM hn hM.1 (fun hx => absurd rfl (hx q hq)) (fun _ _ _ => ⟨fun _ => ?_, fun h => absurd h n1_0⟩), fun h => absurd h n1_0⟩))
    refine sp_Mitems (by omega) (hM.2.1 q hq) y (bk_Mo_state_30 _ _ _ _ ⟨fun _ => ⟨fun y0 => ⟨fun h1 => ⟨z1 y0 (Or.inl h1), RG_Rel hN⟩, fun h1 => ⟨fun h2 => ⟨z1 y0 (Or.inr h2), RG_Rel hN⟩, fun h2 => ?_⟩⟩, fun y0 => ⟨?_, RG_Rel hN⟩⟩, fun h => absurd (nI_le (by omega) (by omega)) h⟩)
    · rcases nI_ix y 128 (by decide) with ⟨a, b⟩ | ⟨a, b⟩ | ⟨j, hj, e, a, b⟩
      · exact absurd (Int32.lt_trans a (by decide)) h1
      · exact absurd b h2
      · have hj1 : 100 ≤ j := Nat.le_of_not_lt (fun w => h1 (by rw [e]; exact nI_lt w (by decide)))
        have ez := z2 j hj1 hj e
        subst e
        rw [pk_mul]
        simp only [nI_add]
        rw [pk_sub (by omega)]
        refine ⟨vp_in_nI (by omega) (by decide), ?_, RG_Rel hN⟩
        rw [nI_clamp (by omega), show 28 * q + j - 100 = 28 * q + (j - 100) by omega, hM.2.2.1 q hq (j - 100) (by omega)]
        exact ez
    · rw [z0 y0, sm_mS (fun i hi => vI_lt hw (hB.v q hq i hi))]
  refine ⟨fun y0 => ⟨fun h1 => ?_, fun h1 => ⟨fun h => absurd rfl h, fun _ => ?_⟩⟩, fun y0 => sp_itemsOf (by omega) hS ?_⟩
  · rcases nI_ix y 128 (by decide) with ⟨a, b⟩ | ⟨a, b⟩ | ⟨j, hj, e, a, b⟩
    · exact absurd h1 (Int32.not_le.mpr (Int32.lt_trans a (by decide)))
    · obtain ⟨j, hj, e⟩ := nI_of a
      subst e
      have hj1 : 128 ≤ j := (nI_leI (by omega) hj).mp b
      rw [pk_sub (by omega)]
      refine sp_columnOf (fun i hi e => ?_) (fun i hi e => ?_) (fun _ _ => ⟨fun h => absurd rfl h, fun _ => ?_⟩)
      · have := nI_same (by omega) (by omega) e
        omega
      · have := nI_same (by omega) (by omega) e
        omega
      · exact ref _ (fun e => absurd e y0) (fun _ _ => rfl) (fun i h1 h2 e => by
          have := nI_same (by omega) (by omega) e
          omega)
    · subst e
      have hj1 : 100 ≤ j := (nI_leI (by omega) (by omega)).mp h1
      have nr : ¬ (nI j < nI 100 ∨ nI 128 ≤ nI j) := fun w => w.elim (fun w => absurd ((nI_ltI (by omega) (by omega)).mp w) (by omega)) (fun w => absurd ((nI_leI (by omega) (by omega)).mp w) (by omega))
      rw [pk_sub (by omega)]
      refine sp_columnOf (fun i hi e => ⟨fun _ => sp_leadP hw hB hC.2.2.2.1 hq (by omega) ?_, fun h => absurd h (nI_neg1 (by omega))⟩) (fun i hi e => ⟨fun _ => sp_leadP hw hB hC.2.2.2.1 hq (by omega) ?_, fun h => absurd h (nI_neg1 (by omega))⟩) (fun n1 n2 => ⟨fun h => absurd rfl h, fun _ => ?_⟩)
      · have ei := nI_same (by omega) (by omega) e
        refine ref _ (fun e => absurd e y0) (fun _ w => absurd w nr) (fun j' h1 h2 e' => ?_)
        have := nI_same (by omega) (by omega) e'
        subst this
        rw [ei]
        unfold ldv
        rw [if_pos hi]
      · have ei := nI_same (by omega) (by omega) e
        refine ref _ (fun e => absurd e y0) (fun _ w => absurd w nr) (fun j' h1 h2 e' => ?_)
        have := nI_same (by omega) (by omega) e'
        subst this
        rw [ei]
        unfold ldv
        rw [if_neg (by omega), if_neg (by omega), show 20 + i - 6 = 14 + i by omega]
      · refine ref _ (fun e => absurd e y0) (fun _ w => absurd w nr) (fun j' h1 h2 e' => ?_)
        have := nI_same (by omega) (by omega) e'
        subst this
        unfold ldv
        have a1 : ¬ j - 100 < 14 := fun w => n1 _ w rfl
        have a2 : j - 100 < 20 := Nat.lt_of_not_le (fun w => n2 (j - 100 - 20) (by omega) (by rw [show 20 + (j - 100 - 20) = j - 100 by omega]))
        rw [if_neg a1, if_pos a2]
  · refine ref _ (fun e => absurd e y0) (fun _ _ => rfl) (fun j a1 a2 e => ?_)
    rw [e] at h1
    exact absurd (nI_le a1 (by omega)) h1
  · exact ref _ (fun _ => rfl) (fun h => absurd y0 h) (fun j a1 a2 e => by
      rw [e] at y0
      exact absurd ((nI_z (by omega)).mp y0) (by omega))
theorem ca_ahead : lw_case (Rel TC TM) m_Tp_ahead m_Mo_ahead 3 := by
  intro σ μ vs hvs hR
  obtain ⟨x, y, z, rfl⟩ := ls_three hvs
  refine bk_Tp_ahead_0 x y z (sp_refresh hR (fun g op ok ol os tc tk τ hG hT => sp_big hT (fun hb => ⟨fun h => absurd h n1_0, fun _ => bk_Mo_ahead_0 x y z (sp_kn0 hG hb (fun ν hn => ⟨fun h => absurd rfl h, fun _ => ⟨rfl, RG_Rel hn⟩⟩))⟩) (fun hb hC => ⟨fun _ => ?_, fun h => absurd rfl h⟩)))
  have hw := hG.1
  have hB := Bk_of hw hb
  have hn := hB.n100
  have hgn := hw.1
  -- the reference says no
  have no : (∀ q r p, q < bn (bfs g 2200) → (r < gn g ∨ r = 24) → p ≤ 6 → x = nI q → y = nI r → z = nI p → ¬ bS (bfs g 2200) q (7 * r + p)) → tp_W shM m_Mo_ahead 0 [some (.ref 0), some (.int x), some (.int y), some (.int z), none] [] μ (tp_Qi fun r' μ' => (-1 : Int32) = r' ∧ Rel TC TM τ μ') := by
    intro hno
    refine bk_Mo_ahead_0 x y z (sp_kn1 hG hb (fun ν hN _ hM => ⟨fun _ => ?_, fun h => absurd h n1_0⟩))
    have f0 : tp_W shM m_Mo_ahead 58 [some (.ref 0), some (.int x), some (.int y), some (.int z), some (.int (nI 0))] [] ν (tp_Qi fun r' μ' => (-1 : Int32) = r' ∧ Rel TC TM τ μ') := bk_Mo_ahead_58 _ _ _ _ ⟨fun _ => ⟨rfl, RG_Rel hN⟩, fun h => absurd rfl h⟩
    have f1 : ∀ q r p, q < bn (bfs g 2200) → (r < gn g ∨ r = 24) → p ≤ 6 → x = nI q → y = nI r → z = nI p → tp_W shM m_Mo_ahead 58 [some (.ref 0), some (.int x), some (.int y), some (.int z), some (.int (nI 1))] [] ν (tp_Qi fun r' μ' => (-1 : Int32) = r' ∧ Rel TC TM τ μ') := by
      intro q r p hq hr hp ex ey ez
      have hs := hno q r p hq hr hp ex ey ez
      subst ex ey ez
      refine bk_Mo_ahead_58 _ _ _ _ ⟨fun h => absurd h n1_0, fun _ => ?_⟩
      rw [pk_mul, pk_mul]
      simp only [nI_add]
      refine ⟨vp_in_nI (by omega) (by decide), ?_⟩
      rw [nI_clamp (by omega), Nat.add_assoc, hM.2.1 q hq (8 * r + p) (by omega)]
      exact ⟨fun _ => ⟨trivial, RG_Rel hN⟩, fun h => absurd ((mS_rp hp).mp (bI_n0.mp h)) hs⟩
    have f2 : ∀ q r, q < bn (bfs g 2200) → (r < gn g ∨ r = 24) → x = nI q → y = nI r → (z < 0 → tp_W shM m_Mo_ahead 58 [some (.ref 0), some (.int x), some (.int y), some (.int z), some (.int (nI 0))] [] ν (tp_Qi fun r' μ' => (-1 : Int32) = r' ∧ Rel TC TM τ μ')) ∧ (¬ z < 0 → (nI 6 < z → tp_W shM m_Mo_ahead 58 [some (.ref 0), some (.int x), some (.int y), some (.int z), some (.int (nI 0))] [] ν (tp_Qi fun r' μ' => (-1 : Int32) = r' ∧ Rel TC TM τ μ')) ∧ (¬ nI 6 < z → tp_W shM m_Mo_ahead 58 [some (.ref 0), some (.int x), some (.int y), some (.int z), some (.int (nI 1))] [] ν (tp_Qi fun r' μ' => (-1 : Int32) = r' ∧ Rel TC TM τ μ'))) := by
      intro q r hq hr ex ey
      refine ⟨fun _ => f0, fun h0 => ⟨fun _ => f0, fun h6 => ?_⟩⟩
      obtain ⟨p, hp, ez⟩ := nI_of h0
      refine f1 q r p hq hr (Nat.le_of_not_lt (fun w => h6 ?_)) ex ey ez
      rw [ez]
      exact nI_lt w hp
    refine bk_Mo_ahead_15 x y z (sp_isStateM hn hM.1 (fun _ => ⟨fun _ => f0, fun h => absurd rfl h⟩) (fun q hq ex => ⟨fun h => absurd h n1_0, fun _ => ⟨fun h0 => ⟨fun _ => f0, fun h24 => ?_⟩, fun h0 => sp_Mclosed hw hN.2.2.2.1 ?_⟩⟩))
    · rw [h24] at h0
      exact absurd h0 (by decide)
    · refine ⟨fun hlt => ?_, fun hge => ⟨fun _ => f0, fun h24 => f2 q 24 hq (Or.inr rfl) ex h24⟩⟩
      obtain ⟨r, hr, ey⟩ := nI_of h0
      exact f2 q r hq (Or.inl (by rw [ey] at hlt; exact (nI_ltI hr (by omega)).mp hlt)) ex ey
  -- the class's item
  refine bk_Tp_itemOf_0 y z ?_
  refine ⟨fun y0 => ⟨fun _ => no (fun q r p _ hr _ _ ey _ => ?_), fun h => absurd rfl h⟩, fun y0 => ⟨fun y24 => ⟨fun _ => no (fun q r p _ hr _ _ ey _ => ?_), fun h => absurd rfl h⟩, fun y24 => ⟨fun z0 => ⟨fun _ => no (fun q r p _ _ hp _ _ ez => ?_), fun h => absurd rfl h⟩, fun z0 => ⟨fun z7 => ?_, fun z7 => ⟨fun _ => no (fun q r p _ _ hp _ _ ez => ?_), fun h => absurd rfl h⟩⟩⟩⟩⟩
  · rw [ey] at y0
    exact absurd y0 (nI_pos (by omega))
  · rw [ey] at y24
    exact absurd ((nI_ltI (by omega) (by omega)).mp y24) (by omega)
  · rw [ez] at z0
    exact absurd z0 (nI_pos (by omega))
  · obtain ⟨r, hr, ey⟩ := nI_of y0
    obtain ⟨p, hp, ez⟩ := nI_of z0
    subst ey ez
    have hr24 : r ≤ 24 := Nat.le_of_not_lt (fun w => y24 (nI_lt w hr))
    have hp7 : p < 7 := (nI_ltI hp (by omega)).mp z7
    rw [pk_mul]
    simp only [nI_add]
    refine ⟨fun h170 => ⟨fun _ => no (fun q r' p' hq _ _ _ ey ez hs => ?_), fun h => absurd trivial h⟩, fun h170 => ⟨fun h => absurd h (nI_neg1 (by omega)), fun _ => ?_⟩⟩
    · have e1 := nI_same (by omega) (by omega) ey
      have e2 := nI_same (by omega) (by omega) ez
      subst e1 e2
      have := vI_lt hw (hB.v q hq _ hs)
      have := (nI_leI (by omega) (by omega)).mp h170
      omega
    · have h170' : r * 7 + p < 170 := Nat.lt_of_not_le (fun w => h170 (nI_le w (by omega)))
      refine sp_isState hn hC.1 (fun hx => ⟨fun _ => no (fun q r' p' hq _ _ ex _ _ => absurd ex (hx q hq)), fun h => absurd rfl h⟩) (fun q hq ex => ⟨fun h => absurd h n1_0, fun _ => ?_⟩)
      subst ex
      rw [show r * 7 + p = 7 * r + p by omega] at h170' ⊢
      refine sp_holds (by omega) (by omega) ?_
      have hS := hC.2.1 q hq (7 * r + p)
      refine ⟨fun hh => ?_, fun hh => no (fun q' r' p' hq' _ _ ex ey ez hs => ?_)⟩
      · have hs := hS.mpr ⟨by omega, bI_n0.mp hh⟩
        -- a rule that is closed, or the start
        have hrr : r < gn g ∨ r = 24 := by
          obtain ⟨r', p', h1, h2, h3⟩ := hB.v q hq _ hs
          have := (rl_6 hw h1).1
          have : r = r' := by omega
          rw [this]; exact h1
        refine sp_setOf (by omega) h170' (fun m hm => ?_)
        refine bk_Mo_ahead_0 _ _ _ (sp_kn1 hG hb (fun ν hN _ hM => ⟨fun _ => ?_, fun h => absurd h n1_0⟩))
        have f1 : tp_W shM m_Mo_ahead 58 [some (.ref 0), some (.int (nI q)), some (.int (nI r)), some (.int (nI p)), some (.int (nI 1))] [] ν (tp_Qi fun r' μ' => m = r' ∧ Rel TC TM τ μ') := by
          refine bk_Mo_ahead_58 _ _ _ _ ⟨fun h => absurd h n1_0, fun _ => ?_⟩
          rw [pk_mul, pk_mul]
          simp only [nI_add]
          refine ⟨vp_in_nI (by omega) (by decide), ?_⟩
          rw [nI_clamp (by omega), Nat.add_assoc, hM.2.1 q hq (8 * r + p) (by omega)]
          refine ⟨fun h => absurd ((mS_rp (by omega)).mpr hs) (bI_z0.mp h), fun _ => ⟨vp_in_nI (by omega) (by decide), ?_, RG_Rel hN⟩⟩
          refine b_ext (fun i hi => ?_)
          have h1 := hm i hi
          rw [hC.2.2.1 q (7 * r + p) i, ← hM.2.2.2.2.1 q (7 * r + p) i] at h1
          unfold aM at h1
          rw [show (7 * r + p) / 7 = r by omega, show (7 * r + p) % 7 = p by omega] at h1
          have h2 := hM.2.2.2.1 q (8 * r + p) i hq (by omega) hi
          cases e1 : bt m i <;> cases e2 : bt (ν.1 9 (200 * q + (8 * r + p))) i
          · rfl
          · have := h1.mpr ⟨hq, h170', h2 e2, e2⟩
            rw [e1] at this; cases this
          · have := (h1.mp e1).2.2.2
            rw [e2] at this; cases this
          · rfl
        refine bk_Mo_ahead_15 _ _ _ (sp_isStateM hn hM.1 (fun hx => absurd rfl (hx q hq)) (fun _ _ _ => ⟨fun h => absurd h n1_0, fun _ => ⟨fun h => absurd h y0, fun _ => sp_Mclosed hw hN.2.2.2.1 ?_⟩⟩))
        have f2 : ¬ nI 6 < nI p := fun w => absurd ((nI_ltI (by omega) (by omega)).mp w) (by omega)
        refine ⟨fun _ => ⟨fun h => absurd h z0, fun _ => ⟨fun h => absurd h f2, fun _ => f1⟩⟩, fun hge => ⟨fun h24 => ?_, fun _ => ⟨fun h => absurd h z0, fun _ => ⟨fun h => absurd h f2, fun _ => f1⟩⟩⟩⟩
        rcases hrr with w | w
        · exact absurd (nI_lt w (by omega)) hge
        · exact absurd (by rw [w]) h24
      · have e1 := nI_same (by omega) (by omega) ex
        have e2 := nI_same (by omega) (by omega) ey
        have e3 := nI_same (by omega) (by omega) ez
        subst e1 e2 e3
        exact bI_z0.mp hh (hS.mp hs).2
  · rw [ez] at z7
    exact absurd (nI_lt (by omega) (by omega)) z7
