/-! parse -/
theorem sp_hasRule {g : Gm} {op : Bool} {ok ol : Nat} {os : Nat → Nat} {σ : tp_S} (hw : gW g) (hg : gC g op ok ol os σ) {K : Int32 → tp_S → Prop} (k0 : (∀ r, r < gn g → ¬ gk g r = 0) → K (nI 0) σ) (k1 : ∀ r, r < gn g → gk g r = 0 → K (nI 1) σ) : tp_W shC m_Gr_hasRuleOf 0 [some (.ref 1), some (.int (nI 0)), none] [] σ (tp_Qi K) := by
  have hgn := hw.1
  refine bk_Gr_hasRuleOf_0 _ ?_
  suffices hh : ∀ (m j : Nat), j + m = gn g → (∀ r, r < j → ¬ gk g r = 0) → tp_W shC m_Gr_hasRuleOf 2 [some (.ref 1), some (.int (nI 0)), some (.int (nI j))] [] σ (tp_Qi K) from hh (gn g) 0 (Nat.zero_add _) (fun r h => absurd h (Nat.not_lt_zero r))
  intro m
  induction m with
  | zero =>
    intro j hj hn
    refine bk_Gr_hasRuleOf_2 _ _ ?_
    rw [hg.1]
    exact ⟨fun _ => ⟨bo_0, k0 (fun r hr => hn r (by omega))⟩, fun h => absurd (nI_le (by omega) (by omega)) h⟩
  | succ m ih =>
    intro j hj hn
    have hk := (hw.2 j (by omega)).1
    refine bk_Gr_hasRuleOf_2 _ _ ?_
    rw [hg.1, nI_clamp (by omega), (hg.2.2.1 j (by omega)).1]
    refine ⟨fun h => absurd h (nI_ge (by omega) (by omega)), fun _ => ⟨vp_in_nI (by omega) (by decide), fun hz => ?_, fun hz => ⟨bo_1, k1 j (by omega) (nI_same (by omega) (by omega) hz)⟩⟩⟩
    rw [nI_add]
    refine ih (j + 1) (by omega) (fun r hr => ?_)
    by_cases e : r = j
    · subst e
      exact fun z => hz (by rw [z])
    · exact hn r (by omega)
theorem sp_Mhas {g : Gm} {op : Bool} {ok ol : Nat} {os : Nat → Nat} {μ : tp_S} (hw : gW g) (hg : gM g op ok ol os μ) {x1 : Int32} {K : Int32 → tp_S → Prop} (k1 : (∃ r, r < gn g ∧ gk g r = 0) → tp_W shM m_Mo_know 0 [some (.ref 0)] [] μ (tp_Qi fun r2 σ2 => (¬ r2 = 0 →
          vp_in (σ2.1 0 7) 101 ∧ vp_in (nI 0) 2102 ∧ tp_W shM m_Mo_parse 103 [some (.ref 0), some (.int x1), none, some (.int (nI 0)), none, none] [] (tp_si (tp_si (tp_si (tp_si (tp_si σ2 4 (σ2.1 0 7).toNatClampNeg (nI 0)) 0 28 (nI 0)) 0 27 (nI 0)) 19 (nI 0).toNatClampNeg (nI 0)) 0 30 (nI 1)) (tp_Qi K)) ∧
        (r2 = 0 →
          K (-2 : Int32) σ2))) (k0 : (∀ r, r < gn g → ¬ gk g r = 0) → K (-1) μ) : tp_W shM m_Mo_parse 20 [some (.ref 0), some (.int x1), some (.int (nI 0)), some (.int (nI 0)), none, none] [] μ (tp_Qi K) := by
  have hgn := hw.1
  suffices hh : ∀ (m j f : Nat), j + m = gn g → (f = 0 ∧ (∀ r, r < j → ¬ gk g r = 0)) ∨ (f = 1 ∧ ∃ r, r < j ∧ gk g r = 0) → tp_W shM m_Mo_parse 20 [some (.ref 0), some (.int x1), some (.int (nI f)), some (.int (nI j)), none, none] [] μ (tp_Qi K) from hh (gn g) 0 0 (Nat.zero_add _) (Or.inl ⟨rfl, fun r h => absurd h (Nat.not_lt_zero r)⟩)
  intro m
  induction m with
  | zero =>
    intro j f hj hf
    have ej : j = gn g := by omega
    subst ej
    refine bk_Mo_parse_20 _ _ _ (sp_Mclosed hw hg ⟨fun _ => ⟨fun hx => ?_, fun hx => ?_⟩, fun h => absurd (nI_le (by omega) (by omega)) h⟩)
    · rcases hf with ⟨e, _⟩ | ⟨_, h⟩
      · subst e; exact absurd rfl hx
      · exact k1 h
    · rcases hf with ⟨_, h⟩ | ⟨e, _⟩
      · exact k0 h
      · subst e; exact absurd hx n1_0
  | succ m ih =>
    intro j f hj hf
    have hk := (hw.2 j (by omega)).1
    refine bk_Mo_parse_20 _ _ _ (sp_Mclosed hw hg ⟨fun h => absurd h (nI_ge (by omega) (by omega)), fun _ => ?_⟩)
    rw [nI_add, nI_clamp (by omega), (hg.2.2.1 j (by omega)).1]
    refine ⟨fun hx => ?_, fun hx => ⟨vp_in_nI (by omega) (by decide), fun hz => ?_, fun hz => ?_⟩⟩
    · refine ih (j + 1) 1 (by omega) (Or.inr ⟨rfl, ?_⟩)
      rcases hf with ⟨e, _⟩ | ⟨_, r, h1, h2⟩
      · subst e; exact absurd rfl hx
      · exact ⟨r, by omega, h2⟩
    · refine ih (j + 1) 0 (by omega) (Or.inl ⟨rfl, fun r hr => ?_⟩)
      rcases hf with ⟨_, h⟩ | ⟨e, _⟩
      · by_cases er : r = j
        · subst er
          exact fun z => hz ((nI_z (by omega)).mpr z)
        · exact h r (by omega)
      · subst e; exact absurd hx n1_0
    · exact ih (j + 1) 1 (by omega) (Or.inr ⟨rfl, j, by omega, (nI_z (by omega)).mp hz⟩)
def c0 : Cf := (1, fun _ => 0, 0, 0, fun _ => 0)
theorem c0_OK {g : Gm} {B : Bs} (hB : Bk g B) (tc : Nat) : pOK B tc c0 := by
  have := hB.n1
  exact ⟨Nat.le_refl 1, ⟨rfl, fun i _ => (by show 0 < bn B; omega), fun i hi => absurd (show i + 1 < 1 from hi) (by omega)⟩, Nat.zero_le _⟩
theorem cS_0 {tc : Nat} {τ : tp_S} (h : τ.1 24 4 = nI tc) : cS tc c0 τ (tp_si (tp_si (tp_si (tp_si τ 24 5 (nI 0)) 24 7 (nI 0)) 24 6 (nI 1)) 26 (nI 0).toNatClampNeg (nI 0)) := by
  rw [nI_clamp (by decide)]
  refine ⟨ke_si (ke_si (ke_si (ke_si (ke_rf _ _) (by decide)) (by decide)) (by decide)) (by decide), ?_, ?_, ?_, ?_, fun i hi => ?_, fun i hi => absurd (show i < 0 from hi) (Nat.not_lt_zero i)⟩
  · rw [si_ne (by decide), si_nj (by decide), si_nj (by decide), si_nj (by decide)]; exact h
  · rw [si_ne (by decide), si_nj (by decide), si_nj (by decide), si_at]; rfl
  · rw [si_ne (by decide), si_at]; rfl
  · rw [si_ne (by decide), si_nj (by decide), si_at]; rfl
  · have e : i = 0 := by have : i < 1 := hi; omega
    subst e
    rw [si_at]; rfl
theorem mC_0 {tc : Nat} {tk : Nat → Nat} {ν : tp_S} (htc : tc ≤ 100) (h7 : ν.1 0 7 = nI tc) (h : ∀ i, i < tc → ν.1 4 i = nI (tk i)) : mC tc tk c0 ν (tp_si (tp_si (tp_si (tp_si (tp_si ν 4 (ν.1 0 7).toNatClampNeg (nI 0)) 0 28 (nI 0)) 0 27 (nI 0)) 19 (nI 0).toNatClampNeg (nI 0)) 0 30 (nI 1)) := by
  rw [h7, nI_clamp (by omega), nI_clamp (by decide)]
  refine ⟨kf_s0 (kf_si (kf_s0 (kf_s0 (kf_si (kf_rf _ _ _) (by decide) (by decide)) (by decide)) (by decide)) (by decide) (by decide)) (by decide), fun i hi => ?_, ?_, ?_, ?_, fun i hi => ?_, fun i hi => absurd (show i < 0 from hi) (Nat.not_lt_zero i)⟩
  · rw [si_ne (by decide), si_ne (by decide), si_ne (by decide), si_ne (by decide)]
    unfold tq
    by_cases e : i = tc
    · subst e
      rw [si_at, if_neg (by omega)]
    · rw [si_nj e, if_pos (by omega)]
      exact h i (by omega)
  · rw [si_nj (by decide), si_ne (by decide), si_nj (by decide), si_at]; rfl
  · rw [si_at]; rfl
  · rw [si_nj (by decide), si_ne (by decide), si_at]; rfl
  · have e : i = 0 := by have : i < 1 := hi; omega
    subst e
    rw [si_ne (by decide), si_at]; rfl
theorem RG_run {g : Gm} {op : Bool} {ok ol : Nat} {os : Nat → Nat} {tc : Nat} {tk : Nat → Nat} {τ ν υ ξ : tp_S} (hG : RG g op ok ol os tc tk τ ν) {c : Cf} (hc : cr c ≤ 2000) (hC : cS tc c τ υ) (hM : mC tc tk c ν ξ) : RG g op ok ol os tc tk υ ξ := by
  obtain ⟨h1, h2, h3, h4, h5, h6, h7, h8, h9, h10⟩ := hG
  have fc : fC τ υ := ⟨fun a ha => hC.1.1 a (fun hb => by simp at ha hb; omega), fun a ha => hC.1.2 a (fun hb => by simp at ha hb; omega)⟩
  have fm : fM ν ξ := ⟨fun a ha => hM.1.1 a (fun hb => by simp at ha hb; omega) (fun hb => by simp at ha; omega), fun a ha => hM.1.2 a (fun hb => by simp at ha hb; omega)⟩
  have e7 : υ.1 0 7 = τ.1 0 7 := by rw [hC.1.1 0 (by decide)]
  have e8 : ξ.1 0 8 = ν.1 0 8 := hM.1.2 8 (by decide)
  refine ⟨h1, h2, gC_ke hC.1 (by decide) h3, gM_kf hM.1 (by decide) h4, ⟨h5.1, hC.2.1, (hM.1.2 7 (by decide)).trans h5.2.2.1, fun i hi => ?_⟩, ⟨hC.2.2.1.trans hM.2.2.1.symm, hC.2.2.2.1.trans hM.2.2.2.1.symm, cr c, hc, hC.2.2.2.2.1, hM.2.2.2.2.1, fun k hk => (hC.2.2.2.2.2.2 k hk).trans (hM.2.2.2.2.2.2 k hk).symm⟩, by rw [e7]; exact h7, fun h => FrC_TC g τ υ fc (h8 (by rw [← e7]; exact h)), by rw [e8]; exact h9, fun h => FrM_TM g ν ξ fm (h10 (by rw [← e8]; exact h))⟩
  obtain ⟨a1, a2, a3, _⟩ := h5.2.2.2 i hi
  refine ⟨a1, a2, by rw [hC.1.1 25 (by decide)]; exact a3, ?_⟩
  rw [hM.2.1 i (by omega)]
  unfold tq
  rw [if_pos hi]
theorem ca_parse : lw_case (Rel TC TM) m_Tp_parse m_Mo_parse 1 := by
  intro σ μ vs hvs hR
  obtain ⟨x, rfl⟩ := ls_one hvs
  obtain ⟨g, op, ok, ol, os, tc, tk, hG0⟩ := hR
  have hG : RG g op ok ol os tc tk σ μ := hG0
  have hw := hG.1
  have hT0 := RG_thrown (x := nI 0) hG
  refine bk_Tp_parse_0 x ⟨fun h => bk_Mo_parse_0 x ⟨fun _ => ⟨rfl, RG_Rel hT0⟩, fun h' => absurd h h'⟩, fun h0 => ⟨fun h1 => bk_Mo_parse_0 x ⟨fun h' => absurd h' h0, fun _ => ⟨fun h' => absurd h' (Int32.not_le.mpr h1), fun _ => ⟨rfl, RG_Rel hT0⟩⟩⟩, fun h1 => ?_⟩⟩
  have hx1 : x ≤ nI 1 := Int32.not_lt.mp h1
  obtain ⟨w, hw31, ex⟩ := nI_of h0
  have hw2 : w < 2 := by
    rw [ex] at hx1
    have := (nI_leI hw31 (by omega)).mp hx1
    omega
  subst ex
  refine sp_hasRule hw hG.2.2.1 (fun hno => ⟨fun h => absurd rfl h, fun _ => ?_⟩) (fun r hr hk => ⟨fun _ => ?_, fun h => absurd h n1_0⟩)
  · refine bk_Mo_parse_0 _ ⟨fun h' => absurd h' h0, fun _ => ⟨fun _ => sp_Mhas hw hT0.2.2.2.1 (fun ⟨r, h1, h2⟩ => absurd h2 (hno r h1)) (fun _ => ⟨rfl, RG_Rel hT0⟩), fun h' => absurd hx1 h'⟩⟩
  refine sp_refreshG hG (fun τ hGt hT => sp_big hT (fun hb => ⟨fun h => absurd h n1_0, fun _ => ?_⟩) (fun hb hC => ⟨fun _ => ?_, fun h => absurd rfl h⟩))
  · exact bk_Mo_parse_0 _ ⟨fun h' => absurd h' h0, fun _ => ⟨fun _ => sp_Mhas hw (RG_thrown (x := nI 0) hGt).2.2.2.1 (fun _ => sp_kn0 hGt hb (fun ν hN => ⟨fun h => absurd rfl h, fun _ => ⟨rfl, RG_Rel hN⟩⟩)) (fun hno => absurd hk (hno r hr)), fun h' => absurd hx1 h'⟩⟩
  have hB := Bk_of hw hb
  obtain ⟨t1, t2, t3, t4⟩ := hGt.2.2.2.2.1
  have htk : ∀ i, i < tc → 1 ≤ tk i ∧ tk i < 14 := fun i hi => ⟨(t4 i hi).1, (t4 i hi).2.1⟩
  have hE : eC g (bfs g 2200) tc tk τ := ⟨⟨op, ok, ol, os, hGt.2.2.1⟩, hC, t1, fun i hi => (t4 i hi).2.2.1⟩
  have hrd : cr (rn g (bfs g 2200) (mfx g (bfs g 2200) w) tc tk 2000 c0).2 ≤ 2000 := by
    have := rn_rd (g := g) (B := bfs g 2200) (mf := mfx g (bfs g 2200) w) (tc := tc) (tk := tk) 2000 c0
    have e : cr c0 = 0 := rfl
    omega
  have fin : ∀ υ, cS tc (rn g (bfs g 2200) (mfx g (bfs g 2200) w) tc tk 2000 c0).2 τ υ → tp_W shM m_Mo_parse 0 [some (.ref 0), some (.int (nI w)), none, none, none, none] [] μ (tp_Qi fun r' μ' => nI (rn g (bfs g 2200) (mfx g (bfs g 2200) w) tc tk 2000 c0).1 = r' ∧ Rel TC TM υ μ') := by
    intro υ hυ
    refine bk_Mo_parse_0 _ ⟨fun h' => absurd h' h0, fun _ => ⟨fun _ => sp_Mhas hw (RG_thrown (x := nI 0) hGt).2.2.2.1 (fun _ => sp_kn1 hGt hb (fun ν hN hO hM => ⟨fun _ => ?_, fun h => absurd h n1_0⟩)) (fun hno => absurd hk (hno r hr)), fun h' => absurd hx1 h'⟩⟩
    obtain ⟨_, _, s3, s4⟩ := hN.2.2.2.2.1
    refine ⟨by rw [s3]; exact vp_in_nI (by omega) (by decide), vp_in_nI (by omega) (by decide), ?_⟩
    exact sp_Mrun hw hB t1 ⟨⟨op, ok, ol, os, hN.2.2.2.1⟩, hM⟩ htk hw2 2000 0 c0 _ rfl (c0_OK hB tc) (Nat.le_refl 1) (Nat.le_refl 0) (mC_0 t1 s3 (fun i hi => (s4 i hi).2.2.2)) (fun ξ hξ => ⟨rfl, RG_Rel (RG_run hN hrd hυ hξ)⟩)
  refine ⟨fun hw1 => ?_, fun hw0 => ?_⟩
  · have ew : mfx g (bfs g 2200) w = pm (bn (bfs g 2200)) (VV g (bfs g 2200)) := if_neg (fun z => hw1 (by rw [z]; rfl))
    rw [ew] at fin
    exact bk_Ps_run_18_0 ⟨vp_in_nI (by omega) (by decide), sp_run_18 hw hB hE htk 2000 0 c0 _ rfl (c0_OK hB tc) (Nat.le_refl 1) (Nat.le_refl 0) (cS_0 t2) fin⟩
  · have ew : mfx g (bfs g 2200) w = VV g (bfs g 2200) := if_pos ((nI_z (by omega)).mp hw0)
    rw [ew] at fin
    exact bk_Ps_run_8_0 ⟨vp_in_nI (by omega) (by decide), sp_run_8 hw hB hE htk 2000 0 c0 _ rfl (c0_OK hB tc) (Nat.le_refl 1) (Nat.le_refl 0) (cS_0 t2) fin⟩
theorem Rel_0 : Rel TC TM σ0C σ0M := by
  refine ⟨(0, fun _ => 0, fun _ => 0, fun _ _ => 0), false, 0, 0, fun _ => 0, 0, fun _ => 0, ⟨by decide, fun r hr => absurd hr (Nat.not_lt_zero r)⟩, fun h => (by cases h), ⟨rfl, rfl, fun r hr => absurd hr (Nat.not_lt_zero r), fun h => (by cases h), fun r hr => ⟨0, by decide, ?_⟩, rfl, rfl, rfl⟩, ⟨rfl, rfl, fun r hr => absurd hr (Nat.not_lt_zero r), fun h => (by cases h), rfl, rfl, rfl⟩, ⟨by decide, rfl, rfl, fun i hi => absurd hi (Nat.not_lt_zero i)⟩, ⟨rfl, rfl, 0, by decide, rfl, rfl, fun k hk => absurd hk (Nat.not_lt_zero k)⟩, Or.inr rfl, fun h => absurd h (by decide), Or.inl rfl, fun h => absurd h (by decide)⟩
  show upd (fun _ => 0) 24 1 r = nI 0
  unfold upd
  rw [if_neg (by omega)]
  rfl
theorem hyp_all : lw_Hyp (Rel TC TM) := ⟨ca_begin FrC_TC FrM_TM, ca_put FrC_TC FrM_TM, ca_close FrC_TC FrM_TM, ca_clear FrC_TC FrM_TM, ca_token FrC_TC FrM_TM, ca_drop FrC_TC FrM_TM, ca_count, ca_first, ca_state, ca_ahead, ca_comes, ca_row, ca_place, ca_parse, ca_parsed FrC_TC FrM_TM, ca_reduction FrC_TC FrM_TM, ca_check⟩
