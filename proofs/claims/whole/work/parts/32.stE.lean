/-! the class's search -/
abbrev csS : List Nat := [8, 9, 10, 11, 12, 13, 14]
theorem mkB_ke {g : Gm} {σ τ : tp_S} {cs : List Nat} (hk : ke cs σ τ) (h : 12 ∉ cs) (hm : mkB g σ) : mkB g τ := fun c i hc hi => (ib_ke hk h c i).trans (hm c i hc hi)
theorem brG_ke {g : Gm} {σ τ : tp_S} {cs : List Nat} (hk : ke cs σ τ) (h : 13 ∉ cs) (hm : brG g σ) : brG g τ := fun c i hc hi => (ib_ke hk h c i).trans (hm c i hc hi)
theorem stC_ke {B : Bs} {σ τ : tp_S} {cs : List Nat} (hk : ke cs σ τ) (h9 : 9 ∉ cs) (h10 : 10 ∉ cs) (h11 : 11 ∉ cs) (h : stC B σ) : stC B τ := by
  obtain ⟨a1, a2, a3, a4⟩ := h
  refine ⟨by rw [hk.1 10 h10]; exact a1, by rw [hk.1 10 h10]; exact a2, fun q hq i => ?_, fun q c hq hc => by rw [hk.1 9 h9]; exact a4 q c hq hc⟩
  rw [a3 q hq i, ib_ke hk h11]
theorem sp_leadOn {g : Gm} {σ : tp_S} (hw : gW g) (hmk : mkB g σ) (hbr : brG g σ) {q : Nat} (hst : stC (bfs g (22 * q)) σ) (hb : bb (bfs g (22 * q)) = false) (hq : q < bn (bfs g (22 * q))) {K : tp_S → Prop} (k : ∀ τ, ke [9, 10, 11, 14] σ τ → stC (bfs g (22 * q + 22)) τ → K τ) : tp_W shC m_St_leadOn 0 [some (.ref 10), some (.int (nI q)), none, none] [] σ (tp_Qv K) := by
  have hq100 : q < 100 := by have := (bfs_OK hw (22 * q)).2.1; omega
  refine bk_St_leadOn_0 _ ?_
  suffices h : ∀ (n c : Nat) (τ : tp_S), c + n = 22 → ke [9, 10, 11, 14] σ τ → stC (bfs g (22 * q + c)) τ → q < bn (bfs g (22 * q + c)) → tp_W shC m_St_leadOn 2 [some (.ref 10), some (.int (nI q)), some (.int (nI c)), none] [] τ (tp_Qv K) from h 22 0 σ rfl (ke_rf _ _) hst hq
  intro n
  induction n with
  | zero =>
    intro c τ hc hk hs hqc
    have hc' : c = 22 := by omega
    subst hc'
    exact bk_St_leadOn_2 _ _ ⟨fun _ => k τ hk hs, fun h => absurd (nI_le (by omega) (by omega)) h⟩
  | succ n ih =>
    intro c τ hc hk hs hqc
    have hOK := bfs_OK hw (22 * q + c)
    have hB : bfs g (22 * q + c + 1) = bst g q c (bfs g (22 * q + c)) := by
      show bst g ((22 * q + c) / 22) ((22 * q + c) % 22) _ = _
      rw [show (22 * q + c) / 22 = q by omega, show (22 * q + c) % 22 = c by omega]
    generalize hBe : bfs g (22 * q + c) = B at hs hqc hOK hB
    refine bk_St_leadOn_2 _ _ ⟨fun h => absurd ((nI_leI (by omega) (by omega)).mp h) (by omega), fun _ => ⟨fun h => ?_, fun h => ?_⟩⟩
    · -- too many already
      have hbig : bb B = true := by
        rw [hs.2.1, bI_0] at h
        simpa using h
      have : bfs g (22 * q + 22) = B := by
        have := bfs_big (g := g) (m := 22 * q + c) (by rw [hBe]; exact hbig) (22 - c)
        rw [show 22 * q + c + (22 - c) = 22 * q + 22 by omega, hBe] at this
        exact this
      exact k τ hk (by rw [this]; exact hs)
    · have hbf : bb B = false := by
        rw [hs.2.1, bI_0] at h
        exact h
      refine sp_step hw (mkB_ke hk (by decide) hmk) hq100 (by omega) (hs.2.2.1 q hqc) (fun υ x hku hx hcd => ?_)
      have hks : ke [9, 10, 11, 14] σ υ := ke_tr hk (ke_sub hku (by decide))
      have hsu : stC B υ := stC_ke hku (by decide) (by decide) (by decide) hs
      rw [nI_add]
      refine ⟨fun h0 => ?_, fun h0 => ?_⟩
      · rw [bI_0] at h0
        have hno : ¬ ∃ i, adv g (bS B q) c i := fun z => by rw [hx.mpr z] at h0; cases h0
        have hskip : bst g q c B = B := bst_skip (fun z => hno z.2.2)
        rw [hskip] at hB
        exact ih (c + 1) υ (by omega) hks (by rw [show 22 * q + (c + 1) = 22 * q + c + 1 by omega, hB]; exact hsu) (by rw [show 22 * q + (c + 1) = 22 * q + c + 1 by omega, hB]; exact hqc)
      · have hxt : x = true := by
          rw [bI_0] at h0
          simpa using h0
        have hcond : bb B = false ∧ q < bn B ∧ ∃ i, adv g (bS B q) c i := ⟨hbf, hqc, hx.mp hxt⟩
        refine sp_complete hw (mkB_ke hks (by decide) hmk) (brG_ke hks (by decide) hbr) (fun φ hkf hcf => ?_)
        have hkf' : ke [9, 10, 11, 14] σ φ := ke_tr hks (ke_sub hkf (by decide))
        have hsf : stC B φ := stC_ke hkf (by decide) (by decide) (by decide) hsu
        have hC : ∀ i, cd φ i ↔ Cl g (adv g (bS B q) c) i := by
          intro i
          rw [hcf i]
          have : cd υ = adv g (bS B q) c := by funext j; exact propext (hcd j)
          rw [this]
        -- a lead is written down
        have lead : ∀ (ψ : tp_S) (t : Nat) (B' : Bs), ke [9, 10, 11, 14] σ ψ → t < 100 → (ψ.1 10 6 = nI (bn B') ∧ ψ.1 10 7 = bI (bb B') ∧ (∀ q, q < bn B' → ∀ i, bS B' q i ↔ (i < 192 ∧ ib ψ 11 q i)) ∧ ∀ q c, q < 100 → c < 22 → ψ.1 9 (22 * q + c) = mv (bL B q c)) → bL B' = lup (bL B) q c t → bfs g (22 * q + c + 1) = B' → q < bn B' → tp_W shC m_Pl_addLead 0 [some (.ref 8), some (.int (nI q)), some (.int (nI c)), some (.int (nI t))] [] ψ (tp_Qv fun σ4 => tp_W shC m_St_leadOn 2 [some (.ref 10), some (.int (nI q)), some (.int (nI (c + 1))), none] [] σ4 (tp_Qv K)) := by
          intro ψ t B' hkp ht hp hL hB' hqB
          refine bk_Pl_addLead_0 _ _ _ ?_
          rw [pk_mul, nI_add, nI_add, nI_clamp (by omega)]
          refine ⟨vp_in_nI (by omega) (by decide), ih (c + 1) _ (by omega) (ke_si hkp (by decide)) ?_ (by rw [show 22 * q + (c + 1) = 22 * q + c + 1 by omega, hB']; exact hqB)⟩
          rw [show 22 * q + (c + 1) = 22 * q + c + 1 by omega, hB']
          refine ⟨by rw [si_ne (by decide)]; exact hp.1, by rw [si_ne (by decide)]; exact hp.2.1, fun a ha i => ?_, fun a b ha hb => ?_⟩
          · rw [hp.2.2.1 a ha i]; exact Iff.rfl
          · rw [hL]
            unfold lup
            by_cases e : a = q ∧ b = c
            · rw [if_pos e, e.1, e.2, show 22 * q + c = q * 22 + c by omega, si_at]; rfl
            · rw [if_neg e, si_nj (by omega)]
              exact hp.2.2.2 a b ha hb
        refine sp_number (g := g) hOK hsf hC (fun j hj => ⟨fun _ => ?_, fun z => absurd z (nI_neg1 (by have := (lst_lt hj).1; have := hOK.2.1; omega))⟩) (fun hl hlt ψ hkp hp6 hp7 hpS => ⟨fun _ => ?_, fun z => absurd z (nI_neg1 (by omega))⟩) (fun hl hge => ⟨fun z => absurd rfl z, fun _ => ⟨bo_1, ?_⟩⟩)
        · have hBo := bst_old hcond hj
          rw [hBo] at hB
          exact lead φ j (bn B, bS B, lup (bL B) q c j, false) hkf' (by have := (lst_lt hj).1; have := hOK.2.1; omega) ⟨hsf.1, by rw [hsf.2.1, hbf], hsf.2.2.1, hsf.2.2.2⟩ rfl hB hqc
        · have hBo := bst_new hcond hl hlt
          rw [hBo] at hB
          refine lead ψ (bn B) _ (ke_tr hkf' (ke_sub hkp (by decide))) hlt ⟨hp6, by rw [hp7, hsf.2.1, hbf], fun a ha i => ?_, fun a b ha hb => ?_⟩ rfl hB (by show q < bn B + 1; omega)
          · have ha' : a < bn B + 1 := ha
            show va_up (bS B) (bn B) (Cl g (adv g (bS B q) c)) a i ↔ _
            by_cases e : a = bn B
            · subst e
              rw [va_up_self, ← hC i]
              unfold cd
              constructor
              · rintro ⟨h1, h2⟩; exact ⟨h1, by rw [hpS _ i (by omega) h1, if_pos rfl]; exact h2⟩
              · rintro ⟨h1, h2⟩; exact ⟨h1, by rw [hpS _ i (by omega) h1, if_pos rfl] at h2; exact h2⟩
            · rw [va_up_ne _ _ e, hsf.2.2.1 a (by omega) i]
              constructor
              · rintro ⟨h1, h2⟩; exact ⟨h1, by rw [hpS _ i (by omega) h1, if_neg e]; exact h2⟩
              · rintro ⟨h1, h2⟩; exact ⟨h1, by rw [hpS _ i (by omega) h1, if_neg e] at h2; exact h2⟩
          · rw [hkp.1 9 (by decide)]
            exact hsf.2.2.2 a b ha hb
        · have hBo := bst_big hcond hl hge
          rw [hBo] at hB
          refine ih (c + 1) _ (by omega) (ke_si hkf' (by decide)) ?_ (by rw [show 22 * q + (c + 1) = 22 * q + c + 1 by omega, hB]; exact hqc)
          rw [show 22 * q + (c + 1) = 22 * q + c + 1 by omega, hB]
          exact ⟨by rw [si_nj (by decide)]; exact hsf.1, si_at, hsf.2.2.1, fun a b ha hb => by rw [si_ne (by decide)]; exact hsf.2.2.2 a b ha hb⟩
theorem sp_Sfind {g : Gm} {op : Bool} {ok ol : Nat} {os : Nat → Nat} {σ : tp_S} (hw : gW g) (hg : gC g op ok ol os σ) {K : tp_S → Prop} (k : ∀ τ, ke csS σ τ → stC (bfs g 2200) τ → τ.1 8 1 = nI 0 → K τ) : tp_W shC m_St_find 0 [some (.ref 10), none] [] σ (tp_Qv K) := by
  refine bk_St_find_0 (sp_markItems hw hg (fun τ1 hk1 hmk h13 => sp_bringRules hw (gC_ke hk1 (by decide) hg) h13 (fun τ2 hk2 hbr => bk_Pl_forgetMoves_0 (sp_fillI9 (fun τ3 hk3 hz9 => ⟨bo_0, sp_fillL14 (fun τ4 hk4 hz14 => sp_mark14 (by decide) (fun τ5 hk5 hm5 => ?_))⟩)))))
  have hk25 : ke [8, 9, 10, 14] τ2 τ5 := ke_tr (ke_tr (ke_si (ke_si (ke_si (ke_sub hk3 (by decide)) (by decide)) (by decide)) (by decide)) (ke_sub hk4 (by decide))) (ke_sub hk5 (by decide))
  have hmk5 : mkB g τ5 := mkB_ke (ke_tr (ke_sub hk2 (by decide : ∀ a, a ∈ [13] → a ∈ [8, 9, 10, 13, 14])) (ke_sub hk25 (by decide))) (by decide) hmk
  have hbr5 : brG g τ5 := brG_ke hk25 (by decide) hbr
  have hcd5 : ∀ i, cd τ5 i ↔ i = 168 := by
    intro i
    unfold cd
    constructor
    · rintro ⟨hi, h⟩
      rcases (hm5 0 i hi).mp h with h | h
      · unfold ib at h
        rw [hz14 _ (by omega), lb_0] at h
        cases h
      · exact h.2
    · rintro rfl
      exact ⟨by decide, (hm5 0 168 (by decide)).mpr (Or.inr ⟨rfl, rfl⟩)⟩
  refine sp_complete hw hmk5 hbr5 (fun τ6 hk6 hcf => ?_)
  have hC : ∀ i, cd τ6 i ↔ Cl g (fun i => i = 168) i := by
    intro i
    rw [hcf i]
    have : cd τ5 = fun i => i = 168 := by funext j; exact propext (hcd5 j)
    rw [this]
  have f6 : ∀ a j, a ≠ 14 → τ6.1 a j = τ4.1 a j := fun a j ha => by
    rw [hk6.1 a (by simpa using ha), hk5.1 a (by simpa using ha)]
  have e106 : τ6.1 10 6 = nI 0 := by
    rw [f6 10 6 (by decide), hk4.1 10 (by decide), si_nj (by decide), si_at]
  have e107 : τ6.1 10 7 = nI 0 := by
    rw [f6 10 7 (by decide), hk4.1 10 (by decide), si_at]
  have e81 : τ6.1 8 1 = nI 0 := by
    rw [f6 8 1 (by decide), hk4.1 8 (by decide), si_ne (by decide), si_ne (by decide), si_at]
  have e9 : ∀ j, j < 2200 → τ6.1 9 j = nI 0 := fun j hj => by
    rw [f6 9 j (by decide), hk4.1 9 (by decide), si_ne (by decide), si_ne (by decide), si_ne (by decide)]
    exact hz9 j hj
  have hk06 : ke csS σ τ6 := ke_tr (ke_tr (ke_tr (ke_sub hk1 (by decide)) (ke_sub hk2 (by decide))) (ke_sub hk25 (by decide))) (ke_sub hk6 (by decide))
  have hmk6 : mkB g τ6 := mkB_ke hk6 (by decide) hmk5
  have hbr6 : brG g τ6 := brG_ke hk6 (by decide) hbr5
  -- the first state
  refine bk_St_numberOfCandidate_0 (bk_St_numberOfCandidate_2 _ ?_)
  rw [e106]
  refine ⟨fun _ => ⟨fun _ => ?_, fun h => absurd (by decide : nI 0 < nI 100) h⟩, fun h => absurd (nI_le (Nat.le_refl 0) (by decide)) h⟩
  rw [pk_mul, nI_clamp (by decide), nI_clamp (by decide), nI_add]
  refine ⟨nI_pos (by decide), nI_pos (by decide), nI_pos (by decide), by decide, by decide, ?_⟩
  have hst0 : stC (bfs g (22 * 0)) (tp_si (tp_sL τ6 11 (va_cpy (τ6.2 14) (τ6.2 11) 0 (0 * 3) 3)) 10 6 (nI (0 + 1))) := by
    refine ⟨si_at, by rw [si_nj (by decide)]; exact e107, fun q hq i => ?_, fun q c hq hc => ?_⟩
    · have hq' : q < 1 := hq
      have hq0 : q = 0 := by omega
      subst hq0
      show Cl g (fun i => i = 168) i ↔ _
      rw [← hC i]
      unfold cd ib
      rw [si_2, sL_at]
      constructor
      · rintro ⟨h1, h2⟩
        refine ⟨h1, ?_⟩
        unfold va_cpy
        rw [if_pos (by omega), show 0 + (3 * 0 + i / 64 - 0 * 3) = 3 * 0 + i / 64 by omega]; exact h2
      · rintro ⟨h1, h2⟩
        refine ⟨h1, ?_⟩
        unfold va_cpy at h2
        rw [if_pos (by omega), show 0 + (3 * 0 + i / 64 - 0 * 3) = 3 * 0 + i / 64 by omega] at h2; exact h2
    · show _ = nI 0
      rw [si_ne (by decide)]
      exact e9 _ (by omega)
  have hk0 : ke csS σ (tp_si (tp_sL τ6 11 (va_cpy (τ6.2 14) (τ6.2 11) 0 (0 * 3) 3)) 10 6 (nI (0 + 1))) := by
    refine ke_si ⟨hk06.1, fun a ha => ?_⟩ (by decide)
    show va_up τ6.2 11 _ a = σ.2 a
    rw [va_up_ne _ _ (fun e => ha (by rw [e]; decide))]
    exact hk06.2 a ha
  have hmk0 : mkB g (tp_si (tp_sL τ6 11 (va_cpy (τ6.2 14) (τ6.2 11) 0 (0 * 3) 3)) 10 6 (nI (0 + 1))) := hmk6
  have hbr0 : brG g (tp_si (tp_sL τ6 11 (va_cpy (τ6.2 14) (τ6.2 11) 0 (0 * 3) 3)) 10 6 (nI (0 + 1))) := hbr6
  have h810 : (tp_si (tp_sL τ6 11 (va_cpy (τ6.2 14) (τ6.2 11) 0 (0 * 3) 3)) 10 6 (nI (0 + 1))).1 8 1 = nI 0 := by rw [si_ne (by decide)]; exact e81
  generalize tp_si (tp_sL τ6 11 (va_cpy (τ6.2 14) (τ6.2 11) 0 (0 * 3) 3)) 10 6 (nI (0 + 1)) = τ7 at hst0 hk0 hmk0 hbr0 h810 ⊢
  suffices h : ∀ (n q : Nat) (τ : tp_S), q + n = 100 → ke csS σ τ → mkB g τ → brG g τ → τ.1 8 1 = nI 0 → stC (bfs g (22 * q)) τ → tp_W shC m_St_find 55 [some (.ref 10), some (.int (nI q))] [] τ (tp_Qv K) from h 100 0 τ7 rfl hk0 hmk0 hbr0 h810 hst0
  intro n
  induction n with
  | zero =>
    intro q τ hq hk hm hb h8 hs
    have hq' : q = 100 := by omega
    subst hq'
    exact bk_St_find_55 _ ⟨fun _ => k τ hk hs h8, fun h => absurd (nI_le (by omega) (by omega)) h⟩
  | succ n ih =>
    intro q τ hq hk hm hb h8 hs
    have hOK := bfs_OK hw (22 * q)
    refine bk_St_find_55 _ ⟨fun h => absurd ((nI_leI (by decide) (by omega)).mp h) (by omega), fun _ => ?_⟩
    rw [hs.1, hs.2.1]
    refine ⟨fun h => ?_, fun h => ⟨fun hbig => ?_, fun hbig => ?_⟩⟩
    · have hle := (nI_leI (by have := hOK.2.1; omega) (by omega)).mp h
      have := bfs_end (g := g) (m := 22 * q) (by rw [show 22 * q / 22 = q by omega]; exact hle) (2200 - 22 * q)
      rw [show 22 * q + (2200 - 22 * q) = 2200 by omega] at this
      exact k τ hk (by rw [this]; exact hs) h8
    · rw [bI_0] at hbig
      have := bfs_big (g := g) (m := 22 * q) (by simpa using hbig) (2200 - 22 * q)
      rw [show 22 * q + (2200 - 22 * q) = 2200 by omega] at this
      exact k τ hk (by rw [this]; exact hs) h8
    · rw [bI_0] at hbig
      have hqn : q < bn (bfs g (22 * q)) := by
        rcases Nat.lt_or_ge q (bn (bfs g (22 * q))) with z | z
        · exact z
        · exact absurd (nI_le z (by omega)) h
      refine sp_leadOn hw hm hb hs hbig hqn (fun υ hku hsu => ?_)
      rw [nI_add]
      exact ih (q + 1) υ (by omega) (ke_tr hk (ke_sub hku (by decide))) (mkB_ke hku (by decide) hm) (brG_ke hku (by decide) hb) (by rw [hku.1 8 (by decide)]; exact h8) (by rw [show 22 * (q + 1) = 22 * q + 22 by omega]; exact hsu)
