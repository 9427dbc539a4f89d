/-! rules that come along with a kind -/
def brG (g : Gm) (σ : tp_S) : Prop := ∀ kd i, kd < 8 → i < 192 → (ib σ 13 kd i ↔ ∃ r, r < gn g ∧ Rk g kd (gk g r) ∧ i = 7 * r)
theorem sp_bringAlong {σ : tp_S} {a b : Nat} (ha : a < 8) (hb : b < 8) {K : tp_S → Prop} (k : ∀ τ, ke [13] σ τ → (∀ kd i, kd < 8 → i < 192 → (ib τ 13 kd i ↔ (ib σ 13 kd i ∨ (kd = a ∧ ib σ 13 b i)))) → K τ) : tp_W shC m_St_bringAlong 0 [some (.ref 10), some (.int (nI a)), some (.int (nI b)), none] [] σ (tp_Qv K) := by
  refine bk_St_bringAlong_0 _ _ ?_
  suffices h : ∀ (n w : Nat) (τ : tp_S), w + n = 3 → ke [13] σ τ → (∀ j, τ.2 13 j = if 3 * a ≤ j ∧ j < 3 * a + w then σ.2 13 j ||| σ.2 13 (3 * b + (j - 3 * a)) else σ.2 13 j) → tp_W shC m_St_bringAlong 2 [some (.ref 10), some (.int (nI a)), some (.int (nI b)), some (.int (nI w))] [] τ (tp_Qv K) from
    h 3 0 σ rfl (ke_rf _ _) (fun j => by rw [if_neg (by omega)])
  intro n
  induction n with
  | zero =>
    intro w τ hw hk hv
    refine bk_St_bringAlong_2 _ _ _ ⟨fun _ => k τ hk (fun kd i hkd hi => ?_), fun h => absurd (nI_le (by omega) (by omega)) h⟩
    unfold ib
    rw [hv]
    by_cases e : kd = a
    · subst e
      rw [if_pos (by omega), lb_or, show 3 * b + (3 * kd + i / 64 - 3 * kd) = 3 * b + i / 64 by omega]
      simp
    · rw [if_neg (by omega)]
      simp [e]
  | succ n ih =>
    intro w τ hw hk hv
    refine bk_St_bringAlong_2 _ _ _ ⟨fun h => absurd ((nI_leI (by omega) (by omega)).mp h) (by omega), fun _ => ?_⟩
    rw [pk_mul, pk_mul, nI_add, nI_add, nI_add, nI_clamp (by omega), nI_clamp (by omega)]
    refine ⟨vp_in_nI (by omega) (by decide), vp_in_nI (by omega) (by decide), vp_in_nI (by omega) (by decide), ih (w + 1) _ (by omega) (ke_sl hk (by decide)) (fun j => ?_)⟩
    by_cases e : j = a * 3 + w
    · subst e
      rw [sl_at, if_pos (by omega), hv, hv, if_neg (by omega)]
      by_cases e2 : a = b
      · subst e2
        rw [if_neg (by omega), show 3 * a + (a * 3 + w - 3 * a) = a * 3 + w by omega]
      · rw [if_neg (by omega), show 3 * b + (a * 3 + w - 3 * a) = b * 3 + w by omega]
    · rw [sl_nj e, hv]
      by_cases c : 3 * a ≤ j ∧ j < 3 * a + w
      · rw [if_pos c, if_pos (by omega)]
      · rw [if_neg c, if_neg (by omega)]
theorem sp_bringRules {g : Gm} {op : Bool} {ok ol : Nat} {os : Nat → Nat} {σ : tp_S} (hw : gW g) (hg : gC g op ok ol os σ) (h13 : ∀ kd i, kd < 8 → i < 192 → (ib σ 13 kd i ↔ ∃ r, r < gn g ∧ gk g r = kd ∧ i = 7 * r)) {K : tp_S → Prop} (k : ∀ τ, ke [13] σ τ → brG g τ → K τ) : tp_W shC m_St_bringRules 0 [some (.ref 10), none, none, none] [] σ (tp_Qv K) := by
  have hn24 := hw.1
  -- sound: what is there comes along; and of P passes: all that comes in P steps
  let snd : tp_S → Prop := fun τ => ∀ kd i, kd < 8 → i < 192 → ib τ 13 kd i → ∃ r, r < gn g ∧ Rk g kd (gk g r) ∧ i = 7 * r
  let cmp : Nat → tp_S → Prop := fun P τ => ∀ kd r, kd < 8 → r < gn g → Rp g P kd (gk g r) → ib τ 13 kd (7 * r)
  refine bk_St_bringRules_0 ?_
  suffices h : ∀ (n P : Nat) (τ : tp_S), P + n = 8 → ke [13] σ τ → snd τ → cmp P τ → tp_W shC m_St_bringRules 2 [some (.ref 10), some (.int (nI P)), none, none] [] τ (tp_Qv K) from
    h 8 0 σ rfl (ke_rf _ _) (fun kd i hkd hi h => by
      obtain ⟨r, h1, h2, h3⟩ := (h13 kd i hkd hi).mp h
      exact ⟨r, h1, by rw [h2]; exact Rk_rf g kd, h3⟩) (fun kd r hkd hr h => (h13 kd (7 * r) hkd (by omega)).mpr ⟨r, hr, by have : kd = gk g r := h; exact this.symm, rfl⟩)
  intro n
  induction n with
  | zero =>
    intro P τ hP hk hs hc
    refine bk_St_bringRules_2 _ ⟨fun _ => k τ hk (fun kd i hkd hi => ⟨hs kd i hkd hi, fun ⟨r, h1, h2, h3⟩ => ?_⟩), fun h => absurd (nI_le (by omega) (by omega)) h⟩
    rw [h3]
    have hP8 : P = 8 := by omega
    subst hP8
    exact hc kd r hkd h1 (Rk_8 hw (hw.2 r h1).1 h2)
  | succ n ih =>
    intro P τ hP hk hs hc
    refine bk_St_bringRules_2 _ ⟨fun h => absurd ((nI_leI (by omega) (by omega)).mp h) (by omega), fun _ => ?_⟩
    -- over the rules: those below r have brought theirs
    suffices h : ∀ (m r : Nat) (υ : tp_S), r + m = gn g → ke [13] σ υ → snd υ → (∀ kd i, kd < 8 → i < 192 → ib τ 13 kd i → ib υ 13 kd i) → (∀ r', r' < r → ∀ b, 0 < gl g r' → gs g r' 0 = 14 + b → ∀ r2, r2 < gn g → Rp g P b (gk g r2) → ib υ 13 (gk g r') (7 * r2)) → tp_W shC m_St_bringRules 10 [some (.ref 10), some (.int (nI P)), some (.int (nI r)), none] [] υ (tp_Qv K) from
      h (gn g) 0 τ (Nat.zero_add _) hk hs (fun _ _ _ _ h => h) (fun r' h => absurd h (Nat.not_lt_zero r'))
    intro m
    induction m with
    | zero =>
      intro r υ hr hku hsu hmo hru
      have hgu := gC_ke hku (by decide) hg
      refine bk_St_bringRules_10 _ _ (bk_Gr_rules_0 ?_)
      rw [hgu.1, nI_add]
      refine ⟨fun _ => ih (P + 1) υ (by omega) hku hsu (fun kd r2 hkd hr2 h => ?_), fun h => absurd (nI_le (by omega) (by omega)) h⟩
      rcases h with h | ⟨c, ⟨r', e1, e2, e3, e4⟩, h⟩
      · exact hmo kd _ hkd (by omega) (hc kd r2 hkd hr2 h)
      · rw [← e2]
        exact hru r' (by omega) c e3 e4 r2 hr2 h
    | succ m ihm =>
      intro r υ hr hku hsu hmo hru
      have hgu := gC_ke hku (by decide) hg
      have hrn : r < gn g := by omega
      obtain ⟨w1, w2, w3⟩ := hw.2 r hrn
      obtain ⟨c1, c2, c3, c4⟩ := hgu.2.2.1 r hrn
      refine bk_St_bringRules_10 _ _ (bk_Gr_rules_0 ?_)
      rw [hgu.1]
      refine ⟨fun h => absurd ((nI_leI (by omega) (by omega)).mp h) (by omega), fun _ => bk_Gr_columnAt_0 _ ?_⟩
      rw [pk_mul, nI_clamp (by omega), nI_add, show r * 7 = 7 * r + 0 by omega]
      refine ⟨vp_in_nI (by omega) (by decide), ?_⟩
      have skip : (∀ b, 0 < gl g r → gs g r 0 ≠ 14 + b) → tp_W shC m_St_bringRules 10 [some (.ref 10), some (.int (nI P)), some (.int (nI (r + 1))), none] [] υ (tp_Qv K) := fun hno => ihm (r + 1) υ (by omega) hku hsu hmo (fun r' hr' b h0 h1 => by
        by_cases e : r' = r
        · subst e; exact absurd h1 (hno b h0)
        · exact hru r' (by omega) b h0 h1)
      by_cases h0 : gl g r = 0
      · rw [h0] at c4
        rw [c4]
        exact ⟨fun _ => skip (fun b h => by omega), fun h => absurd (by decide : (-1 : Int32) < nI 14) h⟩
      · have h0' : 0 < gl g r := by omega
        rw [c3 0 h0']
        have h22 := (w3 0 h0').2
        refine ⟨fun h => skip (fun b _ e => ?_), fun h => bk_Gr_kindOf_0 _ ⟨vp_in_nI (by omega) (by decide), ?_⟩⟩
        · have := (nI_ltI (by omega) (by decide)).mp h
          omega
        · have h14 : 14 ≤ gs g r 0 := by
            rcases Nat.lt_or_ge (gs g r 0) 14 with z | z
            · exact absurd ((nI_ltI (by omega) (by decide)).mpr z) h
            · exact z
          rw [nI_clamp (by omega), c1, pk_sub h14]
          have he : edg g (gk g r) (gs g r 0 - 14) := ⟨r, hrn, rfl, h0', by omega⟩
          refine sp_bringAlong w1 (by omega) (fun φ hkf hmf => ihm (r + 1) φ (by omega) (ke_tr hku hkf) (fun kd i hkd hi h => ?_) (fun kd i hkd hi h => (hmf kd i hkd hi).mpr (Or.inl (hmo kd i hkd hi h))) (fun r' hr' b hb0 hb1 r2 hr2 hp => ?_))
          · rcases (hmf kd i hkd hi).mp h with h | ⟨e, h⟩
            · exact hsu kd i hkd hi h
            · obtain ⟨r2, a1, a2, a3⟩ := hsu _ i (by omega) hi h
              exact ⟨r2, a1, by rw [e]; exact Rk_tr (Rk_st (Rk_rf _ _) he) a2, a3⟩
          · have wr' := hw.2 r' (by omega)
            refine (hmf _ _ wr'.1 (by omega)).mpr ?_
            by_cases e : r' = r
            · subst e
              refine Or.inr ⟨rfl, ?_⟩
              have hbe : b = gs g r' 0 - 14 := by omega
              rw [← hbe]
              exact hmo b _ (by omega) (by omega) (hc b r2 (by omega) hr2 hp)
            · exact Or.inl (hru r' (by omega) b hb0 hb1 r2 hr2 hp)
