/-! the class's look-ahead: states spread, rounds -/
theorem sp_sState {g : Gm} {op : Bool} {ok ol : Nat} {os : Nat → Nat} {B : Bs} {σ : tp_S} (hw : gW g) (hB : Bk g B) (hR : laR g op ok ol os B σ) {q : Nat} (hq : q < bn B) (hin : ∀ q i t, aS σ q i t → lA g B q i t) {K : tp_S → Prop} (k : ∀ τ, ke [16, 17] σ τ → sle σ τ → (∀ q i t, aS τ q i t → lA g B q i t) → (dz τ q → ∀ r p, (r < gn g ∨ r = 24) → p < rl g r → bS B q (7 * r + p) → clo g B (aS τ) q r p) → K τ) : tp_W shC m_La_spreadState 0 [some (.ref 15), some (.int (nI q)), none, none, none] [] σ (tp_Qv K) := by
  have h100 := hB.n100
  have hn24 := hw.1
  refine bk_La_spreadState_0 _ ?_
  suffices h : ∀ (n r : Nat) (τ : tp_S), r + n = 25 → ke [16, 17] σ τ → sle σ τ → (∀ q i t, aS τ q i t → lA g B q i t) → (dz τ q → ∀ r' p, r' < r → (r' < gn g ∨ r' = 24) → p < rl g r' → bS B q (7 * r' + p) → clo g B (aS τ) q r' p) → tp_W shC m_La_spreadState 2 [some (.ref 15), some (.int (nI q)), some (.int (nI r)), none, none] [] τ (tp_Qv K) from h 25 0 σ rfl (ke_rf _ _) (sle_rf _) hin (fun _ r' p h => absurd h (Nat.not_lt_zero r'))
  intro n
  induction n with
  | zero =>
    intro r τ hr hk hl hi hc
    exact bk_La_spreadState_2 _ _ ⟨fun _ => k τ hk hl hi (fun hd r' p hr' => hc hd r' p (by omega) hr'), fun h => absurd ((nI_ltI (by decide) (by omega)).mpr (by omega)) h⟩
  | succ n ih =>
    intro r τ hr hk hl hi hc
    refine bk_La_spreadState_2 _ _ ⟨fun h => absurd ((nI_ltI (by decide) (by omega)).mp h) (by omega), fun _ => ?_⟩
    -- how long the row is
    have hlen : ∃ v, v ≤ 6 ∧ 7 * r + v ≤ 169 ∧ (∀ υ, ke [16, 17] σ υ → υ.1 3 r = nI v) ∧ ((r < gn g ∨ r = 24) → v = rl g r) := by
      by_cases hv : r < gn g ∨ r = 24
      · obtain ⟨w1, w2, w3, w4, w5⟩ := rwC_of hw hR.1 hv
        exact ⟨rl g r, w2, w3, fun υ hku => by rw [hku.1 3 (by decide)]; exact w4, fun _ => rfl⟩
      · obtain ⟨v, hv6, e⟩ := hR.1.2.2.2.2.1 r (by omega)
        exact ⟨v, hv6, by omega, fun υ hku => by rw [hku.1 3 (by decide)]; exact e, fun h => absurd h hv⟩
    obtain ⟨v, hv6, hv169, hv3, hvr⟩ := hlen
    suffices h2 : ∀ (m p : Nat) (τ : tp_S), p + m = v → ke [16, 17] σ τ → sle σ τ → (∀ q i t, aS τ q i t → lA g B q i t) → (dz τ q → ∀ r' p', (r' < r ∨ (r' = r ∧ p' < p)) → (r' < gn g ∨ r' = 24) → p' < rl g r' → bS B q (7 * r' + p') → clo g B (aS τ) q r' p') → tp_W shC m_La_spreadState 10 [some (.ref 15), some (.int (nI q)), some (.int (nI r)), some (.int (nI p)), none] [] τ (tp_Qv K) from h2 v 0 τ (Nat.zero_add _) hk hl hi (fun hd r' p' h => hc hd r' p' (h.elim id (fun z => absurd z.2 (Nat.not_lt_zero p'))))
    intro m
    induction m with
    | zero =>
      intro p τ hp hk hl hi hc
      refine bk_La_spreadState_10 _ _ _ (bk_Gr_lengthOf_0 _ ?_)
      rw [nI_clamp (by omega), hv3 τ hk, nI_add]
      refine ⟨vp_in_nI (by omega) (by decide), fun _ => ih (r + 1) τ (by omega) hk hl hi (fun hd r' p' hr' hval hp' => hc hd r' p' ?_ hval hp'), fun h => absurd (nI_le (by omega) (by omega)) h⟩
      by_cases z : r' = r
      · subst z
        have := hvr hval
        exact Or.inr ⟨rfl, by omega⟩
      · exact Or.inl (by omega)
    | succ m ih2 =>
      intro p τ hp hk hl hi hc
      have hRt := laR_ke hk hR
      refine bk_La_spreadState_10 _ _ _ (bk_Gr_lengthOf_0 _ ?_)
      rw [nI_clamp (by omega), hv3 τ hk, pk_mul]
      simp only [nI_add]
      rw [show r * 7 + p = 7 * r + p by omega]
      refine ⟨vp_in_nI (by omega) (by decide), fun h => absurd ((nI_leI (by omega) (by omega)).mp h) (by omega), fun _ => sp_holds (by omega) (by omega) ⟨fun h => ?_, fun h => ?_⟩⟩
      · have hno := bI_z0.mp h
        refine ih2 (p + 1) τ (by omega) hk hl hi (fun hd r' p' hr' hval hp' hS => ?_)
        by_cases z : r' = r ∧ p' = p
        · rw [z.1, z.2] at hS
          exact absurd ((hRt.2.2.2.1 q hq _).mp hS).2 hno
        · exact hc hd r' p' (by omega) hval hp' hS
      · have hyes := bI_n0.mp h
        have hS : bS B q (7 * r + p) := (hRt.2.2.2.1 q hq _).mpr ⟨by omega, hyes⟩
        obtain ⟨r1, p1, hr1, hp1, e1⟩ := hB.v q hq _ hS
        have h6 := rl_6 hw hr1
        have er : r1 = r := by omega
        have ep : p1 = p := by omega
        subst er
        have hpl : p < rl g r1 := by have := hvr hr1; omega
        refine sp_sItem hw hB hRt hq hr1 hpl hS hi (fun υ hku hlu hiu hcu => ih2 (p + 1) υ (by omega) (ke_tr hk hku) (sle_tr hl hlu) hiu (fun hd r' p' hr' hval hp' hS' => ?_))
        by_cases z : r' = r1 ∧ p' = p
        · rw [z.1, z.2]; exact hcu hd
        · exact clo_le hlu hd (hc (hlu.2.1 q hd).1 r' p' (by omega) hval hp' hS')
noncomputable def cntA (σ : tp_S) : Nat := (List.range 238000).countP (fun j => pd (aS σ (j / 2380) (j % 2380 / 14) (j % 14)))
theorem cntA_le (σ : tp_S) : cntA σ ≤ 238000 := by
  have := List.countP_le_length (l := List.range 238000) (p := fun j => pd (aS σ (j / 2380) (j % 2380 / 14) (j % 14)))
  rw [List.length_range] at this
  exact this
theorem cntA_mono {σ τ : tp_S} (h : ∀ q i t, aS σ q i t → aS τ q i t) : cntA σ ≤ cntA τ := List.countP_mono_left (fun j _ hj => pd_t (h _ _ _ (pd_e hj)))
theorem cntA_lt {σ τ : tp_S} (h : ∀ q i t, aS σ q i t → aS τ q i t) {q i t : Nat} (h1 : aS τ q i t) (h2 : ¬ aS σ q i t) : cntA σ < cntA τ := by
  have hh := h1
  obtain ⟨a, b, c, _⟩ := hh
  refine cnt_lt (fun j _ hj => pd_t (h _ _ _ (pd_e hj))) ⟨2380 * q + 14 * i + t, List.mem_range.mpr (by omega), ?_, ?_⟩
  · rw [show (2380 * q + 14 * i + t) / 2380 = q by omega, show (2380 * q + 14 * i + t) % 2380 / 14 = i by omega, show (2380 * q + 14 * i + t) % 14 = t by omega]
    exact pd_t h1
  · rw [show (2380 * q + 14 * i + t) / 2380 = q by omega, show (2380 * q + 14 * i + t) % 2380 / 14 = i by omega, show (2380 * q + 14 * i + t) % 14 = t by omega]
    exact pd_f h2
def cInv (g : Gm) (B : Bs) (τ : tp_S) : Prop := ∀ q, q < bn B → dz τ q → ∀ r p, (r < gn g ∨ r = 24) → p < rl g r → bS B q (7 * r + p) → clo g B (aS τ) q r p
theorem b_one {b : Nat} (hb : b < 32) : bt (nI 1) b = decide (b = 0) := (by decide +kernel : ∀ b, b < 32 → bt (nI 1) b = decide (b = 0)) b hb
/-- one round -/
theorem la_61 {g : Gm} {op : Bool} {ok ol : Nat} {os : Nat → Nat} {B : Bs} {σ σ0 : tp_S} (hw : gW g) (hB : Bk g B) (hR : laR g op ok ol os B σ) {R : Nat} {K : tp_S → Prop}
    (k0 : ∀ τ, ke [16, 17] σ τ → (∀ q i t, aS τ q i t → lA g B q i t) → cInv g B τ → (∀ q i t, aS σ0 q i t → aS τ q i t) → (∀ q, q < bn B → dz τ q) → tp_W shC m_La_find 47 [some (.ref 15), some (.int (nI 0)), some (.int (nI (R + 1))), none] [] τ (tp_Qv K))
    (k1 : ∀ τ, ke [16, 17] σ τ → (∀ q i t, aS τ q i t → lA g B q i t) → cInv g B τ → (∀ q i t, aS σ0 q i t → aS τ q i t) → ((∀ q i t, aS τ q i t → aS σ0 q i t) → ∀ q, q < bn B → dz τ q) → (¬ ∀ q, q < bn B → dz σ0 q) → tp_W shC m_La_find 47 [some (.ref 15), some (.int (nI 1)), some (.int (nI (R + 1))), none] [] τ (tp_Qv K)) :
    ∀ (n Q : Nat) (x : Int32) (τ : tp_S), Q + n = bn B → ke [16, 17] σ τ → (∀ q i t, aS τ q i t → lA g B q i t) → cInv g B τ → (∀ q i t, aS σ0 q i t → aS τ q i t) → ((∀ q i t, aS τ q i t → aS σ0 q i t) → ∀ q, q < Q → dz τ q) → (x = nI 0 ∧ (∀ q, q < Q → dz τ q) ∨ x = nI 1) → ((∀ q, q < bn B → dz σ0 q) → x = nI 0 ∧ ∀ q, q < bn B → dz τ q) → tp_W shC m_La_find 61 [some (.ref 15), some (.int x), some (.int (nI R)), some (.int (nI Q))] [] τ (tp_Qv K) := by
  have h100 := hB.n100
  intro n
  induction n with
  | zero =>
    intro Q x τ hQ hk hi hc hm hqu hx hz
    have hRt := laR_ke hk hR
    refine bk_La_find_61 _ _ _ (bk_St_size_0 ?_)
    rw [hRt.2.2.1, nI_add]
    refine ⟨fun _ => ?_, fun h => absurd (nI_le (by omega) (by omega)) h⟩
    rcases hx with ⟨rfl, h⟩ | rfl
    · exact k0 τ hk hi hc hm (fun q hq => h q (by omega))
    · refine k1 τ hk hi hc hm (fun h q hq => hqu h q (by omega)) (fun h => ?_)
      exact absurd (hz h).1 n1_0
  | succ n ih =>
    intro Q x τ hQ hk hi hc hm hqu hx hz
    have hRt := laR_ke hk hR
    refine bk_La_find_61 _ _ _ (bk_St_size_0 ?_)
    rw [hRt.2.2.1, nI_clamp (by omega)]
    simp only [nI_add]
    refine ⟨fun h => absurd ((nI_leI (by omega) (by omega)).mp h) (by omega), fun _ => ⟨vp_in_nI (by omega) (by decide), fun h0 => ?_, fun h1 => ⟨vp_in_nI (by omega) (by decide), bo_0, ?_⟩⟩⟩
    · refine ih (Q + 1) x τ (by omega) hk hi hc hm (fun h q hq => ?_) ?_ hz
      · by_cases z : q = Q
        · subst z; exact h0
        · exact hqu h q (by omega)
      · rcases hx with ⟨e, h⟩ | e
        · refine Or.inl ⟨e, fun q hq => ?_⟩
          by_cases z : q = Q
          · subst z; exact h0
          · exact h q (by omega)
        · exact Or.inr e
    · have ha1 : ∀ q i t, aS (tp_si τ 17 Q (nI 0)) q i t ↔ aS τ q i t := fun q i t => Iff.rfl
      have hd1 : ∀ q, q ≠ Q → (dz (tp_si τ 17 Q (nI 0)) q ↔ dz τ q) := fun q hq => by unfold dz; rw [si_nj hq]
      have hdQ : dz (tp_si τ 17 Q (nI 0)) Q := by unfold dz; rw [si_at]; rfl
      have hk1 : ke [16, 17] τ (tp_si τ 17 Q (nI 0)) := ke_si (ke_rf _ _) (by decide)
      refine sp_sState hw hB (laR_ke hk1 hRt) (by omega) hi (fun υ hku hlu hiu hcu => ?_)
      refine ih (Q + 1) (nI 1) υ (by omega) (ke_tr hk (ke_tr hk1 hku)) hiu (fun q hq hd r p hr hp hS => ?_) (fun q i t h => hlu.1 q i t (hm q i t h)) (fun h q hq => ?_) (Or.inr rfl) (fun h => ?_)
      · by_cases z : q = Q
        · subst z; exact hcu hd r p hr hp hS
        · have hdt := (hd1 q z).mp (hlu.2.1 q hd).1
          exact clo_le hlu hd (hc q hq hdt r p hr hp hS)
      · have hsame := hlu.2.2 (fun q i t z => hm q i t (h q i t z))
        by_cases z : q = Q
        · subst z; exact hsame q hdQ
        · refine hsame q ((hd1 q z).mpr (hqu (fun q i t y => h q i t (hlu.1 q i t y)) q (by omega)))
      · exact absurd ((hz h).2 Q (by omega)) h1
theorem sp_Lfind {g : Gm} {op : Bool} {ok ol : Nat} {os : Nat → Nat} {B : Bs} {σ : tp_S} (hw : gW g) (hB : Bk g B) (hR : laR g op ok ol os B σ) {K : tp_S → Prop} (k : ∀ τ, ke [16, 17] σ τ → (∀ q i t, aS τ q i t ↔ lA g B q i t) → K τ) : tp_W shC m_La_find 0 [some (.ref 15), none, none, none] [] σ (tp_Qv K) := by
  have h100 := hB.n100
  have h1 := hB.n1
  -- done
  have done : ∀ τ, ke [16, 17] σ τ → (∀ q i t, aS τ q i t → lA g B q i t) → cInv g B τ → aS τ 0 168 0 → (∀ q, q < bn B → dz τ q) → K τ := by
    intro τ hk hi hc h0 hd
    exact k τ hk (fun q i t => lA_eq hi ⟨h0, fun q r p hq hr hp hS => hc q hq (hd q hq) r p hr hp hS⟩ q i t)
  -- the rounds
  have rounds : ∀ (n R : Nat) (τ : tp_S), R + n = 238002 → ke [16, 17] σ τ → (∀ q i t, aS τ q i t → lA g B q i t) → cInv g B τ → aS τ 0 168 0 → (R ≤ cntA τ ∨ ((∀ q, q < bn B → dz τ q) ∧ R ≤ cntA τ + 1)) → tp_W shC m_La_find 47 [some (.ref 15), some (.int (nI 1)), some (.int (nI R)), none] [] τ (tp_Qv K) := by
    intro n
    induction n with
    | zero =>
      intro R τ hn hk hi hc h0 hr
      have := cntA_le τ
      omega
    | succ n ih =>
      intro R τ hn hk hi hc h0 hr
      refine bk_La_find_47 _ _ ⟨fun h => absurd h n1_0, fun _ => ⟨fun h => absurd ((nI_leI (by decide) (by omega)).mp h) (by omega), fun _ => ?_⟩⟩
      refine la_61 (σ0 := τ) hw hB hR (fun υ hk2 hi2 hc2 hm2 hd2 => ?_) (fun υ hk2 hi2 hc2 hm2 hq2 hn2 => ?_) (bn B) 0 (nI 0) τ (Nat.zero_add _) hk hi hc (fun _ _ _ h => h) (fun _ q h => absurd h (Nat.not_lt_zero q)) (Or.inl ⟨rfl, fun q h => absurd h (Nat.not_lt_zero q)⟩) (fun h => ⟨rfl, h⟩)
      · exact bk_La_find_47 _ _ ⟨fun _ => done υ hk2 hi2 hc2 (hm2 _ _ _ h0) hd2, fun h => absurd rfl h⟩
      · refine ih (R + 1) υ (by omega) hk2 hi2 hc2 (hm2 _ _ _ h0) ?_
        have hRc : R ≤ cntA τ := by
          rcases hr with h | h
          · exact h
          · exact absurd h.1 hn2
        by_cases hs : ∀ q i t, aS υ q i t → aS τ q i t
        · have := cntA_mono hm2
          exact Or.inr ⟨hq2 hs, by omega⟩
        · have hex : ∃ q i t, aS υ q i t ∧ ¬ aS τ q i t := by
            refine Classical.byContradiction (fun hno => hs (fun q i t h => Classical.byContradiction (fun z => hno ⟨q, i, t, h, z⟩)))
          obtain ⟨q, i, t, z1, z2⟩ := hex
          have := cntA_lt hm2 z1 z2
          exact Or.inl (by omega)
  refine bk_La_find_0 (sp_fillL16 (fun τ1 hk1 hz1 => ?_))
  have ha1 : ∀ q i t, ¬ aS τ1 q i t := fun q i t h => by
    obtain ⟨a, b, c, d⟩ := h
    rw [hz1 _ (by omega), lb_0] at d
    cases d
  have hk1' : ke [16, 17] σ τ1 := ke_sub hk1 (by decide)
  suffices h : ∀ (n i : Nat) (τ : tp_S), i + n = bn B → ke [16, 17] σ τ → (∀ q i t, ¬ aS τ q i t) → (∀ q, q < i → ¬ dz τ q) → tp_W shC m_La_find 10 [some (.ref 15), some (.int (nI i)), none, none] [] τ (tp_Qv K) from h (bn B) 0 τ1 (Nat.zero_add _) hk1' ha1 (fun q h => absurd h (Nat.not_lt_zero q))
  intro n
  induction n with
  | zero =>
    intro i τ hi hk ha hd
    have hRt := laR_ke hk hR
    refine bk_La_find_10 _ (bk_St_size_0 ?_)
    rw [hRt.2.2.1]
    refine ⟨fun _ => sp_join (by decide) (by decide) (fun b hb h => by rw [b_one hb] at h; have := of_decide_eq_true h; omega) (fun υ hku hlu hau => ?_), fun h => absurd (nI_le (by omega) (by omega)) h⟩
    refine rounds 238002 0 υ rfl (ke_tr hk hku) (fun q i t h => ?_) (fun q hq hdz => absurd (hlu.2.1 q hdz).1 (hd q (by omega))) ((hau 0 168 0).mpr (Or.inr ⟨rfl, rfl, by decide⟩)) (Or.inl (Nat.zero_le _))
    rcases (hau q i t).mp h with h | ⟨rfl, rfl, hb⟩
    · exact absurd h (ha q i t)
    · rw [b_one (bt_lt hb)] at hb
      have := of_decide_eq_true hb
      subst this
      exact (lA_cl g B).1
  | succ n ih =>
    intro i τ hi hk ha hd
    have hRt := laR_ke hk hR
    refine bk_La_find_10 _ (bk_St_size_0 ?_)
    rw [hRt.2.2.1, nI_add, nI_clamp (by omega)]
    refine ⟨fun h => absurd ((nI_leI (by omega) (by omega)).mp h) (by omega), fun _ => ⟨vp_in_nI (by omega) (by decide), bo_1, ih (i + 1) _ (by omega) (ke_si hk (by decide)) ha (fun q hq => ?_)⟩⟩
    unfold dz
    by_cases z : q = i
    · subst z; rw [si_at]; exact n1_0
    · rw [si_nj z]; exact hd q (by omega)
