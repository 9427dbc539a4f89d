/-! the class's look-ahead -/
def aS (σ : tp_S) (q i t : Nat) : Prop := q < 100 ∧ i < 170 ∧ t < 14 ∧ lb (σ.2 16 (43 * q + i / 4)) (16 * (i % 4) + t) = true
def dz (σ : tp_S) (q : Nat) : Prop := σ.1 17 q = 0
def sle (σ τ : tp_S) : Prop := (∀ q i t, aS σ q i t → aS τ q i t) ∧ (∀ q, dz τ q → dz σ q ∧ ∀ i t, aS τ q i t → aS σ q i t) ∧ ((∀ q i t, aS τ q i t → aS σ q i t) → ∀ q, dz σ q → dz τ q)
theorem sle_rf (σ : tp_S) : sle σ σ := ⟨fun _ _ _ h => h, fun _ h => ⟨h, fun _ _ h => h⟩, fun _ _ h => h⟩
theorem sle_tr {σ τ υ : tp_S} (h1 : sle σ τ) (h2 : sle τ υ) : sle σ υ := by
  refine ⟨fun q i t h => h2.1 q i t (h1.1 q i t h), fun q h => ?_, fun h q hq => ?_⟩
  · obtain ⟨a, b⟩ := h2.2.1 q h
    obtain ⟨c, d⟩ := h1.2.1 q a
    exact ⟨c, fun i t h => d i t (b i t h)⟩
  · refine h2.2.2 (fun q i t z => h1.1 q i t (h q i t z)) q (h1.2.2 (fun q i t z => h q i t (h2.1 q i t z)) q hq)
theorem sp_setOf {σ : tp_S} {q i : Nat} (hq : q < 100) (hi : i < 170) {K : Int32 → tp_S → Prop} (k : ∀ m, (∀ b, b < 32 → (bt m b = true ↔ aS σ q i b)) → K m σ) : tp_W shC m_La_setOf 0 [some (.ref 15), some (.int (nI q)), some (.int (nI i))] [] σ (tp_Qi K) := by
  refine bk_La_setOf_0 _ _ ?_
  rw [pk_rem (by omega) (by decide) (by decide), pk_div (by omega) (by decide) (by decide), pk_mul, pk_mul, nI_add, nI_clamp (by omega)]
  refine ⟨by decide, vp_in_nI (by omega) (by decide), by decide, k _ (fun b hb => ?_)⟩
  rw [b_and, b_all hb, bt_i32 _ _ hb, lb_ushr _ (by omega)]
  unfold aS
  rw [show q * 43 = 43 * q from Nat.mul_comm _ _, show i % 4 * 16 = 16 * (i % 4) from Nat.mul_comm _ _]
  simp only [Bool.and_eq_true, decide_eq_true_eq]
  constructor
  · rintro ⟨h1, h2⟩; exact ⟨hq, hi, h2, h1⟩
  · rintro ⟨_, _, h2, h1⟩; exact ⟨h1, h2⟩
theorem sh_i {i : Nat} {m : Int32} (hm : ∀ b, b < 32 → bt m b = true → b < 14) {j : Nat} (hj : j < 64) : lb (m.toInt64 <<< ((nI (i % 4 * 16)).toInt64 &&& 63)) j = true ↔ ∃ t, j = 16 * (i % 4) + t ∧ bt m t = true := by
  rw [lb_shl _ (by omega) _ hj]
  simp only [Bool.and_eq_true, decide_eq_true_eq]
  constructor
  · rintro ⟨h1, h2⟩
    rw [lb_i64 _ _ (by omega)] at h2
    split at h2
    · exact ⟨j - i % 4 * 16, by omega, h2⟩
    · have := hm 31 (by omega) h2
      omega
  · rintro ⟨t, e, h⟩
    have := hm t (bt_lt h) h
    refine ⟨by omega, ?_⟩
    rw [lb_i64 _ _ (by omega), if_pos (by omega), show j - i % 4 * 16 = t by omega]
    exact h
theorem sp_join {σ : tp_S} {q i : Nat} (hq : q < 100) (hi : i < 170) {m : Int32} (hm : ∀ b, b < 32 → bt m b = true → b < 14) {K : tp_S → Prop} (k : ∀ τ, ke [16, 17] σ τ → sle σ τ → (∀ q' i' t, aS τ q' i' t ↔ (aS σ q' i' t ∨ (q' = q ∧ i' = i ∧ bt m t = true))) → K τ) : tp_W shC m_La_join 0 [some (.ref 15), some (.int (nI q)), some (.int (nI i)), some (.int m), none, none, none] [] σ (tp_Qv K) := by
  refine bk_La_join_0 _ _ _ ?_
  rw [pk_rem (by omega) (by decide) (by decide), pk_div (by omega) (by decide) (by decide), pk_mul, pk_mul, nI_add, nI_clamp (by omega), nI_clamp (by omega), lcmp_0]
  have hv : vp_in (nI (q * 43 + i / 4)) 4300 := vp_in_nI (by omega) (by decide)
  have hmt : ∀ t, bt m t = true → t < 14 := fun t h => hm t (bt_lt h) h
  generalize hsd : m.toInt64 <<< ((nI (i % 4 * 16)).toInt64 &&& 63) = sd
  have hs : ∀ j, j < 64 → (lb sd j = true ↔ ∃ t, j = 16 * (i % 4) + t ∧ bt m t = true) := fun j hj => by rw [← hsd]; exact sh_i hm hj
  refine ⟨by decide, hv, by decide, hv, fun he => ?_, fun hne => ⟨hv, vp_in_nI (by omega) (by decide), bo_1, ?_⟩⟩
  · refine k σ (ke_rf _ _) (sle_rf σ) (fun q' i' t => ⟨Or.inl, fun h => ?_⟩)
    rcases h with h | ⟨rfl, rfl, h⟩
    · exact h
    · have ht := hmt t h
      refine ⟨hq, hi, ht, ?_⟩
      rw [show 43 * q' + i' / 4 = q' * 43 + i' / 4 by omega, ← he, lb_or, (hs (16 * (i' % 4) + t) (by omega)).mpr ⟨t, rfl, h⟩]
      simp
  · have hiff : ∀ q' i' t, aS (tp_si (tp_sl σ 16 (q * 43 + i / 4) (σ.2 16 (q * 43 + i / 4) ||| sd)) 17 q (nI 1)) q' i' t ↔ (aS σ q' i' t ∨ (q' = q ∧ i' = i ∧ bt m t = true)) := by
      intro q' i' t
      unfold aS
      rw [si_2]
      constructor
      · rintro ⟨h1, h2, h3, h4⟩
        by_cases e : 43 * q' + i' / 4 = q * 43 + i / 4
        · rw [e, sl_at, lb_or] at h4
          simp only [Bool.or_eq_true] at h4
          rcases h4 with h4 | h4
          · exact Or.inl ⟨h1, h2, h3, by rw [e]; exact h4⟩
          · obtain ⟨t', e', hb⟩ := (hs _ (by omega)).mp h4
            have := hmt t' hb
            have et : t = t' := by omega
            exact Or.inr ⟨by omega, by omega, by rw [et]; exact hb⟩
        · rw [sl_nj e] at h4
          exact Or.inl ⟨h1, h2, h3, h4⟩
      · rintro (⟨h1, h2, h3, h4⟩ | ⟨rfl, rfl, h⟩)
        · refine ⟨h1, h2, h3, ?_⟩
          by_cases e : 43 * q' + i' / 4 = q * 43 + i / 4
          · rw [e, sl_at, lb_or]
            rw [e] at h4
            rw [h4]; rfl
          · rw [sl_nj e]; exact h4
        · have ht := hmt t h
          refine ⟨hq, hi, ht, ?_⟩
          rw [show 43 * q' + i' / 4 = q' * 43 + i' / 4 by omega, sl_at, lb_or, (hs (16 * (i' % 4) + t) (by omega)).mpr ⟨t, rfl, h⟩]
          simp
    refine k _ (ke_si (ke_sl (ke_rf _ _) (by decide)) (by decide)) ⟨fun q' i' t h => (hiff q' i' t).mpr (Or.inl h), fun q' hd => ?_, fun hall => ?_⟩ hiff
    · have hqq : q' ≠ q := by
        rintro rfl
        unfold dz at hd
        rw [si_at] at hd
        exact absurd hd n1_0
      refine ⟨?_, fun i' t h => ?_⟩
      · unfold dz at hd ⊢
        rw [si_nj hqq] at hd
        exact hd
      · rcases (hiff q' i' t).mp h with h | ⟨e, _⟩
        · exact h
        · exact absurd e hqq
    · exfalso
      refine hne (lb_ext (fun j hj => ?_))
      rw [lb_or]
      cases c1 : lb (σ.2 16 (q * 43 + i / 4)) j with
      | true => rfl
      | false =>
        cases c2 : lb sd j with
        | false => rfl
        | true =>
          obtain ⟨t, e, hb⟩ := (hs j hj).mp c2
          have := hall q i t ((hiff q i t).mpr (Or.inr ⟨rfl, rfl, hb⟩))
          have h4 := this.2.2.2
          rw [show 43 * q + i / 4 = q * 43 + i / 4 by omega, ← e, c1] at h4
          cases h4
theorem sp_holds {σ : tp_S} {q i : Nat} (hq : q < 100) (hi : i < 192) {K : Int32 → tp_S → Prop} (k : K (bI (pd (ib σ 11 q i))) σ) : tp_W shC m_St_holds 0 [some (.ref 10), some (.int (nI q)), some (.int (nI i))] [] σ (tp_Qi K) := by
  refine bk_St_holds_0 _ _ ?_
  rw [pk_rem (by omega) (by decide) (by decide), pk_div (by omega) (by decide) (by decide), pk_mul, nI_add, nI_clamp (by omega), lcmp_0]
  have key : (Int64.toUInt64 (σ.2 11 (q * 3 + i / 64)) >>> ((Int32.toInt64 (nI (i % 64))).toUInt64 &&& Int64.toUInt64 63)).toInt64 &&& (1 : Int64) = 0 ↔ ¬ ib σ 11 q i := by
    rw [lb_nz]
    unfold ib
    rw [show 3 * q + i / 64 = q * 3 + i / 64 by omega]
    constructor
    · intro h hc
      have := h 0 (by omega)
      rw [lb_and, lb_ushr _ (by omega), lb_1 0 (by omega), Nat.add_zero, hc] at this
      exact absurd this (by decide)
    · intro h j hj
      rw [lb_and, lb_ushr _ (by omega), lb_1 j hj]
      by_cases z : j = 0
      · subst z
        rw [Nat.add_zero]
        cases c : lb (σ.2 11 (q * 3 + i / 64)) (i % 64) with
        | true => exact absurd c h
        | false => rfl
      · rw [decide_eq_false z, Bool.and_false]
  rw [key]
  refine ⟨by decide, vp_in_nI (by omega) (by decide), by decide, fun h => ⟨bo_0, ?_⟩, fun h => ⟨bo_1, ?_⟩⟩
  · rw [bI_f h] at k; exact k
  · rw [bI_t (Classical.byContradiction h)] at k; exact k
/-- leads of the plain table, before anything else stands there -/
def ldC (B : Bs) (σ : tp_S) : Prop := ∀ q c, q < 100 → c < 22 → σ.1 9 (22 * q + c) = mv (bL B q c)
theorem sp_leadAt0 {B : Bs} {σ : tp_S} (h : ldC B σ) (hb : ∀ q c t, bL B q c = some t → t < 100) {q c : Nat} (hq : q < 100) (hc : c < 22) {K : Int32 → tp_S → Prop} (k : K (lv (bL B q c)) σ) : tp_W shC m_Pl_leadAt 0 [some (.ref 8), some (.int (nI q)), some (.int (nI c)), none] [] σ (tp_Qi K) := by
  refine bk_Pl_leadAt_0 _ _ ?_
  rw [pk_mul, nI_add, nI_clamp (by omega), show q * 22 + c = 22 * q + c by omega, h q c hq hc]
  refine ⟨vp_in_nI (by omega) (by decide), ?_⟩
  cases e : bL B q c with
  | none =>
    rw [e] at k
    exact ⟨fun _ => k, fun h => absurd (by decide) h⟩
  | some t =>
    rw [e] at k
    have ht := hb q c t e
    show (nI (1000 + t) < nI 1000 → _) ∧ (¬ nI (1000 + t) < nI 1000 → (nI 2000 ≤ nI (1000 + t) → _) ∧ (¬ nI 2000 ≤ nI (1000 + t) → K (nI (1000 + t) - nI 1000) σ))
    rw [pk_sub (by omega), show 1000 + t - 1000 = t by omega]
    exact ⟨fun z => absurd z (nI_nlt (by omega) (by omega)), fun _ => ⟨fun z => absurd z (nI_ge (by omega) (by omega)), fun _ => k⟩⟩
theorem sp_jRules {g : Gm} {op : Bool} {ok ol : Nat} {os : Nat → Nat} {σ : tp_S} (hw : gW g) (hg : gC g op ok ol os σ) {q kd : Nat} (hq : q < 100) (hkd : kd < 8) {m : Int32} (hm : ∀ b, b < 32 → bt m b = true → b < 14) {K : tp_S → Prop} (k : ∀ τ, ke [16, 17] σ τ → sle σ τ → (∀ q' i' t, aS τ q' i' t ↔ (aS σ q' i' t ∨ (q' = q ∧ bt m t = true ∧ ∃ r, r < gn g ∧ gk g r = kd ∧ i' = 7 * r))) → K τ) : tp_W shC m_La_joinRulesOf 0 [some (.ref 15), some (.int (nI q)), some (.int (nI kd)), some (.int m), none] [] σ (tp_Qv K) := by
  have hn24 := hw.1
  refine bk_La_joinRulesOf_0 _ _ _ ?_
  suffices h : ∀ (n r : Nat) (τ : tp_S), r + n = gn g → ke [16, 17] σ τ → sle σ τ → (∀ q' i' t, aS τ q' i' t ↔ (aS σ q' i' t ∨ (q' = q ∧ bt m t = true ∧ ∃ r', r' < r ∧ gk g r' = kd ∧ i' = 7 * r'))) → tp_W shC m_La_joinRulesOf 3 [some (.ref 15), some (.int (nI q)), some (.int (nI kd)), some (.int m), some (.int (nI r))] [] τ (tp_Qv K) from h (gn g) 0 σ (Nat.zero_add _) (ke_rf _ _) (sle_rf _) (fun q' i' t => ⟨Or.inl, fun h => h.elim id (fun ⟨_, _, r', h, _⟩ => absurd h (Nat.not_lt_zero r'))⟩)
  intro n
  induction n with
  | zero =>
    intro r τ hr hk hl ha
    have er : r = gn g := by omega
    subst er
    have hgt := gC_ke hk (by decide) hg
    refine bk_La_joinRulesOf_3 _ _ _ _ (bk_Gr_rules_0 ?_)
    rw [hgt.1]
    exact ⟨fun _ => k τ hk hl ha, fun h => absurd (nI_le (by omega) (by omega)) h⟩
  | succ n ih =>
    intro r τ hr hk hl ha
    have hgt := gC_ke hk (by decide) hg
    have e2 : τ.1 2 r = nI (gk g r) := (hgt.2.2.1 r (by omega)).1
    have hk8 := (hw.2 r (by omega)).1
    refine bk_La_joinRulesOf_3 _ _ _ _ (bk_Gr_rules_0 ?_)
    rw [hgt.1]
    refine ⟨fun h => absurd ((nI_leI (by omega) (by omega)).mp h) (by omega), fun _ => bk_Gr_kindOf_0 _ ?_⟩
    rw [nI_clamp (by omega), e2, nI_eq (by omega) (by omega), nI_add, pk_mul]
    refine ⟨vp_in_nI (by omega) (by decide), fun hne => ih (r + 1) τ (by omega) hk hl (fun q' i' t => ?_), fun he => sp_join hq (by omega) hm (fun υ hku hlu hau => ih (r + 1) υ (by omega) (ke_tr hk hku) (sle_tr hl hlu) (fun q' i' t => ?_))⟩
    · rw [ha q' i' t]
      constructor
      · rintro (h | ⟨h1, h2, r', h3, h4, h5⟩)
        · exact Or.inl h
        · exact Or.inr ⟨h1, h2, r', by omega, h4, h5⟩
      · rintro (h | ⟨h1, h2, r', h3, h4, h5⟩)
        · exact Or.inl h
        · by_cases z : r' = r
          · subst z; exact absurd h4 hne
          · exact Or.inr ⟨h1, h2, r', by omega, h4, h5⟩
    · rw [hau q' i' t, ha q' i' t]
      constructor
      · rintro ((h | ⟨h1, h2, r', h3, h4, h5⟩) | ⟨h1, h2, h3⟩)
        · exact Or.inl h
        · exact Or.inr ⟨h1, h2, r', by omega, h4, h5⟩
        · exact Or.inr ⟨h1, h3, r, by omega, he, by omega⟩
      · rintro (h | ⟨h1, h2, r', h3, h4, h5⟩)
        · exact Or.inl (Or.inl h)
        · by_cases z : r' = r
          · subst z; exact Or.inr ⟨h1, by omega, h2⟩
          · exact Or.inl (Or.inr ⟨h1, h2, r', by omega, h4, h5⟩)
/-- what the look-ahead reads besides: grammar, rests, states, leads -/
def laR (g : Gm) (op : Bool) (ok ol : Nat) (os : Nat → Nat) (B : Bs) (σ : tp_S) : Prop := gC g op ok ol os σ ∧ (∀ r p, (r < gn g ∨ r = 24) → p < rl g r → rOK g σ r p) ∧ σ.1 10 6 = nI (bn B) ∧ (∀ q, q < bn B → ∀ i, bS B q i ↔ (i < 192 ∧ ib σ 11 q i)) ∧ ldC B σ
theorem laR_ke {g : Gm} {op : Bool} {ok ol : Nat} {os : Nat → Nat} {B : Bs} {σ τ : tp_S} (hk : ke [16, 17] σ τ) (h : laR g op ok ol os B σ) : laR g op ok ol os B τ := by
  obtain ⟨a1, a2, a3, a4, a5⟩ := h
  refine ⟨gC_ke hk (by decide) a1, fun r p hr hp => ?_, by rw [hk.1 10 (by decide)]; exact a3, fun q hq i => ?_, fun q c hq hc => by rw [hk.1 9 (by decide)]; exact a5 q c hq hc⟩
  · unfold rOK
    rw [hk.1 7 (by decide)]
    exact a2 r p hr hp
  · rw [ib_ke hk (by decide)]; exact a4 q hq i
theorem clo_le {g : Gm} {B : Bs} {σ τ : tp_S} {q r p : Nat} (hl : sle σ τ) (hd : dz τ q) (h : clo g B (aS σ) q r p) : clo g B (aS τ) q r p := by
  have ho := (hl.2.1 q hd).2
  refine ⟨fun t q' ha e => hl.1 _ _ _ (h.1 t q' (ho _ _ ha) e), fun r' t hr e ht hx => hl.1 _ _ _ (h.2 r' t hr e ht ?_)⟩
  rcases hx with hx | ⟨h1, h2⟩
  · exact Or.inl hx
  · exact Or.inr ⟨h1, ho _ _ h2⟩
theorem sp_sItem {g : Gm} {op : Bool} {ok ol : Nat} {os : Nat → Nat} {B : Bs} {σ : tp_S} (hw : gW g) (hB : Bk g B) (hR : laR g op ok ol os B σ) {q r p : Nat} (hq : q < bn B) (hr : r < gn g ∨ r = 24) (hp : p < rl g r) (hS : bS B q (7 * r + p)) (hin : ∀ q i t, aS σ q i t → lA g B q i t) {K : tp_S → Prop} (k : ∀ τ, ke [16, 17] σ τ → sle σ τ → (∀ q i t, aS τ q i t → lA g B q i t) → (dz τ q → clo g B (aS τ) q r p) → K τ) : tp_W shC m_La_spreadItem 0 [some (.ref 15), some (.int (nI q)), some (.int (nI (7 * r + p))), none, none, none, none, none] [] σ (tp_Qv K) := by
  have h100 := hB.n100
  have hq100 : q < 100 := by omega
  obtain ⟨w1, w2, w3, w4, w5⟩ := rwC_of hw hR.1 hr
  obtain ⟨e4, hc⟩ := w5 p hp
  have hb100 : ∀ q c t, bL B q c = some t → t < 100 := fun q c t h => by have := (hB.l q c t h).2.1; omega
  have hlcl := (lA_cl g B).2 q r p hq hr hp hS
  refine bk_La_spreadItem_0 _ _ (bk_Gr_columnAt_0 _ ?_)
  rw [nI_clamp (by omega), e4]
  refine ⟨vp_in_nI (by omega) (by decide), sp_setOf hq100 (by omega) (fun m hm => sp_leadAt0 hR.2.2.2.2 hb100 hq100 hc ?_)⟩
  have hm14 : ∀ b, b < 32 → bt m b = true → b < 14 := fun b hb h => ((hm b hb).mp h).2.2.1
  have hml : ∀ b, bt m b = true → aS σ q (7 * r + p) b := fun b h => (hm b (bt_lt h)).mp h
  -- the rules that come along
  have rules : ∀ υ, ke [16, 17] σ υ → sle σ υ → (∀ q i t, aS υ q i t → lA g B q i t) → (∀ t q', aS σ q (7 * r + p) t → bL B q (rs g r p) = some q' → aS υ q' (7 * r + p + 1) t) → (nI (rs g r p) < nI 14 → K υ) ∧ (¬ nI (rs g r p) < nI 14 → tp_W shC m_Op_ofRest 0 [some (.ref 5), some (.int (nI (7 * r + p)))] [] υ (tp_Qi fun r4 σ4 => ((r4 &&& (nI 16384)) = 0 → tp_W shC m_La_joinRulesOf 0 [some (.ref 15), some (.int (nI q)), some (.int (nI (rs g r p) - (nI 14))), some (.int ((r4 &&& (nI 16383)) ||| (nI 0))), none] [] σ4 (tp_Qv fun σ5 => K σ5)) ∧ (¬ (r4 &&& (nI 16384)) = 0 → tp_W shC m_La_joinRulesOf 0 [some (.ref 15), some (.int (nI q)), some (.int (nI (rs g r p) - (nI 14))), some (.int ((r4 &&& (nI 16383)) ||| m)), none] [] σ4 (tp_Qv fun σ6 => K σ6)))) := by
    intro υ hku hlu hinu hon
    refine ⟨fun hlt => k υ hku hlu hinu (fun hd => ⟨fun t q' ha e => hon t q' ((hlu.2.1 q hd).2 _ _ ha) e, fun r' t _ e => ?_⟩), fun hge => bk_Op_ofRest_0 _ ?_⟩
    · have := (nI_ltI (by omega) (by decide)).mp hlt
      omega
    · have hc14 : 14 ≤ rs g r p := by
        rcases Nat.lt_or_ge (rs g r p) 14 with z | z
        · exact absurd ((nI_ltI (by omega) (by decide)).mpr z) hge
        · exact z
      have hRu := laR_ke hku hR
      have hrest := hRu.2.1 r p hr hp
      rw [nI_clamp (by omega), pk_sub (by omega)]
      have hrest : ∀ i, i < 32 → (bt (υ.1 7 (7 * r + p)) i = true ↔ (i ≤ 14 ∧ rst g r p i)) := hrest
      generalize υ.1 7 (7 * r + p) = w at hrest ⊢
      refine ⟨vp_in_nI (by omega) (by decide), ?_⟩
      rw [b_t14]
      -- the bits that the rules get
      have fin : ∀ m', (∀ b, b < 32 → (bt m' b = true ↔ (b < 14 ∧ (rst g r p b ∨ (rst g r p 14 ∧ aS σ q (7 * r + p) b))))) → tp_W shC m_La_joinRulesOf 0 [some (.ref 15), some (.int (nI q)), some (.int (nI (rs g r p - 14))), some (.int m'), none] [] υ (tp_Qv fun σ5 => K σ5) := by
        intro m' hm'
        refine sp_jRules hw hRu.1 hq100 (by omega) (fun b hb h => ((hm' b hb).mp h).1) (fun φ hkf hlf haf => ?_)
        have hl2 := sle_tr hlu hlf
        refine k φ (ke_tr hku hkf) hl2 (fun q' i' t h => ?_) (fun hd => ⟨fun t q' ha e => hlf.1 _ _ _ (hon t q' ((hl2.2.1 q hd).2 _ _ ha) e), fun r' t hr' e ht hx => ?_⟩)
        · rcases (haf q' i' t).mp h with h | ⟨rfl, hb, r', hr', ek, rfl⟩
          · exact hinu _ _ _ h
          · obtain ⟨ht, hx⟩ := (hm' t (bt_lt hb)).mp hb
            refine hlcl.2 r' t hr' (by omega) ht ?_
            rcases hx with hx | ⟨h1, h2⟩
            · exact Or.inl hx
            · exact Or.inr ⟨h1, hin _ _ _ h2⟩
        · refine (haf q (7 * r') t).mpr (Or.inr ⟨rfl, (hm' t (by omega)).mpr ⟨ht, ?_⟩, r', hr', by omega, rfl⟩)
          rcases hx with hx | ⟨h1, h2⟩
          · exact Or.inl hx
          · exact Or.inr ⟨h1, (hl2.2.1 q hd).2 _ _ h2⟩
      have r14 : bt w 14 = true ↔ rst g r p 14 := ⟨fun h => ((hrest 14 (by omega)).mp h).2, fun h => (hrest 14 (by omega)).mpr ⟨by omega, h⟩⟩
      refine ⟨fun h14 => fin _ (fun b hb => ?_), fun h14 => fin _ (fun b hb => ?_)⟩
      · have hno : ¬ rst g r p 14 := fun z => by rw [r14.mpr z] at h14; cases h14
        rw [b_or, b_and, b_all hb, show nI 0 = (0 : Int32) from rfl, b_0]
        simp only [Bool.or_false, Bool.and_eq_true, decide_eq_true_eq]
        rw [hrest b hb]
        constructor
        · rintro ⟨⟨_, h1⟩, h2⟩; exact ⟨h2, Or.inl h1⟩
        · rintro ⟨h1, h2 | ⟨h2, _⟩⟩
          · exact ⟨⟨by omega, h2⟩, h1⟩
          · exact absurd h2 hno
      · have hyes : rst g r p 14 := r14.mp (by simpa using h14)
        rw [b_or, b_and, b_all hb]
        simp only [Bool.or_eq_true, Bool.and_eq_true, decide_eq_true_eq]
        rw [hrest b hb, hm b hb]
        constructor
        · rintro (⟨⟨_, h1⟩, h2⟩ | h)
          · exact ⟨h2, Or.inl h1⟩
          · exact ⟨h.2.2.1, Or.inr ⟨hyes, h⟩⟩
        · rintro ⟨h1, h2 | ⟨_, h2⟩⟩
          · exact Or.inl ⟨⟨by omega, h2⟩, h1⟩
          · exact Or.inr h2
  cases e : bL B q (rs g r p) with
  | none =>
    refine ⟨fun _ => rules σ (ke_rf _ _) (sle_rf _) hin (fun t q' _ e' => ?_), fun h => absurd rfl h⟩
    rw [e] at e'; cases e'
  | some t0 =>
    have ht0 := hb100 _ _ _ e
    refine ⟨fun h => absurd h (nI_neg1 (by omega)), fun _ => ?_⟩
    show tp_W shC m_La_join 0 [some (.ref 15), some (.int (nI t0)), some (.int (nI (7 * r + p) + nI 1)), some (.int m), none, none, none] [] σ (tp_Qv _)
    rw [nI_add]
    refine sp_join ht0 (by omega) hm14 (fun υ hku hlu hau => rules υ hku hlu (fun q' i' t h => ?_) (fun t q' ha e' => ?_))
    · rcases (hau q' i' t).mp h with h | ⟨rfl, rfl, hb⟩
      · exact hin _ _ _ h
      · exact hlcl.1 t q' (hin _ _ _ (hml t hb)) e
    · rw [e] at e'
      cases e'
      exact (hau _ _ t).mpr (Or.inr ⟨rfl, rfl, (hm t (by have := ha.2.2.1; omega)).mpr ha⟩)
