/-! the reference's look-ahead -/
def aM (n : Nat) (μ : tp_S) (q i t : Nat) : Prop := q < n ∧ i < 170 ∧ t < 14 ∧ bt (μ.1 9 (200 * q + (8 * (i / 7) + i % 7))) t = true
noncomputable def cntM (n : Nat) (σ : tp_S) : Nat := (List.range 238000).countP (fun j => pd (aM n σ (j / 2380) (j % 2380 / 14) (j % 14)))
theorem cntM_le (n : Nat) (σ : tp_S) : cntM n σ ≤ 238000 := by
  have := List.countP_le_length (l := List.range 238000) (p := fun j => pd (aM n σ (j / 2380) (j % 2380 / 14) (j % 14)))
  rw [List.length_range] at this
  exact this
theorem cntM_mono {n : Nat} {σ τ : tp_S} (h : ∀ q i t, aM n σ q i t → aM n τ q i t) : cntM n σ ≤ cntM n τ := List.countP_mono_left (fun j _ hj => pd_t (h _ _ _ (pd_e hj)))
theorem cntM_lt {n : Nat} (hn : n ≤ 100) {σ τ : tp_S} (h : ∀ q i t, aM n σ q i t → aM n τ q i t) {q i t : Nat} (h1 : aM n τ q i t) (h2 : ¬ aM n σ q i t) : cntM n σ < cntM n τ := by
  have hh := h1
  obtain ⟨a, b, c, _⟩ := hh
  refine cnt_lt (fun j _ hj => pd_t (h _ _ _ (pd_e hj))) ⟨2380 * q + 14 * i + t, List.mem_range.mpr (by omega), ?_, ?_⟩
  · rw [show (2380 * q + 14 * i + t) / 2380 = q by omega, show (2380 * q + 14 * i + t) % 2380 / 14 = i by omega, show (2380 * q + 14 * i + t) % 14 = t by omega]
    exact pd_t h1
  · rw [show (2380 * q + 14 * i + t) / 2380 = q by omega, show (2380 * q + 14 * i + t) % 2380 / 14 = i by omega, show (2380 * q + 14 * i + t) % 14 = t by omega]
    exact pd_f h2
def mle (n : Nat) (μ ν : tp_S) : Prop := (∀ q i t, aM n μ q i t → aM n ν q i t) ∧ (ν.1 0 31 = 0 → μ.1 0 31 = 0 ∧ ∀ q i t, aM n ν q i t → aM n μ q i t) ∧ (¬ ν.1 0 31 = 0 → ¬ μ.1 0 31 = 0 ∨ cntM n μ < cntM n ν)
theorem mle_rf (n : Nat) (μ : tp_S) : mle n μ μ := ⟨fun _ _ _ h => h, fun h => ⟨h, fun _ _ _ h => h⟩, fun h => Or.inl h⟩
theorem mle_tr {n : Nat} {μ ν ξ : tp_S} (h1 : mle n μ ν) (h2 : mle n ν ξ) : mle n μ ξ := by
  refine ⟨fun q i t h => h2.1 q i t (h1.1 q i t h), fun h => ?_, fun h => ?_⟩
  · obtain ⟨a, b⟩ := h2.2.1 h
    obtain ⟨c, d⟩ := h1.2.1 a
    exact ⟨c, fun q i t h => d q i t (b q i t h)⟩
  · rcases h2.2.2 h with z | z
    · rcases h1.2.2 z with y | y
      · exact Or.inl y
      · exact Or.inr (Nat.lt_of_lt_of_le y (cntM_mono h2.1))
    · exact Or.inr (Nat.lt_of_le_of_lt (cntM_mono h1.1) z)
/-- tokens alone -/
def b14 (n : Nat) (μ : tp_S) : Prop := ∀ q j b, q < n → j < 200 → b < 32 → bt (μ.1 9 (200 * q + j)) b = true → b < 14
theorem sp_addA {n : Nat} (hn : n ≤ 100) {μ : tp_S} (h14 : b14 n μ) {q r p : Nat} (hq : q < n) (hp : p ≤ 6) (hi : 7 * r + p < 170) {m : Int32} (hm : ∀ b, b < 32 → bt m b = true → b < 14) {K : tp_S → Prop} (k : ∀ ν, kf [9] [31] μ ν → mle n μ ν → b14 n ν → (∀ q' i' t, aM n ν q' i' t ↔ (aM n μ q' i' t ∨ (q' = q ∧ i' = 7 * r + p ∧ bt m t = true))) → K ν) : tp_W shM m_Mo_addAhead 0 [some (.ref 0), some (.int (nI q)), some (.int (nI (8 * r + p))), some (.int m), none] [] μ (tp_Qv K) := by
  refine bk_Mo_addAhead_0 _ _ _ ?_
  rw [pk_mul, nI_add, nI_clamp (by omega)]
  have hv : vp_in (nI (200 * q + (8 * r + p))) 20000 := vp_in_nI (by omega) (by decide)
  have hmt : ∀ t, bt m t = true → t < 14 := fun t h => hm t (bt_lt h) h
  have e8 : 8 * ((7 * r + p) / 7) + (7 * r + p) % 7 = 8 * r + p := by omega
  -- what is written
  have fin : ∀ X : Int32, (X = 0 → μ.1 0 31 = 0 ∧ (μ.1 9 (200 * q + (8 * r + p)) ||| m) = μ.1 9 (200 * q + (8 * r + p))) → (¬ X = 0 → ¬ μ.1 0 31 = 0 ∨ ¬ (μ.1 9 (200 * q + (8 * r + p)) ||| m) = μ.1 9 (200 * q + (8 * r + p))) → K (tp_si (tp_si μ 0 31 X) 9 (200 * q + (8 * r + p)) (μ.1 9 (200 * q + (8 * r + p)) ||| m)) := by
    intro X hX0 hX1
    have e31 : (tp_si (tp_si μ 0 31 X) 9 (200 * q + (8 * r + p)) (μ.1 9 (200 * q + (8 * r + p)) ||| m)).1 0 31 = X := by rw [si_ne (by decide), si_at]
    have hiff : ∀ q' i' t, aM n (tp_si (tp_si μ 0 31 X) 9 (200 * q + (8 * r + p)) (μ.1 9 (200 * q + (8 * r + p)) ||| m)) q' i' t ↔ (aM n μ q' i' t ∨ (q' = q ∧ i' = 7 * r + p ∧ bt m t = true)) := by
      intro q' i' t
      unfold aM
      by_cases e : 200 * q' + (8 * (i' / 7) + i' % 7) = 200 * q + (8 * r + p) ∧ i' < 170
      · have eq : q' = q := by omega
        have ei : i' = 7 * r + p := by omega
        rw [e.1, si_at, b_or]
        simp only [Bool.or_eq_true]
        constructor
        · rintro ⟨a, b, c, d | d⟩
          · exact Or.inl ⟨a, b, c, d⟩
          · exact Or.inr ⟨eq, ei, d⟩
        · rintro (⟨a, b, c, d⟩ | ⟨_, _, d⟩)
          · exact ⟨a, b, c, Or.inl d⟩
          · exact ⟨by omega, e.2, hmt t d, Or.inr d⟩
      · constructor
        · rintro ⟨a, b, c, d⟩
          rw [si_nj (by omega), si_ne (by decide)] at d
          exact Or.inl ⟨a, b, c, d⟩
        · rintro (⟨a, b, c, d⟩ | ⟨eq, ei, _⟩)
          · exact ⟨a, b, c, by rw [si_nj (by omega), si_ne (by decide)]; exact d⟩
          · exfalso
            apply e
            subst eq ei
            exact ⟨by omega, hi⟩
    have hmono : ∀ q' i' t, aM n μ q' i' t → aM n (tp_si (tp_si μ 0 31 X) 9 (200 * q + (8 * r + p)) (μ.1 9 (200 * q + (8 * r + p)) ||| m)) q' i' t := fun q' i' t h => (hiff q' i' t).mpr (Or.inl h)
    refine k _ (kf_si (kf_s0 (kf_rf _ _ _) (by decide)) (by decide) (by decide)) ⟨hmono, fun h => ?_, fun h => ?_⟩ (fun q' j b hq' hj hb h => ?_) hiff
    · rw [e31] at h
      obtain ⟨z1, z2⟩ := hX0 h
      refine ⟨z1, fun q' i' t ha => ?_⟩
      rcases (hiff q' i' t).mp ha with ha | ⟨rfl, rfl, hb⟩
      · exact ha
      · refine ⟨hq, hi, hmt t hb, ?_⟩
        rw [e8, ← z2, b_or, hb]
        simp
    · rw [e31] at h
      rcases hX1 h with z | z
      · exact Or.inl z
      · right
        have hex : ∃ i, i < 32 ∧ bt m i = true ∧ ¬ bt (μ.1 9 (200 * q + (8 * r + p))) i = true := by
          refine Classical.byContradiction (fun hno => z ?_)
          refine b_ext (fun i hi => ?_)
          rw [b_or]
          cases c1 : bt (μ.1 9 (200 * q + (8 * r + p))) i with
          | true => rfl
          | false =>
            cases c2 : bt m i with
            | false => rfl
            | true => exact absurd ⟨i, hi, c2, by rw [c1]; exact Bool.false_ne_true⟩ hno
        obtain ⟨i, hi32, z1, z2⟩ := hex
        refine cntM_lt hn hmono ((hiff q (7 * r + p) i).mpr (Or.inr ⟨rfl, rfl, z1⟩)) (fun hc => z2 ?_)
        have := hc.2.2.2
        rw [e8] at this
        exact this
    · by_cases e : 200 * q' + j = 200 * q + (8 * r + p)
      · rw [e, si_at, b_or] at h
        simp only [Bool.or_eq_true] at h
        rcases h with h | h
        · exact h14 q (8 * r + p) b hq (by omega) hb h
        · exact hm b hb h
      · rw [si_nj e, si_ne (by decide)] at h
        exact h14 q' j b hq' hj hb h
  refine ⟨hv, fun h => ⟨bo_1, hv, fin _ (fun z => absurd z n1_0) (fun _ => Or.inl h)⟩, fun h => ⟨hv, fun he => ⟨bo_0, hv, fin _ (fun _ => ⟨h, he⟩) (fun z => absurd rfl z)⟩, fun hne => ⟨bo_1, hv, fin _ (fun z => absurd z n1_0) (fun _ => Or.inr hne)⟩⟩⟩
/-- what the look-ahead reads besides -/
def maR (g : Gm) (op : Bool) (ok ol : Nat) (os : Nat → Nat) (B : Bs) (μ : tp_S) : Prop := gM g op ok ol os μ ∧ mOK g μ ∧ μ.1 0 16 = nI (bn B) ∧ (∀ q, q < bn B → hsM μ 7 q (bS B q)) ∧ ∀ q, q < bn B → ∀ s, s < 28 → μ.1 10 (28 * q + s) = ldv (bL B q) s
theorem mOK_eq {g : Gm} {μ ν : tp_S} (h5 : ν.1 5 = μ.1 5) (h6 : ν.1 6 = μ.1 6) (h : mOK g μ) : mOK g ν := by
  unfold mOK at h ⊢
  rw [h5, h6]; exact h
theorem maR_kf {g : Gm} {op : Bool} {ok ol : Nat} {os : Nat → Nat} {B : Bs} {μ ν : tp_S} {cs js : List Nat} (hk : kf cs js μ ν) (ho : (1 ∉ cs ∧ 2 ∉ cs ∧ 3 ∉ cs ∧ 4 ∉ js ∧ 5 ∉ js) ∧ 5 ∉ cs ∧ 6 ∉ cs ∧ 7 ∉ cs ∧ 10 ∉ cs ∧ 16 ∉ js) (h : maR g op ok ol os B μ) : maR g op ok ol os B ν := by
  obtain ⟨a1, a2, a3, a4, a5⟩ := h
  obtain ⟨o1, o2, o3, o4, o5, o6⟩ := ho
  refine ⟨gM_kf hk o1 a1, mOK_eq (hk.1 5 o2 (by decide)) (hk.1 6 o3 (by decide)) a2, (hk.2 16 o6).trans a3, fun q hq => ?_, fun q hq s hs => by rw [hk.1 10 o5 (by decide)]; exact a5 q hq s hs⟩
  unfold hsM
  rw [hk.1 7 o4 (by decide)]
  exact a4 q hq
theorem oM_Og {g : Gm} {μ : tp_S} (h : mOK g μ) {k b : Nat} (hk : k < 8) (hb : b ≤ 14) : oM μ k b ↔ Og g k b := by
  by_cases z : b = 14
  · subst z; rw [oM_14]; exact (h.1 k hk).2
  · have hb14 : b < 14 := by omega
    rw [oM_lt hb14, h.2 k b hk (by omega)]
    exact ⟨fun h => h.2, fun h => ⟨hb14, h⟩⟩
theorem ldv_s6 {L : Nat → Option Nat} {c : Nat} : ldv L (s6 c) = lv (L c) := by
  unfold ldv s6
  by_cases h : c < 14
  · rw [if_pos h, if_pos h]
  · rw [if_neg h, if_neg (by omega), if_neg (by omega), Nat.add_sub_cancel]
theorem sp_mRules {g : Gm} {op : Bool} {ok ol : Nat} {os : Nat → Nat} {n : Nat} (hn : n ≤ 100) {μ : tp_S} (hw : gW g) (hg : gM g op ok ol os μ) (h14 : b14 n μ) {q kd : Nat} (hq : q < n) (hkd : kd < 8) {m : Int32} (hm : ∀ b, b < 32 → bt m b = true → b < 14) {K : tp_S → Prop} (k : ∀ ν, kf [9] [31] μ ν → mle n μ ν → b14 n ν → (∀ q' i' t, aM n ν q' i' t ↔ (aM n μ q' i' t ∨ (q' = q ∧ bt m t = true ∧ ∃ r, r < gn g ∧ gk g r = kd ∧ i' = 7 * r))) → K ν) : tp_W shM m_Mo_spread 102 [some (.ref 0), some (.int (nI q)), none, none, none, some (.int (nI (s6 (14 + kd)))), none, some (.int m), some (.int (nI 0))] [] μ (tp_Qv K) := by
  have hn24 := hw.1
  suffices h : ∀ (l r : Nat) (ν : tp_S), r + l = gn g → kf [9] [31] μ ν → mle n μ ν → b14 n ν → (∀ q' i' t, aM n ν q' i' t ↔ (aM n μ q' i' t ∨ (q' = q ∧ bt m t = true ∧ ∃ r', r' < r ∧ gk g r' = kd ∧ i' = 7 * r'))) → tp_W shM m_Mo_spread 102 [some (.ref 0), some (.int (nI q)), none, none, none, some (.int (nI (s6 (14 + kd)))), none, some (.int m), some (.int (nI r))] [] ν (tp_Qv K) from h (gn g) 0 μ (Nat.zero_add _) (kf_rf _ _ _) (mle_rf _ _) h14 (fun q' i' t => ⟨Or.inl, fun h => h.elim id (fun ⟨_, _, r', h, _⟩ => absurd h (Nat.not_lt_zero r'))⟩)
  intro l
  induction l with
  | zero =>
    intro r ν hr hk hl hb ha
    have er : r = gn g := by omega
    subst er
    exact bk_Mo_spread_102 _ _ _ _ (sp_Mclosed hw (gM_kf hk (by decide) hg) ⟨fun _ => k ν hk hl hb ha, fun h => absurd (nI_le (by omega) (by omega)) h⟩)
  | succ l ih =>
    intro r ν hr hk hl hb ha
    have hgt := gM_kf hk (by decide) hg
    have e1 : ν.1 1 r = nI (gk g r) := (hgt.2.2.1 r (by omega)).1
    have hk8 := (hw.2 r (by omega)).1
    refine bk_Mo_spread_102 _ _ _ _ (sp_Mclosed hw hgt ⟨fun h => absurd ((nI_leI (by omega) (by omega)).mp h) (by omega), fun _ => ?_⟩)
    rw [nI_clamp (by omega), e1, nI_add, show (nI (s6 (14 + kd)) - nI 20) = nI kd by rw [s6_hi (by omega), pk_sub (by omega)]; congr 1; omega, nI_eq (by omega) (by omega), pk_mul]
    refine ⟨vp_in_nI (by omega) (by decide), fun hne => ih (r + 1) ν (by omega) hk hl hb (fun q' i' t => ?_), fun he => sp_addA (p := 0) hn hb hq (by omega) (by omega) hm (fun υ hku hlu hbu hau => ih (r + 1) υ (by omega) (kf_tr hk hku) (mle_tr hl hlu) hbu (fun q' i' t => ?_))⟩
    · rw [ha q' i' t]
      constructor
      · rintro (h | ⟨h1, h2, r', h3, h4, h5⟩)
        · exact Or.inl h
        · exact Or.inr ⟨h1, h2, r', by omega, h4, h5⟩
      · rintro (h | ⟨h1, h2, r', h3, h4, h5⟩)
        · exact Or.inl h
        · by_cases z : r' = r
          · subst z; exact absurd h4 hne
          · exact Or.inr ⟨h1, h2, r', by omega, h4, h5⟩
    · rw [hau q' i' t, ha q' i' t]
      constructor
      · rintro ((h | ⟨h1, h2, r', h3, h4, h5⟩) | ⟨h1, h2, h3⟩)
        · exact Or.inl h
        · exact Or.inr ⟨h1, h2, r', by omega, h4, h5⟩
        · exact Or.inr ⟨h1, h3, r, by omega, he, by omega⟩
      · rintro (h | ⟨h1, h2, r', h3, h4, h5⟩)
        · exact Or.inl (Or.inl h)
        · by_cases z : r' = r
          · subst z; exact Or.inr ⟨h1, by omega, h2⟩
          · exact Or.inl (Or.inr ⟨h1, h2, r', by omega, h4, h5⟩)
theorem clo_eq {g : Gm} {B : Bs} {n : Nat} {μ ν : tp_S} {q r p : Nat} (hl : mle n μ ν) (h0 : ν.1 0 31 = 0) (h : clo g B (aM n μ) q r p) : clo g B (aM n ν) q r p := by
  have : aM n ν = aM n μ := by
    funext q i t
    exact propext ⟨(hl.2.1 h0).2 q i t, hl.1 q i t⟩
  rw [this]; exact h
theorem sp_Mspread {g : Gm} {op : Bool} {ok ol : Nat} {os : Nat → Nat} {B : Bs} {μ : tp_S} (hw : gW g) (hB : Bk g B) (hR : maR g op ok ol os B μ) (h14 : b14 (bn B) μ) {q r p : Nat} (hq : q < bn B) (hr : r < gn g ∨ r = 24) (hp : p ≤ rl g r) (hS : bS B q (7 * r + p)) (hin : ∀ q i t, aM (bn B) μ q i t → lA g B q i t) {K : tp_S → Prop} (k : ∀ ν, kf [9] [31] μ ν → mle (bn B) μ ν → b14 (bn B) ν → (∀ q i t, aM (bn B) ν q i t → lA g B q i t) → (ν.1 0 31 = 0 → p < rl g r → clo g B (aM (bn B) ν) q r p) → K ν) : tp_W shM m_Mo_spread 0 [some (.ref 0), some (.int (nI q)), some (.int (nI (8 * r + p))), none, none, none, none, none, none] [] μ (tp_Qv K) := by
  have h100 := hB.n100
  have h6 := rl_6 hw hr
  obtain ⟨w1, w2, w3, w4, w5⟩ := rwM_of hw hR.1 hr
  refine bk_Mo_spread_0 _ _ ?_
  rw [pk_rem (by omega) (by decide) (by decide), pk_div (by omega) (by decide) (by decide), show (8 * r + p) / 8 = r by omega, show (8 * r + p) % 8 = p by omega, pk_mul]
  simp only [nI_add]
  rw [nI_clamp (by omega)]
  refine ⟨by decide, by decide, sp_symAt hw hR.1 hr hp (fun hlt hc => ?_) (fun hge => ⟨vp_in_nI (by omega) (by decide), fun h => absurd h (by decide), fun _ => k μ (kf_rf _ _ _) (mle_rf _ _) h14 hin (fun _ z => absurd z hge)⟩)⟩
  have hi169 : 7 * r + p + 1 < 170 := by
    have := vI_lt hw (i := 7 * r + (p + 1)) ⟨r, p + 1, hr, hlt, rfl⟩
    omega
  obtain ⟨t0, et, ht0, _⟩ := Bk_on hB hq hr hlt hc hS
  have hlcl := (lA_cl g B).2 q r p hq hr hlt hS
  have hs28 : s6 (rs g r p) < 28 := by
    unfold s6
    split <;> omega
  have e10 : μ.1 10 (28 * q + s6 (rs g r p)) = nI t0 := by
    rw [hR.2.2.2.2 q hq _ hs28, ldv_s6, et]; rfl
  rw [pk_mul, nI_add, nI_clamp (by omega), e10]
  -- own set
  generalize hmm : μ.1 9 (200 * q + (8 * r + p)) = m
  have hm14 : ∀ b, b < 32 → bt m b = true → b < 14 := fun b hb h => h14 q (8 * r + p) b hq (by omega) hb (by rw [hmm]; exact h)
  have hm : ∀ b, b < 32 → (bt m b = true ↔ aM (bn B) μ q (7 * r + p) b) := by
    intro b hb
    unfold aM
    rw [show 8 * ((7 * r + p) / 7) + (7 * r + p) % 7 = 8 * r + p by omega, hmm]
    exact ⟨fun h => ⟨hq, by omega, hm14 b hb h, h⟩, fun h => h.2.2.2⟩
  refine ⟨vp_in_nI (by omega) (by decide), fun _ => ⟨vp_in_nI (by omega) (by decide), ?_⟩, fun h => absurd ?_ h⟩
  · refine sp_addA (r := r) (p := p + 1) h100 h14 ht0 (by omega) (by omega) hm14 (fun υ hku hlu hbu hau => ?_)
    have hinu : ∀ q i t, aM (bn B) υ q i t → lA g B q i t := fun q' i' t h => by
      rcases (hau q' i' t).mp h with h | ⟨rfl, rfl, hb⟩
      · exact hin _ _ _ h
      · exact hlcl.1 t q' (hin _ _ _ ((hm t (bt_lt hb)).mp hb)) et
    have hon : ∀ t q', aM (bn B) μ q (7 * r + p) t → bL B q (rs g r p) = some q' → aM (bn B) υ q' (7 * r + p + 1) t := fun t q' ha e' => by
      rw [et] at e'
      cases e'
      exact (hau _ _ t).mpr (Or.inr ⟨rfl, rfl, (hm t (by have := ha.2.2.1; omega)).mpr ha⟩)
    have hRu := maR_kf hku (by decide) hR
    refine sp_MisKind hc (fun hlo => ⟨fun _ => k υ hku hlu hbu hinu (fun h0 _ => ⟨fun t q' ha e => hon t q' ((hlu.2.1 h0).2 _ _ _ ha) e, fun r' t _ e => by omega⟩), fun h => absurd rfl h⟩) (fun hhi => ⟨fun h => absurd h n1_0, fun _ => ?_⟩)
    have hrwu := rwM_of hw hRu.1 hr
    have heB : eB υ := fun k hk => (hRu.2.1.1 k hk).1
    have hf : ∀ k i, k < 8 → i < 32 → bt (υ.1 6 k) i = true → i < 14 := fun k i hk hi h => ((hRu.2.1.2 k i hk hi).mp h).1
    have hro : ∀ b, ro (oM υ) (rs g r) (rl g r - (p + 1)) (p + 1) b ↔ rst g r p b := fun b => ro_congr (fun k b hk hb => oM_Og hRu.2.1 hk hb) _ _ _ (fun z h1 h2 => (w5 z (by omega)).2)
    -- the rules get their tokens
    have fin : ∀ m', (∀ b, b < 32 → (bt m' b = true ↔ (b < 14 ∧ (rst g r p b ∨ (rst g r p 14 ∧ aM (bn B) μ q (7 * r + p) b))))) → tp_W shM m_Mo_spread 102 [some (.ref 0), some (.int (nI q)), none, none, none, some (.int (nI (s6 (rs g r p)))), none, some (.int m'), some (.int (nI 0))] [] υ (tp_Qv K) := by
      intro m' hm'
      have ec : rs g r p = 14 + (rs g r p - 14) := by omega
      rw [ec]
      refine sp_mRules h100 hw hRu.1 hbu hq (by omega) (fun b hb h => ((hm' b hb).mp h).1) (fun φ hkf hlf hbf haf => ?_)
      have hl2 := mle_tr hlu hlf
      refine k φ (kf_tr hku hkf) hl2 hbf (fun q' i' t h => ?_) (fun h0 _ => ⟨fun t q' ha e => hlf.1 _ _ _ (hon t q' ((hl2.2.1 h0).2 _ _ _ ha) e), fun r' t hr' e ht hx => ?_⟩)
      · rcases (haf q' i' t).mp h with h | ⟨rfl, hb, r', hr', ek, rfl⟩
        · exact hinu _ _ _ h
        · obtain ⟨ht, hx⟩ := (hm' t (bt_lt hb)).mp hb
          refine hlcl.2 r' t hr' (by omega) ht ?_
          rcases hx with hx | ⟨h1, h2⟩
          · exact Or.inl hx
          · exact Or.inr ⟨h1, hin _ _ _ h2⟩
      · refine (haf q (7 * r') t).mpr (Or.inr ⟨rfl, (hm' t (by omega)).mpr ⟨ht, ?_⟩, r', hr', by omega, rfl⟩)
        rcases hx with hx | ⟨h1, h2⟩
        · exact Or.inl hx
        · exact Or.inr ⟨h1, (hl2.2.1 h0).2 _ _ _ h2⟩
    refine sp_first hrwu heB hf (by omega) (fun f hfb => sp_empty hrwu heB (by omega) (fun hy => ⟨fun h => absurd h n1_0, fun _ => fin _ (fun b hb => ?_)⟩) (fun hno => ⟨fun _ => fin _ (fun b hb => ?_), fun h => absurd rfl h⟩))
    · rw [hro] at hy
      rw [b_or]
      simp only [Bool.or_eq_true]
      rw [hfb b hb, hro, hm b hb]
      constructor
      · rintro (⟨h1, h2⟩ | h)
        · exact ⟨h1, Or.inl h2⟩
        · exact ⟨h.2.2.1, Or.inr ⟨hy, h⟩⟩
      · rintro ⟨h1, h2 | ⟨_, h2⟩⟩
        · exact Or.inl ⟨h1, h2⟩
        · exact Or.inr h2
    · rw [hro] at hno
      rw [b_or, show nI 0 = (0 : Int32) from rfl, b_0]
      simp only [Bool.or_false]
      rw [hfb b hb, hro]
      constructor
      · rintro ⟨h1, h2⟩; exact ⟨h1, Or.inl h2⟩
      · rintro ⟨h1, h2 | ⟨h2, _⟩⟩
        · exact ⟨h1, h2⟩
        · exact absurd h2 hno
  · have := nI_le (a := 0) (b := s6 (rs g r p)) (by omega) (by omega)
    exact this
theorem sp_findAhead {g : Gm} {op : Bool} {ok ol : Nat} {os : Nat → Nat} {B : Bs} {μ : tp_S} (hw : gW g) (hB : Bk g B) (hR : maR g op ok ol os B μ) (hz : ∀ q, q < bn B → ∀ j, j < 200 → μ.1 9 (200 * q + j) = nI 0) {K : tp_S → Prop} (k : ∀ ν, kf [9] [31] μ ν → b14 (bn B) ν → (∀ q i t, aM (bn B) ν q i t ↔ lA g B q i t) → K ν) : tp_W shM m_Mo_findAhead 0 [some (.ref 0), none, none] [] μ (tp_Qv K) := by
  have h100 := hB.n100
  have h1 := hB.n1
  have b0' : ∀ b, bt (nI 0) b = false := fun b => b_0 b
  refine bk_Mo_findAhead_0 ⟨vp_in_nI (by decide) (by decide), bo_1, ?_⟩
  rw [nI_clamp (by decide)]
  -- the passes
  suffices h : ∀ (n : Nat) (ν : tp_S), 238000 - cntM (bn B) ν < n → kf [9] [31] μ ν → b14 (bn B) ν → aM (bn B) ν 0 168 0 → (∀ q i t, aM (bn B) ν q i t → lA g B q i t) → ¬ ν.1 0 31 = 0 → tp_W shM m_Mo_findAhead 14 [some (.ref 0), none, none] [] ν (tp_Qv K) by
    refine h 238001 _ (by omega) (kf_s0 (kf_si (kf_rf _ _ _) (by decide) (by decide)) (by decide)) (fun q j b hq hj hb hh => ?_) ⟨h1, by decide, by decide, ?_⟩ (fun q i t hh => ?_) (by rw [si_at]; exact n1_0)
    · rw [si_ne (by decide)] at hh
      by_cases e : 200 * q + j = 192
      · rw [e, si_at, b_one hb] at hh
        have := of_decide_eq_true hh
        omega
      · rw [si_nj e, hz q hq j hj, b0'] at hh
        cases hh
    · rw [si_ne (by decide), show 200 * 0 + (8 * (168 / 7) + 168 % 7) = 192 from rfl, si_at]
      decide
    · obtain ⟨z1, z2, z3, z4⟩ := hh
      rw [si_ne (by decide)] at z4
      by_cases e : 200 * q + (8 * (i / 7) + i % 7) = 192
      · rw [e, si_at, b_one (by omega)] at z4
        have et := of_decide_eq_true z4
        have eq : q = 0 := by omega
        have ei : i = 168 := by omega
        rw [eq, ei, et]
        exact (lA_cl g B).1
      · rw [si_nj e, hz q z1 _ (by omega), b0'] at z4
        cases z4
  intro n
  induction n with
  | zero => intro ν h; omega
  | succ n ih =>
    intro ν hn hk hb h0 hin h31
    refine bk_Mo_findAhead_14 ⟨fun h => absurd h h31, fun _ => ⟨bo_0, ?_⟩⟩
    -- a pass
    have hk0 : kf [9] [31] μ (tp_si ν 0 31 (nI 0)) := kf_s0 hk (by decide)
    have a0 : ∀ q i t, aM (bn B) (tp_si ν 0 31 (nI 0)) q i t ↔ aM (bn B) ν q i t := fun q i t => by unfold aM; rw [si_ne (by decide)]
    have c0 : cntM (bn B) (tp_si ν 0 31 (nI 0)) = cntM (bn B) ν := Nat.le_antisymm (cntM_mono (fun q i t h => (a0 q i t).mp h)) (cntM_mono (fun q i t h => (a0 q i t).mpr h))
    have e0 : (tp_si ν 0 31 (nI 0)).1 0 31 = 0 := si_at
    have b0 : b14 (bn B) (tp_si ν 0 31 (nI 0)) := fun q j b hq hj hb' h => by rw [si_ne (by decide)] at h; exact hb q j b hq hj hb' h
    generalize tp_si ν 0 31 (nI 0) = ν0 at hk0 a0 c0 e0 b0 ⊢
    have in0 : ∀ q i t, aM (bn B) ν0 q i t → lA g B q i t := fun q i t h => hin q i t ((a0 q i t).mp h)
    have z0 : aM (bn B) ν0 0 168 0 := (a0 _ _ _).mpr h0
    suffices h2 : ∀ (m q : Nat) (ξ : tp_S), q + m = bn B → kf [9] [31] μ ξ → mle (bn B) ν0 ξ → b14 (bn B) ξ → (∀ q i t, aM (bn B) ξ q i t → lA g B q i t) → (ξ.1 0 31 = 0 → ∀ q' r p, q' < q → (r < gn g ∨ r = 24) → p < rl g r → bS B q' (7 * r + p) → clo g B (aM (bn B) ξ) q' r p) → tp_W shM m_Mo_findAhead 28 [some (.ref 0), some (.int (nI q)), none] [] ξ (tp_Qv K) from h2 (bn B) 0 ν0 (Nat.zero_add _) hk0 (mle_rf _ _) b0 in0 (fun _ q' r p h => absurd h (Nat.not_lt_zero q'))
    intro m
    induction m with
    | zero =>
      intro q ξ hq hkx hl hbx hinx hc
      have hRx := maR_kf hkx (by decide) hR
      refine bk_Mo_findAhead_28 _ ?_
      rw [hRx.2.2.1]
      refine ⟨fun _ => ?_, fun h => absurd (nI_le (by omega) (by omega)) h⟩
      by_cases hx : ξ.1 0 31 = 0
      · refine bk_Mo_findAhead_14 ⟨fun _ => k ξ hkx hbx (fun q i t => lA_eq hinx ⟨hl.1 _ _ _ z0, fun q' r p hq' hr hp hS => hc hx q' r p (by omega) hr hp hS⟩ q i t), fun h => absurd hx h⟩
      · have hlt : cntM (bn B) ν0 < cntM (bn B) ξ := (hl.2.2 hx).resolve_left (fun z => z e0)
        have := cntM_le (bn B) ξ
        exact ih ξ (by omega) hkx hbx (hl.1 _ _ _ z0) hinx hx
    | succ m ih2 =>
      intro q ξ hq hkx hl hbx hinx hc
      have hRx := maR_kf hkx (by decide) hR
      refine bk_Mo_findAhead_28 _ ?_
      rw [hRx.2.2.1]
      refine ⟨fun h => absurd ((nI_leI (by omega) (by omega)).mp h) (by omega), fun _ => ?_⟩
      suffices h3 : ∀ (l i : Nat) (ξ : tp_S), i + l = 200 → kf [9] [31] μ ξ → mle (bn B) ν0 ξ → b14 (bn B) ξ → (∀ q i t, aM (bn B) ξ q i t → lA g B q i t) → (ξ.1 0 31 = 0 → ∀ q' r p, (q' < q ∨ (q' = q ∧ 8 * r + p < i)) → (r < gn g ∨ r = 24) → p < rl g r → bS B q' (7 * r + p) → clo g B (aM (bn B) ξ) q' r p) → tp_W shM m_Mo_findAhead 38 [some (.ref 0), some (.int (nI q)), some (.int (nI i))] [] ξ (tp_Qv K) from h3 200 0 ξ rfl hkx hl hbx hinx (fun h q' r p z => hc h q' r p (z.elim id (fun y => absurd y.2 (Nat.not_lt_zero _))))
      intro l
      induction l with
      | zero =>
        intro i ξ hi hkx hl hbx hinx hc
        refine bk_Mo_findAhead_38 _ _ ⟨fun _ => ?_, fun h => absurd (nI_le (by omega) (by omega)) h⟩
        rw [nI_add]
        refine ih2 (q + 1) ξ (by omega) hkx hl hbx hinx (fun h q' r p hq' hr hp => hc h q' r p ?_ hr hp)
        have h6 := rl_6 hw hr
        by_cases z : q' = q
        · exact Or.inr ⟨z, by omega⟩
        · exact Or.inl (by omega)
      | succ l ih3 =>
        intro i ξ hi hkx hl hbx hinx hc
        have hRx := maR_kf hkx (by decide) hR
        refine bk_Mo_findAhead_38 _ _ ⟨fun h => absurd ((nI_leI (by omega) (by omega)).mp h) (by omega), fun _ => ?_⟩
        rw [pk_mul]
        simp only [nI_add]
        rw [nI_clamp (by omega), hRx.2.2.2.1 q (by omega) i (by omega)]
        refine ⟨vp_in_nI (by omega) (by decide), fun h => ?_, fun h => ?_⟩
        · have hno := bI_z0.mp h
          refine ih3 (i + 1) ξ (by omega) hkx hl hbx hinx (fun h q' r p hq' hr hp hS => ?_)
          by_cases z : q' = q ∧ 8 * r + p = i
          · exfalso
            apply hno
            have h6 := rl_6 hw hr
            rw [← z.2, mS_rp (by omega), ← z.1]
            exact hS
          · exact hc h q' r p (by omega) hr hp hS
        · have hyes := bI_n0.mp h
          obtain ⟨r, p, hr, hp, e⟩ := hB.v q (by omega) _ hyes.2
          have h6 := rl_6 hw hr
          have h86 := hyes.1
          have ei : i = 8 * r + p := by omega
          have hS : bS B q (7 * r + p) := by rw [← e]; exact hyes.2
          subst ei
          refine sp_Mspread hw hB hRx hbx (by omega) hr hp hS hinx (fun ζ hkz hlz hbz hinz hcz => ih3 (8 * r + p + 1) ζ (by omega) (kf_tr hkx hkz) (mle_tr hl hlz) hbz hinz (fun hz q' r' p' hq' hr' hp' hS' => ?_))
          by_cases z : q' = q ∧ 8 * r' + p' = 8 * r + p
          · have h6' := rl_6 hw hr'
            have er : r' = r := by omega
            have ep : p' = p := by omega
            rw [z.1, er, ep]
            exact hcz hz (by rw [← er, ← ep]; exact hp')
          · exact clo_eq hlz hz (hc (hlz.2.1 hz).1 q' r' p' (by omega) hr' hp' hS')
