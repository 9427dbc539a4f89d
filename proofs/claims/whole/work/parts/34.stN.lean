/-! the reference's states, found -/
def lv (o : Option Nat) : Int32 := match o with
  | none => -1
  | some t => nI t
def ldv (L : Nat → Option Nat) (s : Nat) : Int32 := if s < 14 then lv (L s) else if s < 20 then -1 else lv (L (s - 6))
def stM (B : Bs) (μ : tp_S) : Prop := μ.1 0 9 = bI (bb B) ∧ (bb B = false → μ.1 0 16 = nI (bn B) ∧ ∀ q, q < bn B → hsM μ 7 q (bS B q) ∧ hsM μ 8 q (Kn (bS B q)) ∧ (∀ j, j < 200 → μ.1 9 (200 * q + j) = nI 0) ∧ ∀ s, s < 28 → μ.1 10 (28 * q + s) = ldv (bL B q) s)
def nx (μ : tp_S) (N : Nat → Prop) : Prop := ∀ j, j < 200 → μ.1 11 j = bI (pd (mS N j))
theorem nx_eq {μ : tp_S} {q : Nat} {A N : Nat → Prop} (hA : hsM μ 8 q A) (hN : nx μ N) (h1 : ∀ i, A i → i < 170) (h2 : ∀ i, N i → i < 170) : (∀ j, j < 200 → μ.1 8 (200 * q + j) = μ.1 11 j) ↔ ∀ i, A i ↔ N i := by
  constructor
  · intro h i
    by_cases hi : i < 170
    · have := h (8 * (i / 7) + i % 7) (by omega)
      rw [hA _ (by omega), hN _ (by omega)] at this
      have := bI_pq this
      rw [mS_i, mS_i] at this
      exact this
    · exact ⟨fun z => absurd (h1 i z) hi, fun z => absurd (h2 i z) hi⟩
  · intro h j hj
    rw [hA j hj, hN j hj]
    refine congrArg bI (pd_i ?_)
    unfold mS
    rw [h]
def bH (g : Gm) (B : Bs) : Prop := bn B ≤ 100 ∧ (∀ q c t, bL B q c = some t → q < bn B) ∧ bKV g B ∧ bb B = false
theorem ldv_none (s : Nat) : ldv (fun _ => none) s = -1 := by
  unfold ldv
  split
  · rfl
  · split <;> rfl
theorem sp_soN {g : Gm} {op : Bool} {ok ol : Nat} {os : Nat → Nat} {B : Bs} {μ : tp_S} (hw : gW g) (hg : gM g op ok ol os μ) (hH : bH g B) (hst : stM B μ) {N : Nat → Prop} (hN : nx μ N) (hNk : ∀ i, N i → krn i ∧ vI g i) {K : Int32 → tp_S → Prop}
    (k1 : ∀ j, lst (fun j => ∀ i, bS B j i ↔ Cl g N i) (bn B) = some j → K (nI j) μ)
    (k2 : lst (fun j => ∀ i, bS B j i ↔ Cl g N i) (bn B) = none → bn B < 100 → ∀ ν, kf [7, 8, 9, 10] [16] μ ν → stM (bn B + 1, va_up (bS B) (bn B) (Cl g N), bL B, false) ν → K (nI (bn B)) ν)
    (k3 : lst (fun j => ∀ i, bS B j i ↔ Cl g N i) (bn B) = none → ¬ bn B < 100 → K (-1) (tp_si μ 0 9 (nI 1))) : tp_W shM m_Mo_stateOfNext 0 [some (.ref 0), none, none, none] [] μ (tp_Qi K) := by
  obtain ⟨hn, hL, hKV, hb⟩ := hH
  obtain ⟨s9, hst⟩ := hst
  obtain ⟨s16, hst⟩ := hst hb
  have hN170 : ∀ i, N i → i < 170 := fun i h => vI_lt hw (hNk i h).2
  have eqv : ∀ q, q < bn B → ((∀ j, j < 200 → μ.1 8 (200 * q + j) = μ.1 11 j) ↔ ∀ i, bS B q i ↔ Cl g N i) := by
    intro q hq
    rw [nx_eq (hst q hq).2.1 hN (fun i h => vI_lt hw ((hKV q hq).2 i h.1)) hN170]
    constructor
    · intro h i
      have e : Kn (bS B q) = N := by funext a; exact propext (h a)
      rw [(hKV q hq).1, e]
    · intro h i
      have e : bS B q = Cl g N := by funext a; exact propext (h a)
      rw [e, Cl_krn hw (fun i h => (hNk i h).1)]
  refine bk_Mo_stateOfNext_0 ?_
  suffices h : ∀ (n q : Nat), q + n = bn B → (∀ j, j < q → ¬ ∀ i, bS B j i ↔ Cl g N i) → tp_W shM m_Mo_stateOfNext 2 [some (.ref 0), some (.int (nI q)), none, none] [] μ (tp_Qi K) from h (bn B) 0 (Nat.zero_add _) (fun j hj => absurd hj (Nat.not_lt_zero j))
  intro n
  induction n with
  | succ n ih =>
    intro q hq hno
    have next : (¬ ∀ i, bS B q i ↔ Cl g N i) → tp_W shM m_Mo_stateOfNext 2 [some (.ref 0), some (.int (nI (q + 1))), none, none] [] μ (tp_Qi K) := by
      intro h
      refine ih (q + 1) (by omega) (fun j hj => ?_)
      by_cases e : j = q
      · subst e; exact h
      · exact hno j (by omega)
    refine bk_Mo_stateOfNext_2 _ ?_
    rw [s16]
    refine ⟨fun h => absurd ((nI_leI (by omega) (by omega)).mp h) (by omega), fun _ => ?_⟩
    suffices h2 : ∀ (m j : Nat) (x : Int32), j + m = 200 → (x = nI 1 ∧ (∀ i, i < j → μ.1 8 (200 * q + i) = μ.1 11 i) ∨ x = nI 0 ∧ ¬ ∀ i, bS B q i ↔ Cl g N i) → tp_W shM m_Mo_stateOfNext 14 [some (.ref 0), some (.int (nI q)), some (.int x), some (.int (nI j))] [] μ (tp_Qi K) from h2 200 0 (nI 1) rfl (Or.inl ⟨rfl, fun i hi => absurd hi (Nat.not_lt_zero i)⟩)
    intro m
    induction m with
    | zero =>
      intro j x hj hx
      refine bk_Mo_stateOfNext_14 _ _ _ ?_
      rw [nI_add]
      refine ⟨fun _ => ⟨fun h0 => ?_, fun h1 => ?_⟩, fun h => absurd (nI_le (by omega) (by omega)) h⟩
      · rcases hx with ⟨e, _⟩ | ⟨_, h⟩
        · rw [e] at h0; exact absurd h0 n1_0
        · exact next h
      · rcases hx with ⟨_, h⟩ | ⟨e, _⟩
        · exact k1 q (lst_some ((eqv q (by omega)).mp (fun i hi => h i (by omega))) hno (by omega))
        · exact absurd e h1
    | succ m ih2 =>
      intro j x hj hx
      refine bk_Mo_stateOfNext_14 _ _ _ ?_
      rw [nI_add, nI_add, pk_mul, nI_add, nI_clamp (by omega), nI_clamp (by omega)]
      refine ⟨fun h => absurd ((nI_leI (by omega) (by omega)).mp h) (by omega), fun _ => ⟨fun h0 => ⟨fun _ => ?_, fun h => absurd h0 h⟩, fun h1 => ⟨vp_in_nI (by omega) (by decide), vp_in_nI (by omega) (by decide), fun hne => ?_, fun he => ?_⟩⟩⟩
      · rcases hx with ⟨e, _⟩ | ⟨_, h⟩
        · rw [e] at h0; exact absurd h0 n1_0
        · exact next h
      · exact ih2 (j + 1) _ (by omega) (Or.inr ⟨rfl, fun z => hne ((eqv q (by omega)).mpr z j (by omega))⟩)
      · rcases hx with ⟨e, h⟩ | ⟨e, _⟩
        · refine ih2 (j + 1) _ (by omega) (Or.inl ⟨rfl, fun i hi => ?_⟩)
          by_cases z : i = j
          · subst z; exact he
          · exact h i (by omega)
        · exact absurd e h1
  | zero =>
    intro q hq hno
    have hl : lst (fun j => ∀ i, bS B j i ↔ Cl g N i) (bn B) = none := lst_none (fun j hj => hno j (by omega))
    refine bk_Mo_stateOfNext_2 _ ?_
    rw [s16]
    refine ⟨fun _ => ⟨fun hne => ?_, fun he => ⟨bo_1, k3 hl (fun z => ?_)⟩⟩, fun h => absurd (nI_le (by omega) (by omega)) h⟩
    · have hlt : bn B < 100 := by
        rcases Nat.lt_or_ge (bn B) 100 with z | z
        · exact z
        · exact absurd (by rw [show bn B = 100 by omega]) hne
      generalize hbn : bn B = b at *
      -- leads are laid out
      have ph3 : ∀ (m s : Nat) (ν : tp_S), s + m = 28 → kf [7, 8, 9, 10] [] μ ν → (∀ j, j < 200 → ν.1 8 (200 * b + j) = μ.1 11 j ∧ ν.1 7 (200 * b + j) = μ.1 11 j ∧ ν.1 9 (200 * b + j) = nI 0) → (∀ x, x < 200 * b → ν.1 8 x = μ.1 8 x ∧ ν.1 7 x = μ.1 7 x ∧ ν.1 9 x = μ.1 9 x) → (∀ x, x < 28 * b → ν.1 10 x = μ.1 10 x) → (∀ j, j < s → ν.1 10 (28 * b + j) = -1) → tp_W shM m_Mo_stateOfNext 161 [some (.ref 0), some (.int (nI s)), none, none] [] ν (tp_Qi K) := by
        intro m
        induction m with
        | zero =>
          intro s ν hs hk c1 c2 c3 c4
          have e16 : ν.1 0 16 = nI b := (hk.2 16 (by decide)).trans s16
          refine bk_Mo_stateOfNext_161 _ ?_
          rw [e16]
          refine ⟨fun _ => sp_Mcomplete hw (gM_kf hk (by decide) hg) hlt (fun i h => (hNk i h).2) (fun j hj => by rw [(c1 j hj).2.1, hN j hj]) (fun ξ f1 f2 => ?_), fun h => absurd (nI_le (by omega) (by omega)) h⟩
          have e16' : ξ.1 0 16 = nI b := by rw [f1.1.1 0 (by decide)]; exact e16
          rw [e16', nI_add, pk_sub (by omega), Nat.add_sub_cancel]
          refine k2 hl hlt _ (kf_s0 (kf_tr (kf_sub hk (fun _ h => h) (fun _ h => absurd h List.not_mem_nil)) (kf_ke f1.1 (by decide) (by decide))) (by decide)) ⟨?_, fun _ => ⟨si_at, fun a ha => ?_⟩⟩
          · rw [si_nj (by decide), f1.1.1 0 (by decide), hk.2 9 (by decide), s9, hb]
          · have ha' : a < b + 1 := ha
            show hsM _ 7 a (va_up (bS B) b (Cl g N) a) ∧ hsM _ 8 a (Kn (va_up (bS B) b (Cl g N) a)) ∧ _ ∧ _
            by_cases e : a = b
            · subst e
              rw [va_up_self]
              refine ⟨fun j hj => ?_, fun j hj => ?_, fun j hj => ?_, fun s hs => ?_⟩
              · rw [si_ne (by decide)]; exact f2 j hj
              · rw [si_ne (by decide), f1.1.1 8 (by decide), (c1 j hj).1, hN j hj, Cl_Kn hw (fun i h => (hNk i h).1)]
              · rw [si_ne (by decide), f1.1.1 9 (by decide)]; exact (c1 j hj).2.2
              · rw [si_ne (by decide), f1.1.1 10 (by decide), c4 s (by omega)]
                have : bL B a = fun _ => none := by
                  funext c
                  cases hc : bL B a c with
                  | none => rfl
                  | some t => have := hL a c t hc; omega
                show _ = ldv (bL B a) s
                rw [this, ldv_none]
            · rw [va_up_ne _ _ e]
              obtain ⟨d1, d2, d3, d4⟩ := hst a (by omega)
              refine ⟨fun j hj => ?_, fun j hj => ?_, fun j hj => ?_, fun s hs => ?_⟩
              · rw [si_ne (by decide), f1.2 _ (Or.inl (by omega)), (c2 _ (by omega)).2.1]; exact d1 j hj
              · rw [si_ne (by decide), f1.1.1 8 (by decide), (c2 _ (by omega)).1]; exact d2 j hj
              · rw [si_ne (by decide), f1.1.1 9 (by decide), (c2 _ (by omega)).2.2]; exact d3 j hj
              · rw [si_ne (by decide), f1.1.1 10 (by decide), c3 _ (by omega)]; exact d4 s hs
        | succ m ih =>
          intro s ν hs hk c1 c2 c3 c4
          have e16 : ν.1 0 16 = nI b := (hk.2 16 (by decide)).trans s16
          refine bk_Mo_stateOfNext_161 _ ?_
          rw [e16, pk_mul, nI_add, nI_add, nI_clamp (by omega)]
          refine ⟨fun h => absurd ((nI_leI (by omega) (by omega)).mp h) (by omega), fun _ => ⟨vp_in_nI (by omega) (by decide), ih (s + 1) _ (by omega) (kf_si hk (by decide) (by decide)) (fun j hj => ?_) (fun x hx => ?_) (fun x hx => ?_) (fun j hj => ?_)⟩⟩
          · rw [si_ne (by decide), si_ne (by decide), si_ne (by decide)]; exact c1 j hj
          · rw [si_ne (by decide), si_ne (by decide), si_ne (by decide)]; exact c2 x hx
          · rw [si_nj (by omega)]; exact c3 x hx
          · by_cases z : j = s
            · subst z; exact si_at
            · rw [si_nj (by omega)]; exact c4 j (by omega)
      suffices h2 : ∀ (m i : Nat) (ν : tp_S), i + m = 200 → kf [7, 8, 9] [] μ ν → (∀ j, j < i → ν.1 8 (200 * b + j) = μ.1 11 j ∧ ν.1 7 (200 * b + j) = μ.1 11 j ∧ ν.1 9 (200 * b + j) = nI 0) → (∀ x, x < 200 * b → ν.1 8 x = μ.1 8 x ∧ ν.1 7 x = μ.1 7 x ∧ ν.1 9 x = μ.1 9 x) → tp_W shM m_Mo_stateOfNext 88 [some (.ref 0), some (.int (nI i)), none, none] [] ν (tp_Qi K) from h2 200 0 μ rfl (kf_rf _ _ _) (fun j hj => absurd hj (Nat.not_lt_zero j)) (fun _ _ => ⟨rfl, rfl, rfl⟩)
      intro m
      induction m with
      | zero =>
        intro i ν hi hk c1 c2
        exact bk_Mo_stateOfNext_88 _ ⟨fun _ => ph3 28 0 ν rfl (kf_sub hk (by decide) (by decide)) (fun j hj => c1 j (by omega)) c2 (fun x _ => by rw [hk.1 10 (by decide) (by decide)]) (fun j hj => absurd hj (Nat.not_lt_zero j)), fun h => absurd (nI_le (by omega) (by omega)) h⟩
      | succ m ih =>
        intro i ν hi hk c1 c2
        have e16 : ν.1 0 16 = nI b := (hk.2 16 (by decide)).trans s16
        have e11 : ν.1 11 i = μ.1 11 i := by rw [hk.1 11 (by decide) (by decide)]
        refine bk_Mo_stateOfNext_88 _ ?_
        rw [e16, pk_mul, nI_add, nI_add, nI_clamp (by omega), nI_clamp (by omega), e11]
        have b01 : μ.1 11 i = 0 ∨ μ.1 11 i = 1 := by rw [hN i (by omega)]; exact bI_o _
        refine ⟨fun h => absurd ((nI_leI (by omega) (by omega)).mp h) (by omega), fun _ => ⟨vp_in_nI (by omega) (by decide), vp_in_nI (by omega) (by decide), b01, vp_in_nI (by omega) (by decide), vp_in_nI (by omega) (by decide), b01, vp_in_nI (by omega) (by decide), ih (i + 1) _ (by omega) (kf_si (kf_si (kf_si hk (by decide) (by decide)) (by decide) (by decide)) (by decide) (by decide)) (fun j hj => ?_) (fun x hx => ?_)⟩⟩
        · by_cases z : j = i
          · subst z
            refine ⟨?_, ?_, si_at⟩
            · rw [si_ne (by decide), si_ne (by decide), si_at]
            · rw [si_ne (by decide), si_at]
          · rw [si_ne (b := 8) (a := 9) (by decide), si_ne (b := 8) (a := 7) (by decide), si_nj (by omega), si_ne (b := 7) (a := 9) (by decide), si_nj (by omega), si_ne (b := 7) (a := 8) (by decide), si_nj (by omega), si_ne (b := 9) (a := 7) (by decide), si_ne (b := 9) (a := 8) (by decide)]
            exact c1 j (by omega)
        · rw [si_ne (b := 8) (a := 9) (by decide), si_ne (b := 8) (a := 7) (by decide), si_nj (by omega), si_ne (b := 7) (a := 9) (by decide), si_nj (by omega), si_ne (b := 7) (a := 8) (by decide), si_nj (by omega), si_ne (b := 9) (a := 7) (by decide), si_ne (b := 9) (a := 8) (by decide)]
          exact c2 x hx
    · have := (nI_eq (by omega) (by decide)).mp he
      omega
/-- what a symbol leads to -/
def advs (g : Gm) (S : Nat → Prop) (s i : Nat) : Prop := ∃ c, c < 22 ∧ s6 c = s ∧ adv g S c i
theorem s6_inj {a b : Nat} (h : s6 a = s6 b) : a = b := by
  unfold s6 at h
  split at h <;> split at h <;> omega
theorem advs_6 {g : Gm} {S : Nat → Prop} {c : Nat} (hc : c < 22) : advs g S (s6 c) = adv g S c := by
  funext i
  refine propext ⟨fun ⟨c', _, h2, h3⟩ => ?_, fun h => ⟨c, hc, rfl, h⟩⟩
  rw [← s6_inj h2]; exact h3
theorem mN_iff {g : Gm} (hw : gW g) {S : Nat → Prop} {s i : Nat} : mS (advs g S s) (i + 1) ↔ ∃ r p, (r < gn g ∨ r = 24) ∧ p < rl g r ∧ i = 8 * r + p ∧ S (7 * r + p) ∧ s6 (rs g r p) = s := by
  constructor
  · rintro ⟨h1, c, hc, hs, j, e, hS, r, p, hr, hp, e2, e3⟩
    have h6 := rl_6 hw hr
    refine ⟨r, p, hr, hp, by omega, by rw [← e2]; exact hS, by rw [e3]; exact hs⟩
  · rintro ⟨r, p, hr, hp, e, hS, hs⟩
    have h6 := rl_6 hw hr
    have hb : bcs g (7 * r + p) (rs g r p) := ⟨r, p, hr, hp, rfl, rfl⟩
    refine ⟨by omega, rs g r p, (bcs_lt hw hb).2, hs, 7 * r + p, by omega, hS, hb⟩
theorem mN_0 {g : Gm} {S : Nat → Prop} {s : Nat} : ¬ mS (advs g S s) 0 := by
  rintro ⟨_, c, _, _, j, e, _⟩
  omega
theorem ldv_lup {L : Nat → Nat → Option Nat} {q c t a s : Nat} (hc : c < 22) : ldv (lup L q c t a) s = if a = q ∧ s = s6 c then nI t else ldv (L a) s := by
  unfold ldv lup
  by_cases e : a = q
  · subst e
    simp only [true_and]
    by_cases y : s < 14
    · simp only [if_pos y]
      by_cases z : s = c
      · subst z; simp [s6_lo y, lv]
      · have : s ≠ s6 c := by unfold s6; split <;> omega
        simp only [if_neg z, if_neg this]
    · simp only [if_neg y]
      by_cases x : s < 20
      · have : s ≠ s6 c := by unfold s6; split <;> omega
        simp only [if_pos x, if_neg this]
      · simp only [if_neg x]
        by_cases z : s - 6 = c
        · have : s = s6 c := by rw [s6_hi (by omega)]; omega
          rw [if_pos z, if_pos this]; rfl
        · have : s ≠ s6 c := by unfold s6; split <;> omega
          rw [if_neg z, if_neg this]
  · simp only [e, false_and, if_false]
theorem stM_kf {B : Bs} {μ ν : tp_S} {cs js : List Nat} (hk : kf cs js μ ν) (h7 : 7 ∉ cs ∧ 8 ∉ cs ∧ 9 ∉ cs ∧ 10 ∉ cs ∧ 9 ∉ js ∧ 16 ∉ js) (h : stM B μ) : stM B ν := by
  obtain ⟨a1, a2⟩ := h
  refine ⟨(hk.2 9 h7.2.2.2.2.1).trans a1, fun hb => ?_⟩
  obtain ⟨b1, b2⟩ := a2 hb
  refine ⟨(hk.2 16 h7.2.2.2.2.2).trans b1, fun q hq => ?_⟩
  unfold hsM
  rw [hk.1 7 h7.1 (by decide), hk.1 8 h7.2.1 (by decide), hk.1 9 h7.2.2.1 (by decide), hk.1 10 h7.2.2.2.1 (by decide)]
  exact b2 q hq
abbrev csM : List Nat := [7, 8, 9, 10, 11]
theorem sp_Mlead {g : Gm} {op : Bool} {ok ol : Nat} {os : Nat → Nat} {B : Bs} {μ : tp_S} (hw : gW g) (hg : gM g op ok ol os μ) (hH : bH g B) (hst : stM B μ) {q s : Nat} (hq : q < bn B) (hs : s < 28) {K : tp_S → Prop}
    (kc : ∀ c, c < 22 → s = s6 c → ∀ ν, kf csM [9, 16] μ ν → stM (bst g q c B) ν → K ν)
    (kn : 14 ≤ s → s < 20 → ∀ ν, kf csM [9, 16] μ ν → stM B ν → K ν) : tp_W shM m_Mo_lead 0 [some (.ref 0), some (.int (nI q)), some (.int (nI s)), none, none] [] μ (tp_Qv K) := by
  have hq100 : q < 100 := by have := hH.1; omega
  have hbb := hH.2.2.2
  have hKV := hH.2.2.1 q hq
  have h7 : hsM μ 7 q (bS B q) := ((hst.2 hbb).2 q hq).1
  have hscase : (∃ c, c < 22 ∧ s = s6 c) ∨ (14 ≤ s ∧ s < 20) := by
    by_cases z : s < 14
    · exact Or.inl ⟨s, by omega, by rw [s6_lo z]⟩
    · by_cases y : s < 20
      · exact Or.inr ⟨by omega, y⟩
      · exact Or.inl ⟨s - 6, by omega, by rw [s6_hi (by omega)]; omega⟩
  -- the second loop
  have ph2 : ∀ (n i : Nat) (x : Int32) (ν : tp_S), i + n = 200 → kf [11] [] μ ν → (∀ j, j < 200 → ν.1 11 j = bI (pd (mS (advs g (bS B q) s) j ∧ j ≤ i))) → (x = nI 0 ∧ (∀ j, j ≤ i → ¬ mS (advs g (bS B q) s) j) ∨ x = nI 1 ∧ ∃ a, advs g (bS B q) s a) → tp_W shM m_Mo_lead 30 [some (.ref 0), some (.int (nI q)), some (.int (nI s)), some (.int x), some (.int (nI i))] [] ν (tp_Qv K) := by
    intro n
    induction n with
    | zero =>
      intro i x ν hi hk h11 hx
      refine bk_Mo_lead_30 _ _ _ _ ⟨fun _ => ⟨fun h0 => ?_, fun h1 => ?_⟩, fun h => absurd (nI_le (by omega) (by omega)) h⟩
      · rcases hx with ⟨_, h⟩ | ⟨e, _⟩
        · have hno : ∀ a, ¬ advs g (bS B q) s a := fun a ha => by
            obtain ⟨c, hc, e, had⟩ := ha
            have hlt := adv_lt hw had
            exact h (8 * (a / 7) + a % 7) (by omega) ((mS_i a).mpr ⟨c, hc, e, had⟩)
          have hk' : kf csM [9, 16] μ ν := kf_sub hk (by decide) (by decide)
          have hs' := stM_kf hk (by decide) hst
          rcases hscase with ⟨c, hc, e⟩ | ⟨z1, z2⟩
          · refine kc c hc e ν hk' ?_
            rw [bst_skip (fun z => by
              obtain ⟨a, ha⟩ := z.2.2
              exact hno a ⟨c, hc, e.symm, ha⟩)]
            exact hs'
          · exact kn z1 z2 ν hk' hs'
        · rw [e] at h0; exact absurd h0 n1_0
      · rcases hx with ⟨e, _⟩ | ⟨_, a, ha⟩
        · exact absurd e h1
        · obtain ⟨c, hc, e, had⟩ := ha
          have hcond : bb B = false ∧ q < bn B ∧ ∃ i, adv g (bS B q) c i := ⟨hbb, hq, a, had⟩
          have hN : nx ν (adv g (bS B q) c) := fun j hj => by
            rw [h11 j hj, ← advs_6 hc, e]
            exact congrArg bI (pd_i ⟨fun h => h.1, fun h => ⟨h, by omega⟩⟩)
          have hk' : kf csM [9, 16] μ ν := kf_sub hk (by decide) (by decide)
          have hs' := stM_kf hk (by decide) hst
          have hs6 : s6 c < 28 := by rw [e]; exact hs
          subst e
          have e28 : (nI 28 * nI q + nI (s6 c)) = nI (28 * q + s6 c) := by rw [pk_mul, nI_add]
          -- a lead is written down
          have wr : ∀ (ξ : tp_S) (t : Nat) (B' : Bs), kf csM [9, 16] μ ξ → bb B' = false → q < bn B' → stM B' ξ → bst g q c B = (bn B', bS B', lup (bL B') q c t, false) → K (tp_si ξ 10 (28 * q + s6 c) (nI t)) := by
            intro ξ t B' hkx hb' hqB' hsx hB'
            refine kc c hc rfl _ (kf_si hkx (by decide) (by decide)) ?_
            rw [hB']
            obtain ⟨d1, d2⟩ := hsx
            obtain ⟨d2, d3⟩ := d2 hb'
            refine ⟨by rw [si_ne (by decide), d1, hb'], fun _ => ⟨by rw [si_ne (by decide)]; exact d2, fun a ha => ?_⟩⟩
            obtain ⟨f1, f2, f3, f4⟩ := d3 a ha
            refine ⟨fun j hj => by rw [si_ne (by decide)]; exact f1 j hj, fun j hj => by rw [si_ne (by decide)]; exact f2 j hj, fun j hj => by rw [si_ne (by decide)]; exact f3 j hj, fun s hs => ?_⟩
            show _ = ldv (lup (bL B') q c t a) s
            rw [ldv_lup hc]
            by_cases z : a = q ∧ s = s6 c
            · rw [if_pos z, z.1, z.2, si_at]
            · rw [if_neg z, si_nj (by omega)]; exact f4 s hs
          refine sp_soN hw (gM_kf hk (by decide) hg) hH hs' hN (fun i h => ⟨adv_krn hw h, adv_vI h⟩) (fun j hj => ?_) (fun hl hlt ξ hkx hsx => ?_) (fun hl hge => ?_)
          · rw [e28, nI_clamp (by omega)]
            exact ⟨vp_in_nI (by omega) (by decide), wr ν j B hk' hbb hq hs' (bst_old hcond hj)⟩
          · rw [e28, nI_clamp (by omega)]
            exact ⟨vp_in_nI (by omega) (by decide), wr ξ (bn B) _ (kf_tr hk' (kf_sub hkx (by decide) (by decide))) rfl (by show q < bn B + 1; omega) hsx (bst_new hcond hl hlt)⟩
          · rw [e28, nI_clamp (by omega)]
            refine ⟨vp_in_nI (by omega) (by decide), kc c hc rfl _ (kf_si (kf_s0 hk' (by decide)) (by decide) (by decide)) ?_⟩
            rw [bst_big hcond hl hge]
            exact ⟨by rw [si_ne (by decide), si_at]; rfl, fun h => by cases h⟩
    | succ n ih =>
      intro i x ν hi hk h11 hx
      have hgt := gM_kf hk (by decide) hg
      have e7 : ν.1 7 (200 * q + i) = bI (pd (mS (bS B q) i)) := by rw [hk.1 7 (by decide) (by decide)]; exact h7 i (by omega)
      -- nothing comes of item i
      have skip : ¬ mS (advs g (bS B q) s) (i + 1) → tp_W shM m_Mo_lead 30 [some (.ref 0), some (.int (nI q)), some (.int (nI s)), some (.int x), some (.int (nI (i + 1)))] [] ν (tp_Qv K) := by
        intro hno
        refine ih (i + 1) x ν (by omega) hk (fun j hj => ?_) ?_
        · rw [h11 j hj]
          refine congrArg bI (pd_i ⟨fun h => ⟨h.1, by omega⟩, fun h => ⟨h.1, ?_⟩⟩)
          by_cases z : j = i + 1
          · subst z; exact absurd h.1 hno
          · omega
        · rcases hx with ⟨e, h⟩ | h
          · refine Or.inl ⟨e, fun j hj => ?_⟩
            by_cases z : j = i + 1
            · subst z; exact hno
            · exact h j (by omega)
          · exact Or.inr h
      refine bk_Mo_lead_30 _ _ _ _ ⟨fun h => absurd ((nI_leI (by omega) (by omega)).mp h) (by omega), fun _ => ?_⟩
      rw [pk_mul, nI_add, nI_add, nI_clamp (by omega), e7, pk_rem (by omega) (by decide) (by decide), pk_div (by omega) (by decide) (by decide)]
      refine ⟨vp_in_nI (by omega) (by decide), fun h => skip (fun z => ?_), fun h => ⟨by decide, by decide, ?_⟩⟩
      · obtain ⟨r, p, hr, hp, e, hS, _⟩ := (mN_iff hw).mp z
        have h6 := rl_6 hw hr
        refine bI_z0.mp h ?_
        rw [e]; exact (mS_rp (by omega)).mpr hS
      · have hm := bI_n0.mp h
        obtain ⟨r, p, hr, hp, e⟩ := hKV.2 _ hm.2
        have h6 := rl_6 hw hr
        have h86 := hm.1
        have er : i / 8 = r := by omega
        have ep : i % 8 = p := by omega
        have hSi : bS B q (7 * r + p) := by rw [← e]; exact hm.2
        rw [er, ep]
        refine sp_symAt hw hgt hr hp (fun hlt hc => ?_) (fun hge => ⟨fun _ => skip (fun z => ?_), fun z => absurd z.symm (nI_neg1 (by omega))⟩)
        · have h28 : s6 (rs g r p) < 28 := by
            unfold s6
            split <;> omega
          rw [nI_eq (by omega) (by omega)]
          refine ⟨fun hne => skip (fun z => ?_), fun he => ?_⟩
          · obtain ⟨r', p', hr', hp', e', hS', hs'⟩ := (mN_iff hw).mp z
            have h6' := rl_6 hw hr'
            have e1 : r' = r := by omega
            have e2 : p' = p := by omega
            rw [e1, e2] at hs'
            exact hne hs'
          · have hyes : mS (advs g (bS B q) s) (i + 1) := (mN_iff hw).mpr ⟨r, p, hr, hlt, by omega, hSi, he⟩
            rw [nI_clamp (by omega)]
            refine ⟨vp_in_nI (by omega) (by decide), bo_1, ih (i + 1) _ _ (by omega) (kf_si hk (by decide) (by decide)) (fun j hj => ?_) (Or.inr ⟨rfl, _, hyes.2⟩)⟩
            by_cases z : j = i + 1
            · subst z
              rw [si_at, bI_t ⟨hyes, Nat.le_refl _⟩]
            · rw [si_nj z, h11 j hj]
              exact congrArg bI (pd_i ⟨fun h => ⟨h.1, by omega⟩, fun h => ⟨h.1, by omega⟩⟩)
        · obtain ⟨r', p', hr', hp', e', hS', hs'⟩ := (mN_iff hw).mp z
          have h6' := rl_6 hw hr'
          have e1 : r' = r := by omega
          subst e1
          omega
  refine bk_Mo_lead_0 _ _ ?_
  suffices h : ∀ (n i : Nat) (ν : tp_S), i + n = 200 → kf [11] [] μ ν → (∀ j, j < i → ν.1 11 j = nI 0) → tp_W shM m_Mo_lead 5 [some (.ref 0), some (.int (nI q)), some (.int (nI s)), some (.int (nI 0)), some (.int (nI i))] [] ν (tp_Qv K) from h 200 0 μ rfl (kf_rf _ _ _) (fun j hj => absurd hj (Nat.not_lt_zero j))
  intro n
  induction n with
  | zero =>
    intro i ν hi hk hz
    refine bk_Mo_lead_5 _ _ _ _ ⟨fun _ => ph2 200 0 _ ν rfl hk (fun j hj => ?_) (Or.inl ⟨rfl, fun j hj => ?_⟩), fun h => absurd (nI_le (by omega) (by omega)) h⟩
    · rw [hz j (by omega), bI_f]
      rintro ⟨h1, h2⟩
      have : j = 0 := by omega
      subst this
      exact mN_0 h1
    · have : j = 0 := by omega
      subst this
      exact mN_0
  | succ n ih =>
    intro i ν hi hk hz
    refine bk_Mo_lead_5 _ _ _ _ ⟨fun h => absurd ((nI_leI (by omega) (by omega)).mp h) (by omega), fun _ => ⟨vp_in_nI (by omega) (by decide), bo_0, ?_⟩⟩
    rw [nI_clamp (by omega), nI_add]
    refine ih (i + 1) _ (by omega) (kf_si hk (by decide) (by decide)) (fun j hj => ?_)
    by_cases z : j = i
    · subst z; exact si_at
    · rw [si_nj z]; exact hz j (by omega)
def cc (s : Nat) : Nat := if s < 14 then s else if s < 20 then 14 else s - 6
theorem sp_makeStates {g : Gm} {op : Bool} {ok ol : Nat} {os : Nat → Nat} {μ : tp_S} (hw : gW g) (hg : gM g op ok ol os μ) {K : tp_S → Prop} (k : ∀ ν, kf csM [9, 16] μ ν → stM (bfs g 2200) ν → K ν) : tp_W shM m_Mo_makeStates 0 [some (.ref 0), none, none, none] [] μ (tp_Qv K) := by
  -- all states
  have ph3 : ∀ (n q : Nat) (ν : tp_S), q + n = 100 → kf csM [9, 16] μ ν → stM (bfs g (22 * q)) ν → tp_W shM m_Mo_makeStates 50 [some (.ref 0), none, some (.int (nI q)), none] [] ν (tp_Qv K) := by
    intro n
    induction n with
    | zero =>
      intro q ν hq hk hs
      have hq' : q = 100 := by omega
      subst hq'
      refine bk_Mo_makeStates_50 _ ⟨fun _ => k ν hk hs, fun h => ⟨fun _ => k ν hk hs, fun h9 => ?_⟩⟩
      rw [hs.1, bI_0] at h9
      rw [(hs.2 h9).1] at h
      have := (bfs_OK hw (22 * 100)).2.1
      exact absurd (nI_le this (by omega)) h
    | succ n ih =>
      intro q ν hq hk hs
      have done : bb (bfs g (22 * q)) = true ∨ bn (bfs g (22 * q)) ≤ q → bfs g 2200 = bfs g (22 * q) := by
        intro h
        have : bfs g (22 * q + (2200 - 22 * q)) = bfs g (22 * q) := by
          rcases h with h | h
          · exact bfs_big h _
          · exact bfs_end (by rw [show 22 * q / 22 = q by omega]; exact h) _
        rw [show 22 * q + (2200 - 22 * q) = 2200 by omega] at this
        exact this
      have hbt : ¬ bI (bb (bfs g (22 * q))) = 0 → bb (bfs g (22 * q)) = true := fun h => by
        rw [bI_0] at h
        simpa using h
      refine bk_Mo_makeStates_50 _ ?_
      rw [hs.1]
      refine ⟨fun h => ?_, fun h => ⟨fun h9 => ?_, fun h9 => ?_⟩⟩
      · by_cases h9 : bI (bb (bfs g (22 * q))) = 0
        · rw [bI_0] at h9
          rw [(hs.2 h9).1] at h
          have hle := (nI_leI (by have := (bfs_OK hw (22 * q)).2.1; omega) (by omega)).mp h
          exact k ν hk (by rw [done (Or.inr hle)]; exact hs)
        · exact k ν hk (by rw [done (Or.inl (hbt h9))]; exact hs)
      · exact k ν hk (by rw [done (Or.inl (hbt h9))]; exact hs)
      · rw [bI_0] at h9
        rw [(hs.2 h9).1] at h
        have hqn : q < bn (bfs g (22 * q)) := by
          rcases Nat.lt_or_ge q (bn (bfs g (22 * q))) with z | z
          · exact z
          · exact absurd (nI_le z (by omega)) h
        suffices h2 : ∀ (m s : Nat) (ξ : tp_S), s + m = 28 → kf csM [9, 16] μ ξ → stM (bfs g (22 * q + cc s)) ξ → q < bn (bfs g (22 * q + cc s)) → tp_W shM m_Mo_makeStates 67 [some (.ref 0), none, some (.int (nI q)), some (.int (nI s))] [] ξ (tp_Qv K) from h2 28 0 ν rfl hk hs hqn
        intro m
        induction m with
        | zero =>
          intro s ξ hs' hk' hst hlt
          have e : s = 28 := by omega
          subst e
          refine bk_Mo_makeStates_67 _ _ ⟨fun _ => ?_, fun h => absurd (nI_le (by omega) (by omega)) h⟩
          rw [nI_add]
          exact ih (q + 1) ξ (by omega) hk' (by rw [show 22 * (q + 1) = 22 * q + cc 28 from rfl]; exact hst)
        | succ m ih2 =>
          intro s ξ hs' hk' hst hlt
          have hOK := bfs_OK hw (22 * q + cc s)
          have hKV := bfs_KV hw (22 * q + cc s)
          refine bk_Mo_makeStates_67 _ _ ⟨fun h => absurd ((nI_leI (by omega) (by omega)).mp h) (by omega), fun _ => ?_⟩
          rw [hst.1, nI_add, nI_add]
          refine ⟨fun hbig => ?_, fun hsm => ?_⟩
          · rw [bI_0] at hbig
            have hcc : cc s ≤ 22 := by
              unfold cc
              split <;> (try split) <;> omega
            have := bfs_big (g := g) (m := 22 * q + cc s) (by simpa using hbig) (22 - cc s)
            rw [show 22 * q + cc s + (22 - cc s) = 22 * (q + 1) by omega] at this
            exact ih (q + 1) ξ (by omega) hk' (by rw [this]; exact hst)
          · rw [bI_0] at hsm
            refine sp_Mlead hw (gM_kf hk' (by decide) hg) ⟨hOK.2.1, fun a b t h => (hOK.2.2.2 a b t h).1, hKV, hsm⟩ hst hlt (by omega) (fun c hc e ζ hkz hsz => ?_) (fun z1 z2 ζ hkz hsz => ?_)
            · have e1 : cc s = c ∧ cc (s + 1) = c + 1 ∨ (s = 13 ∧ c = 13) := by
                subst e
                unfold s6 cc
                by_cases y : c < 14
                · rw [if_pos y, if_pos y]
                  by_cases y2 : c = 13
                  · exact Or.inr ⟨y2, y2⟩
                  · rw [if_pos (by omega)]; exact Or.inl ⟨rfl, rfl⟩
                · rw [if_neg y, if_neg (by omega), if_neg (by omega), if_neg (by omega), if_neg (by omega)]
                  exact Or.inl ⟨by omega, by omega⟩
              have e2 : cc s = c ∧ cc (s + 1) = c + 1 := by
                rcases e1 with h | ⟨h1, h2⟩
                · exact h
                · rw [h1, h2]; exact ⟨rfl, rfl⟩
              have hB : bfs g (22 * q + cc (s + 1)) = bst g q c (bfs g (22 * q + cc s)) := by
                rw [e2.1, e2.2]
                show bst g ((22 * q + c) / 22) ((22 * q + c) % 22) (bfs g (22 * q + c)) = _
                rw [show (22 * q + c) / 22 = q by omega, show (22 * q + c) % 22 = c by omega]
              refine ih2 (s + 1) ζ (by omega) (kf_tr hk' hkz) (by rw [hB]; exact hsz) ?_
              rw [hB]
              by_cases hcond : bb (bfs g (22 * q + cc s)) = false ∧ q < bn (bfs g (22 * q + cc s)) ∧ ∃ i, adv g (bS (bfs g (22 * q + cc s)) q) c i
              · cases hl : lst (fun j => ∀ i, bS (bfs g (22 * q + cc s)) j i ↔ Cl g (adv g (bS (bfs g (22 * q + cc s)) q) c) i) (bn (bfs g (22 * q + cc s))) with
                | some j => rw [bst_old hcond hl]; exact hlt
                | none =>
                  by_cases hn : bn (bfs g (22 * q + cc s)) < 100
                  · rw [bst_new hcond hl hn]
                    show q < bn (bfs g (22 * q + cc s)) + 1
                    omega
                  · rw [bst_big hcond hl hn]; exact hlt
              · rw [bst_skip hcond]; exact hlt
            · have e2 : cc (s + 1) = cc s := by
                unfold cc
                rw [if_neg (show ¬ s + 1 < 14 by omega), if_neg (show ¬ s < 14 by omega), if_pos z2]
                split
                · rfl
                · omega
              exact ih2 (s + 1) ζ (by omega) (kf_tr hk' hkz) (by rw [e2]; exact hsz) (by rw [e2]; exact hlt)
  refine bk_Mo_makeStates_0 ⟨bo_0, ?_⟩
  suffices h : ∀ (n i : Nat) (ν : tp_S), i + n = 200 → kf csM [9, 16] μ ν → ν.1 0 16 = nI 0 → ν.1 0 9 = nI 0 → (∀ j, j < i → ν.1 11 j = bI (pd (mS (fun i => i = 168) j))) → tp_W shM m_Mo_makeStates 12 [some (.ref 0), some (.int (nI i)), none, none] [] ν (tp_Qv K) from h 200 0 _ rfl (kf_s0 (kf_s0 (kf_rf _ _ _) (by decide)) (by decide)) (by rw [si_nj (by decide), si_at]) si_at (fun j hj => absurd hj (Nat.not_lt_zero j))
  intro n
  induction n with
  | zero =>
    intro i ν hi hk h16 h9 hz
    refine bk_Mo_makeStates_12 _ ⟨fun _ => ?_, fun h => absurd (nI_le (by omega) (by omega)) h⟩
    refine sp_soN (B := (0, fun _ _ => False, fun _ _ => none, false)) (N := fun i => i = 168) hw (gM_kf hk (by decide) hg) ⟨Nat.zero_le _, fun q c t h => (by cases h), fun q h => absurd h (Nat.not_lt_zero q), rfl⟩ ⟨h9, fun _ => ⟨h16, fun q h => absurd h (Nat.not_lt_zero q)⟩⟩ (fun j hj => hz j (by omega)) (fun i e => ⟨Or.inr e, 24, 0, Or.inr rfl, Nat.zero_le _, e⟩) (fun j hj => absurd (lst_lt hj).1 (Nat.not_lt_zero j)) (fun _ _ ξ hkx hsx => ?_) (fun _ h => absurd (by decide) h)
    refine ph3 100 0 ξ rfl (kf_tr hk (kf_sub hkx (by decide) (by decide))) ⟨hsx.1, fun _ => ?_⟩
    obtain ⟨d1, d2⟩ := hsx.2 rfl
    refine ⟨d1, fun q hq => ?_⟩
    have hq1 : q < 1 := hq
    have hq0 : q = 0 := by omega
    subst hq0
    exact d2 0 (Nat.zero_lt_succ 0)
  | succ n ih =>
    intro i ν hi hk h16 h9 hz
    refine bk_Mo_makeStates_12 _ ⟨fun h => absurd ((nI_leI (by omega) (by omega)).mp h) (by omega), fun _ => ?_⟩
    rw [nI_clamp (by omega), nI_add, nI_eq (by omega) (by decide)]
    have wr : ∀ y, y = bI (pd (mS (fun i => i = 168) i)) → tp_W shM m_Mo_makeStates 12 [some (.ref 0), some (.int (nI (i + 1))), none, none] [] (tp_si ν 11 i y) (tp_Qv K) := by
      intro y hy
      refine ih (i + 1) _ (by omega) (kf_si hk (by decide) (by decide)) (by rw [si_ne (by decide)]; exact h16) (by rw [si_ne (by decide)]; exact h9) (fun j hj => ?_)
      by_cases z : j = i
      · subst z; rw [si_at]; exact hy
      · rw [si_nj z]; exact hz j (by omega)
    refine ⟨fun hne => ⟨vp_in_nI (by omega) (by decide), bo_0, wr _ (bI_f ?_).symm⟩, fun he => ⟨vp_in_nI (by omega) (by decide), bo_1, wr _ (bI_t ?_).symm⟩⟩
    · rintro ⟨h1, h2⟩
      omega
    · subst he; exact ⟨by decide, by decide⟩
