/-! the reference's passes -/
def oMb (μ : tp_S) (k b : Nat) : Bool := (decide (b < 14) && bt (μ.1 6 k) b) || (decide (b = 14) && decide (μ.1 5 k = 1))
theorem oMb_iff {μ : tp_S} {k b : Nat} : oMb μ k b = true ↔ oM μ k b := by
  unfold oMb oM
  simp
def mCnt (μ : tp_S) : Nat := (List.range 120).countP (fun j => oMb μ (j / 15) (j % 15))
theorem mCnt_le (μ : tp_S) : mCnt μ ≤ 120 := by
  have := List.countP_le_length (l := List.range 120) (p := fun j => oMb μ (j / 15) (j % 15))
  simpa [mCnt] using this
theorem mCnt_mono {μ ν : tp_S} (h : ∀ k b, k < 8 → oM μ k b → oM ν k b) : mCnt μ ≤ mCnt ν :=
  List.countP_mono_left (fun j hj hp => oMb_iff.mpr (h _ _ (by have := List.mem_range.mp hj; omega) (oMb_iff.mp hp)))
theorem mCnt_lt {μ ν : tp_S} (h : ∀ k b, k < 8 → oM μ k b → oM ν k b) (he : ∃ k b, k < 8 ∧ b < 15 ∧ oM ν k b ∧ ¬ oM μ k b) : mCnt μ < mCnt ν := by
  obtain ⟨k, b, hk, hb, h1, h2⟩ := he
  refine cnt_lt (fun j hj hp => oMb_iff.mpr (h _ _ (by have := List.mem_range.mp hj; omega) (oMb_iff.mp hp))) ⟨15 * k + b, List.mem_range.mpr (by omega), ?_, ?_⟩
  · rw [show (15 * k + b) / 15 = k by omega, show (15 * k + b) % 15 = b by omega]; exact oMb_iff.mpr h1
  · rw [show (15 * k + b) / 15 = k by omega, show (15 * k + b) % 15 = b by omega]
    cases c : oMb μ k b with
    | false => rfl
    | true => exact absurd (oMb_iff.mp c) h2
def mIn (g : Gm) (μ : tp_S) : Prop := eB μ ∧ (∀ k i, k < 8 → i < 32 → bt (μ.1 6 k) i = true → i < 14) ∧ ∀ k b, k < 8 → oM μ k b → Og g k b
theorem bt_lt {x : Int32} {i : Nat} (h : bt x i = true) : i < 32 := by
  rcases Nat.lt_or_ge i 32 with z | z
  · exact z
  · rw [b_big z] at h; cases h
theorem oM_or {μ : tp_S} {k : Nat} {m : Int32} (hm : ∀ i, i < 32 → bt m i = true → i < 14) {k' b : Nat} : oM (tp_si μ 6 k (μ.1 6 k ||| m)) k' b ↔ (oM μ k' b ∨ (k' = k ∧ bt m b = true)) := by
  unfold oM
  rw [si_ne (b := 5) (a := 6) (by decide)]
  by_cases h : k' = k
  · subst h
    rw [si_at, b_or]
    simp only [Bool.or_eq_true]
    constructor
    · rintro (⟨h1, h2 | h2⟩ | h1)
      · exact Or.inl (Or.inl ⟨h1, h2⟩)
      · exact Or.inr ⟨trivial, h2⟩
      · exact Or.inl (Or.inr h1)
    · rintro ((h1 | h1) | ⟨_, h1⟩)
      · exact Or.inl ⟨h1.1, Or.inl h1.2⟩
      · exact Or.inr h1
      · exact Or.inl ⟨hm b (bt_lt h1) h1, Or.inr h1⟩
  · rw [si_nj h]
    simp [h]
theorem oM_e {μ : tp_S} {k k' b : Nat} : oM (tp_si μ 5 k (nI 1)) k' b ↔ (oM μ k' b ∨ (k' = k ∧ b = 14)) := by
  unfold oM
  rw [si_ne (b := 6) (a := 5) (by decide)]
  by_cases h : k' = k
  · subst h
    rw [si_at]
    constructor
    · rintro (h1 | h1)
      · exact Or.inl (Or.inl h1)
      · exact Or.inr ⟨rfl, h1.1⟩
    · rintro ((h1 | h1) | ⟨_, h1⟩)
      · exact Or.inl h1
      · exact Or.inr ⟨h1.1, rfl⟩
      · exact Or.inr ⟨h1, rfl⟩
  · rw [si_nj h]
    simp [h]
theorem ro_8 {O : Nat → Nat → Prop} {s : Nat → Nat} {m p b : Nat} (hs : ∀ q, p ≤ q → q < p + m → s q < 22) (h : ro O s m p b) : ro (fun k b => k < 8 ∧ O k b) s m p b := (ro_congr (fun k b hk _ => ⟨fun q => ⟨hk, q⟩, fun q => q.2⟩) m p b hs).mp h
theorem sp_ff_38 {g : Gm} {op : Bool} {ok ol : Nat} {os : Nat → Nat} {μ : tp_S} (hw : gW g) (hg : gM g op ok ol os μ) {K : tp_S → Prop}
    (k0 : ∀ ν, ke [5, 6] μ ν → mIn g ν → oCl g (fun k b => k < 8 ∧ oM ν k b) → tp_W shM m_Mo_findFirsts 30 [some (.ref 0), some (.int (nI 0)), none, none, none] [] ν (tp_Qv K))
    (k1 : ∀ ν, ke [5, 6] μ ν → mIn g ν → mCnt μ < mCnt ν → tp_W shM m_Mo_findFirsts 30 [some (.ref 0), some (.int (nI 1)), none, none, none] [] ν (tp_Qv K)) :
    ∀ (n r : Nat) (x : Int32) (ν : tp_S), r + n = gn g → ke [5, 6] μ ν → (∀ k b, k < 8 → oM μ k b → oM ν k b) → mIn g ν → (x = nI 0 ∧ (∀ k b, k < 8 → oM ν k b → oM μ k b) ∧ (∀ r', r' < r → ∀ b, ro (oM ν) (gs g r') (gl g r') 0 b → oM ν (gk g r') b) ∨ x = nI 1 ∧ mCnt μ < mCnt ν) → tp_W shM m_Mo_findFirsts 38 [some (.ref 0), some (.int x), some (.int (nI r)), none, none] [] ν (tp_Qv K) := by
  have hn24 := hw.1
  intro n
  induction n with
  | zero =>
    intro r x ν hr hk hm hin hx
    have hgt := gM_ke hk (by decide) hg
    refine bk_Mo_findFirsts_38 _ _ (sp_Mclosed hw hgt ⟨fun _ => ?_, fun h => absurd (nI_le (by omega) (by omega)) h⟩)
    rcases hx with ⟨rfl, h1, h2⟩ | ⟨rfl, h1⟩
    · refine k0 ν hk hin (fun r' hr' b hb => ?_)
      obtain ⟨w1, w2, w3⟩ := hw.2 r' hr'
      exact ⟨w1, h2 r' (by omega) b (ro_mono (fun k b q => q.2) _ _ _ hb)⟩
    · exact k1 ν hk hin h1
  | succ n ih =>
    intro r x ν hr hk hm hin hx
    have hgt := gM_ke hk (by decide) hg
    have hrn : r < gn g := by omega
    obtain ⟨w1, w2, w3⟩ := hw.2 r hrn
    have ww : ∀ q, 0 ≤ q → q < 0 + gl g r → gs g r q < 22 := fun q _ h => (w3 q (by omega)).2
    have hv8 : vp_in (nI (gk g r)) 8 := vp_in_nI w1 (by decide)
    have e1k : ν.1 1 r = nI (gk g r) := (hgt.2.2.1 r hrn).1
    -- a state with openings that are in, where the row is read; then the kind's are widened
    have fin : ∀ (ν1 : tp_S) (m : Int32), ke [5, 6] μ ν1 → (∀ k b, k < 8 → oM μ k b → oM ν1 k b) → mIn g ν1 → (∀ i, i < 32 → (bt m i = true ↔ (i < 14 ∧ ro (oM ν1) (gs g r) (gl g r) 0 i))) →
        ((mCnt μ < mCnt ν1 → tp_W shM m_Mo_findFirsts 38 [some (.ref 0), some (.int (nI 1)), some (.int (nI (r + 1))), none, none] [] (tp_si ν1 6 (gk g r) (ν1.1 6 (gk g r) ||| m)) (tp_Qv K)) ∧
         (¬ (ν1.1 6 (gk g r) ||| m) = ν1.1 6 (gk g r) → (∀ k b, k < 8 → oM ν1 k b → oM μ k b) → tp_W shM m_Mo_findFirsts 38 [some (.ref 0), some (.int (nI 1)), some (.int (nI (r + 1))), none, none] [] (tp_si ν1 6 (gk g r) (ν1.1 6 (gk g r) ||| m)) (tp_Qv K)) ∧
         ((ν1.1 6 (gk g r) ||| m) = ν1.1 6 (gk g r) → (∀ k b, k < 8 → oM ν1 k b → oM μ k b) → (∀ r', r' < r → ∀ b, ro (oM ν1) (gs g r') (gl g r') 0 b → oM ν1 (gk g r') b) → (ro (oM ν1) (gs g r) (gl g r) 0 14 → oM ν1 (gk g r) 14) → tp_W shM m_Mo_findFirsts 38 [some (.ref 0), some (.int (nI 0)), some (.int (nI (r + 1))), none, none] [] (tp_si ν1 6 (gk g r) (ν1.1 6 (gk g r) ||| m)) (tp_Qv K))) := by
      intro ν1 m hk1 hm1 hin1 hbm
      have hm14 : ∀ i, i < 32 → bt m i = true → i < 14 := fun i hi h => ((hbm i hi).mp h).1
      have hk' : ke [5, 6] μ (tp_si ν1 6 (gk g r) (ν1.1 6 (gk g r) ||| m)) := ke_si hk1 (by decide)
      have hmo : ∀ k b, k < 8 → oM μ k b → oM (tp_si ν1 6 (gk g r) (ν1.1 6 (gk g r) ||| m)) k b := fun k b hk h => (oM_or hm14).mpr (Or.inl (hm1 k b hk h))
      have hin' : mIn g (tp_si ν1 6 (gk g r) (ν1.1 6 (gk g r) ||| m)) := by
        refine ⟨fun k hk => ?_, fun k i hk hi h => ?_, fun k b hk h => ?_⟩
        · rw [si_ne (by decide)]; exact hin1.1 k hk
        · by_cases q : k = gk g r
          · subst q
            rw [si_at, b_or] at h
            simp only [Bool.or_eq_true] at h
            rcases h with h | h
            · exact hin1.2.1 _ i hk hi h
            · exact hm14 i hi h
          · rw [si_nj q] at h
            exact hin1.2.1 k i hk hi h
        · rcases (oM_or hm14).mp h with h | ⟨ek, h'⟩
          · exact hin1.2.2 k b hk h
          · rw [ek]
            have h1 := ((hbm b (bt_lt h')).mp h').2
            exact Og_cl g r hrn b (ro_mono (fun k b q => hin1.2.2 k b q.1 q.2) _ _ _ (ro_8 ww h1))
      refine ⟨fun hlt => ?_, fun hne hs => ?_, fun he hs hc h14 => ?_⟩
      · refine ih (r + 1) (nI 1) _ (by omega) hk' hmo hin' (Or.inr ⟨rfl, Nat.lt_of_lt_of_le hlt (mCnt_mono (fun k b hk h => (oM_or hm14).mpr (Or.inl h)))⟩)
      · have hex : ∃ i, i < 32 ∧ bt m i = true ∧ ¬ bt (ν1.1 6 (gk g r)) i = true := by
          refine Classical.byContradiction (fun hno => hne ?_)
          refine b_ext (fun i hi => ?_)
          rw [b_or]
          cases c1 : bt (ν1.1 6 (gk g r)) i with
          | true => rfl
          | false =>
            cases c2 : bt m i with
            | false => rfl
            | true => exact absurd ⟨i, hi, c2, by rw [c1]; exact Bool.false_ne_true⟩ hno
        obtain ⟨i, hi, h1, h2⟩ := hex
        have hi14 := hm14 i hi h1
        refine ih (r + 1) (nI 1) _ (by omega) hk' hmo hin' (Or.inr ⟨rfl, mCnt_lt hmo ⟨gk g r, i, w1, by omega, (oM_or hm14).mpr (Or.inr ⟨rfl, h1⟩), fun q => h2 ((oM_lt hi14).mp (hm1 _ _ w1 q))⟩⟩)
      · have same : ∀ k b, oM (tp_si ν1 6 (gk g r) (ν1.1 6 (gk g r) ||| m)) k b ↔ oM ν1 k b := by
          intro k b
          unfold oM
          rw [si_ne (b := 5) (a := 6) (by decide)]
          by_cases q : k = gk g r
          · subst q; rw [si_at, he]
          · rw [si_nj q]
        refine ih (r + 1) (nI 0) _ (by omega) hk' hmo hin' (Or.inl ⟨rfl, fun k b hk h => hs k b hk ((same k b).mp h), fun r' hr' b hb => ?_⟩)
        have hb' : ro (oM ν1) (gs g r') (gl g r') 0 b := ro_mono (fun k b q => (same k b).mp q) _ _ _ hb
        rw [same]
        by_cases q : r' = r
        · subst q
          have hb14 := ro_le _ _ _ hb'
          by_cases z : b = 14
          · subst z; exact h14 hb'
          · have h1 : bt m b = true := (hbm b (by omega)).mpr ⟨by omega, hb'⟩
            refine (oM_lt (by omega)).mpr ?_
            rw [← he, b_or, h1]
            simp
        · exact hc r' (by omega) b hb'
    have hrw := rwM_of hw hgt (Or.inl hrn)
    rw [rl_c (by omega), rs_c (by omega)] at hrw
    refine bk_Mo_findFirsts_38 _ _ (sp_Mclosed hw hgt ⟨fun h => absurd ((nI_leI (by omega) (by omega)).mp h) (by omega), fun _ => ?_⟩)
    rw [nI_clamp (by omega), e1k, nI_clamp (by omega), nI_add]
    refine ⟨vp_in_nI (by omega) (by decide), hv8, fun h5 => ⟨hv8, sp_first hrw hin.1 hin.2.1 (Nat.zero_le _) (fun m hbm => ?_)⟩, fun h5 => sp_empty hrw hin.1 (Nat.zero_le _) (fun hyes => ⟨fun h => absurd h n1_0, fun _ => ⟨hv8, bo_1, hv8, ?_⟩⟩) (fun hno => ⟨fun _ => ⟨hv8, sp_first hrw hin.1 hin.2.1 (Nat.zero_le _) (fun m hbm => ?_)⟩, fun h => absurd rfl h⟩)⟩
    · rw [Nat.sub_zero] at hbm
      obtain ⟨f1, f2, f3⟩ := fin ν m hk hm hin hbm
      rcases hx with ⟨rfl, hs, hc⟩ | ⟨rfl, hlt⟩
      · exact ⟨fun h => absurd rfl h, fun _ => ⟨hv8, fun e => ⟨hv8, f3 e hs hc (fun _ => oM_14.mpr ((hin.1 _ w1).resolve_left h5))⟩, fun e => ⟨hv8, f2 e hs⟩⟩⟩
      · exact ⟨fun _ => ⟨hv8, f1 hlt⟩, fun h => absurd h n1_0⟩
    · -- the kind can be empty: that is new
      rw [Nat.sub_zero] at hyes
      have hk1 : ke [5, 6] μ (tp_si ν 5 (gk g r) (nI 1)) := ke_si hk (by decide)
      have hm1 : ∀ k b, k < 8 → oM μ k b → oM (tp_si ν 5 (gk g r) (nI 1)) k b := fun k b hk h => oM_e.mpr (Or.inl (hm k b hk h))
      have hin1 : mIn g (tp_si ν 5 (gk g r) (nI 1)) := by
        refine ⟨fun k hk => ?_, fun k i hk hi h => ?_, fun k b hk h => ?_⟩
        · by_cases q : k = gk g r
          · subst q; rw [si_at]; exact Or.inr rfl
          · rw [si_nj q]; exact hin.1 k hk
        · rw [si_ne (by decide)] at h; exact hin.2.1 k i hk hi h
        · rcases oM_e.mp h with h | ⟨ek, eb⟩
          · exact hin.2.2 k b hk h
          · rw [ek, eb]
            exact Og_cl g r hrn 14 (ro_mono (fun k b q => hin.2.2 k b q.1 q.2) _ _ _ (ro_8 ww hyes))
      have hlt1 : mCnt μ < mCnt (tp_si ν 5 (gk g r) (nI 1)) := by
        refine mCnt_lt hm1 ⟨gk g r, 14, w1, by omega, oM_e.mpr (Or.inr ⟨rfl, rfl⟩), fun q => ?_⟩
        have := oM_14.mp (hm _ _ w1 q)
        rw [h5] at this
        exact absurd this (by decide)
      have hgt1 := gM_ke hk1 (by decide) hg
      have hrw1 := rwM_of hw hgt1 (Or.inl hrn)
      rw [rl_c (by omega), rs_c (by omega)] at hrw1
      refine sp_first hrw1 hin1.1 hin1.2.1 (Nat.zero_le _) (fun m hbm => ?_)
      rw [Nat.sub_zero] at hbm
      obtain ⟨f1, f2, f3⟩ := fin _ m hk1 hm1 hin1 hbm
      exact ⟨fun _ => ⟨hv8, f1 hlt1⟩, fun h => absurd h n1_0⟩
    · rw [Nat.sub_zero] at hbm hno
      obtain ⟨f1, f2, f3⟩ := fin ν m hk hm hin hbm
      rcases hx with ⟨rfl, hs, hc⟩ | ⟨rfl, hlt⟩
      · exact ⟨fun h => absurd rfl h, fun _ => ⟨hv8, fun e => ⟨hv8, f3 e hs hc (fun z => absurd z hno)⟩, fun e => ⟨hv8, f2 e hs⟩⟩⟩
      · exact ⟨fun _ => ⟨hv8, f1 hlt⟩, fun h => absurd h n1_0⟩
/-- the reference's openings, found -/
def mOK (g : Gm) (μ : tp_S) : Prop := (∀ k, k < 8 → (μ.1 5 k = 0 ∨ μ.1 5 k = 1) ∧ (μ.1 5 k = 1 ↔ Og g k 14)) ∧ ∀ k i, k < 8 → i < 32 → (bt (μ.1 6 k) i = true ↔ (i < 14 ∧ Og g k i))
theorem mOK_of {g : Gm} {μ : tp_S} (h1 : mIn g μ) (h2 : oCl g (fun k b => k < 8 ∧ oM μ k b)) : mOK g μ := by
  refine ⟨fun k hk => ⟨h1.1 k hk, fun h => h1.2.2 k 14 hk (oM_14.mpr h), fun h => oM_14.mp (h _ h2).2⟩, fun k i hk hi => ⟨fun h => ?_, fun h => ?_⟩⟩
  · have hi14 := h1.2.1 k i hk hi h
    exact ⟨hi14, h1.2.2 k i hk ((oM_lt hi14).mpr h)⟩
  · exact (oM_lt h.1).mp (h.2 _ h2).2
theorem sp_findFirsts {g : Gm} {op : Bool} {ok ol : Nat} {os : Nat → Nat} {μ : tp_S} (hw : gW g) (hg : gM g op ok ol os μ) {K : tp_S → Prop} (k : ∀ ν, ke [5, 6] μ ν → mOK g ν → K ν) : tp_W shM m_Mo_findFirsts 0 [some (.ref 0), none, none, none, none] [] μ (tp_Qv K) := by
  -- the passes
  have pass : ∀ (n : Nat) (ν : tp_S), 120 - mCnt ν < n → ke [5, 6] μ ν → mIn g ν → tp_W shM m_Mo_findFirsts 30 [some (.ref 0), some (.int (nI 1)), none, none, none] [] ν (tp_Qv K) := by
    intro n
    induction n with
    | zero => intro ν h; omega
    | succ n ih =>
      intro ν hn hk hin
      have hgt := gM_ke hk (by decide) hg
      refine bk_Mo_findFirsts_30 _ ⟨fun h => absurd h n1_0, fun _ => ?_⟩
      refine sp_ff_38 hw hgt (fun υ h1 h2 h3 => ?_) (fun υ h1 h2 h3 => ?_) (gn g) 0 (nI 0) ν (Nat.zero_add _) (ke_rf _ _) (fun _ _ _ h => h) hin (Or.inl ⟨rfl, fun _ _ _ h => h, fun r' h => absurd h (Nat.not_lt_zero r')⟩)
      · exact bk_Mo_findFirsts_30 _ ⟨fun _ => k υ (ke_tr hk h1) (mOK_of h2 h3), fun h => absurd rfl h⟩
      · have := mCnt_le υ
        exact ih υ (by omega) (ke_tr hk h1) h2
  refine bk_Mo_findFirsts_0 ?_
  suffices h : ∀ (n i : Nat) (ν : tp_S), i + n = 8 → ke [5, 6] μ ν → (∀ j, j < i → ν.1 5 j = nI 0 ∧ ν.1 6 j = nI 0) → tp_W shM m_Mo_findFirsts 2 [some (.ref 0), some (.int (nI i)), none, none, none] [] ν (tp_Qv K) from h 8 0 μ rfl (ke_rf _ _) (fun j hj => absurd hj (Nat.not_lt_zero j))
  intro n
  induction n with
  | zero =>
    intro i ν hi hk hz
    refine bk_Mo_findFirsts_2 _ ⟨fun _ => pass 121 ν (by omega) hk ⟨fun k hk => Or.inl (hz k (by omega)).1, fun k i hk hi h => ?_, fun k b hk h => ?_⟩, fun h => absurd (nI_le (by omega) (by omega)) h⟩
    · rw [(hz k (by omega)).2] at h
      have : bt (nI 0) i = false := b_0 i
      rw [this] at h; cases h
    · rcases h with ⟨_, h⟩ | ⟨_, h⟩
      · rw [(hz k (by omega)).2] at h
        have : bt (nI 0) b = false := b_0 b
        rw [this] at h; cases h
      · rw [(hz k (by omega)).1] at h
        exact absurd h (by decide)
  | succ n ih =>
    intro i ν hi hk hz
    refine bk_Mo_findFirsts_2 _ ⟨fun h => absurd ((nI_leI (by omega) (by omega)).mp h) (by omega), fun _ => ⟨vp_in_nI (by omega) (by decide), bo_0, vp_in_nI (by omega) (by decide), ?_⟩⟩
    rw [nI_clamp (by omega), nI_add]
    refine ih (i + 1) _ (by omega) (ke_si (ke_si hk (by decide)) (by decide)) (fun j hj => ?_)
    by_cases q : j = i
    · subst q
      exact ⟨by rw [si_ne (by decide), si_at], si_at⟩
    · rw [si_ne (b := 5) (a := 6) (by decide), si_nj q, si_nj q, si_ne (by decide)]
      exact hz j (by omega)
