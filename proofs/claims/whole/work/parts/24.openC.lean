/-! cells that stay -/
def ke (cs : List Nat) (σ τ : tp_S) : Prop := (∀ a, a ∉ cs → τ.1 a = σ.1 a) ∧ ∀ a, a ∉ cs → τ.2 a = σ.2 a
theorem ke_rf (cs : List Nat) (σ : tp_S) : ke cs σ σ := ⟨fun _ _ => rfl, fun _ _ => rfl⟩
theorem ke_tr {cs : List Nat} {σ τ υ : tp_S} (h1 : ke cs σ τ) (h2 : ke cs τ υ) : ke cs σ υ := ⟨fun a h => (h2.1 a h).trans (h1.1 a h), fun a h => (h2.2 a h).trans (h1.2 a h)⟩
theorem ke_si {cs : List Nat} {σ τ : tp_S} {a j : Nat} {x : Int32} (h : ke cs σ τ) (ha : a ∈ cs) : ke cs σ (tp_si τ a j x) := ⟨fun b hb => (si_nc (b := b) (a := a) (fun e => hb (e ▸ ha))).trans (h.1 b hb), h.2⟩
theorem ke_sl {cs : List Nat} {σ τ : tp_S} {a j : Nat} {x : Int64} (h : ke cs σ τ) (ha : a ∈ cs) : ke cs σ (tp_sl τ a j x) := ⟨h.1, fun b hb => (sl_nc (b := b) (a := a) (fun e => hb (e ▸ ha))).trans (h.2 b hb)⟩
theorem ke_sub {cs ds : List Nat} {σ τ : tp_S} (h : ke cs σ τ) (hs : ∀ a, a ∈ cs → a ∈ ds) : ke ds σ τ := ⟨fun a ha => h.1 a (fun q => ha (hs a q)), fun a ha => h.2 a (fun q => ha (hs a q))⟩
theorem gC_eq {g : Gm} {op : Bool} {ok ol : Nat} {os : Nat → Nat} {σ τ : tp_S} (h1 : τ.1 1 = σ.1 1) (h2 : τ.1 2 = σ.1 2) (h3 : τ.1 3 = σ.1 3) (h4 : τ.1 4 = σ.1 4) (h : gC g op ok ol os σ) : gC g op ok ol os τ := by
  unfold gC ruC at h ⊢
  rw [h1, h2, h3, h4]
  exact h
/-- the grammar's cells are not among those that change -/
abbrev gOff (cs : List Nat) : Prop := 1 ∉ cs ∧ 2 ∉ cs ∧ 3 ∉ cs ∧ 4 ∉ cs
theorem gC_ke {g : Gm} {op : Bool} {ok ol : Nat} {os : Nat → Nat} {σ τ : tp_S} {cs : List Nat} (hk : ke cs σ τ) (ho : gOff cs) (h : gC g op ok ol os σ) : gC g op ok ol os τ := gC_eq (hk.1 1 ho.1) (hk.1 2 ho.2.1) (hk.1 3 ho.2.2.1) (hk.1 4 ho.2.2.2) h
/-- the row of a closed rule, or of the start -/
def rl (g : Gm) (r : Nat) : Nat := if r = 24 then 1 else gl g r
def rs (g : Gm) (r : Nat) : Nat → Nat := if r = 24 then fun _ => 14 else gs g r
theorem rl_c {g : Gm} {r : Nat} (h : r < 24) : rl g r = gl g r := if_neg (by omega)
theorem rs_c {g : Gm} {r : Nat} (h : r < 24) : rs g r = gs g r := if_neg (by omega)
theorem rwC_of {g : Gm} {op : Bool} {ok ol : Nat} {os : Nat → Nat} {σ : tp_S} (hw : gW g) (h : gC g op ok ol os σ) {r : Nat} (hr : r < gn g ∨ r = 24) : rwC σ r (rl g r) (rs g r) := by
  have hn := hw.1
  rcases hr with hr | rfl
  · obtain ⟨a1, a2, a3⟩ := hw.2 r hr
    obtain ⟨b1, b2, b3, b4⟩ := h.2.2.1 r hr
    rw [rl_c (by omega), rs_c (by omega)]
    exact ⟨by omega, a2, by omega, b2, fun p hp => ⟨b3 p hp, (a3 p hp).2⟩⟩
  · obtain ⟨a1, a2, a3, a4, a5, a6, a7, a8⟩ := h
    exact ⟨by omega, by show 1 ≤ 6; decide, by show 7 * 24 + 1 ≤ 169; decide, a6, fun p hp => ⟨by have : p < 1 := hp; rw [show p = 0 by omega]; exact a7, by show 14 < 22; decide⟩⟩
/-! counting -/
theorem cnt_lt {α : Type} {p q : α → Bool} : ∀ {l : List α}, (∀ x ∈ l, p x = true → q x = true) → (∃ x ∈ l, q x = true ∧ p x = false) → l.countP p < l.countP q
  | [], _, h => by obtain ⟨x, hx, _⟩ := h; cases hx
  | a :: l, h, he => by
    have hm : l.countP p ≤ l.countP q := List.countP_mono_left (fun x hx => h x (List.mem_cons_of_mem _ hx))
    rw [List.countP_cons, List.countP_cons]
    obtain ⟨x, hx, h1, h2⟩ := he
    rcases List.mem_cons.mp hx with rfl | hx
    · rw [if_pos h1, h2]; simp; omega
    · have ih := cnt_lt (fun x hx => h x (List.mem_cons_of_mem _ hx)) ⟨x, hx, h1, h2⟩
      have := h a List.mem_cons_self
      by_cases c : p a = true
      · rw [if_pos c, if_pos (this c)]; omega
      · rw [if_neg c]; omega
def oCnt (σ : tp_S) : Nat := (List.range 120).countP (fun j => bt (σ.1 6 (j / 15)) (j % 15))
theorem oCnt_le (σ : tp_S) : oCnt σ ≤ 120 := by
  have := List.countP_le_length (l := List.range 120) (p := fun j => bt (σ.1 6 (j / 15)) (j % 15))
  simpa [oCnt] using this
theorem oCnt_lt {σ τ : tp_S} (h : ∀ k b, k < 8 → oS σ k b → oS τ k b) (he : ∃ k b, k < 8 ∧ b < 15 ∧ oS τ k b ∧ ¬ oS σ k b) : oCnt σ < oCnt τ := by
  obtain ⟨k, b, hk, hb, h1, h2⟩ := he
  refine cnt_lt (fun j hj hp => h _ _ (by have := List.mem_range.mp hj; omega) hp) ⟨15 * k + b, List.mem_range.mpr (by omega), ?_, ?_⟩
  · rw [show (15 * k + b) / 15 = k by omega, show (15 * k + b) % 15 = b by omega]; exact h1
  · rw [show (15 * k + b) / 15 = k by omega, show (15 * k + b) % 15 = b by omega]
    unfold oS at h2
    simpa using h2
/-! one pass over the rules -/
def oIn (g : Gm) (σ : tp_S) : Prop := (∀ k i, k < 8 → i < 32 → oS σ k i → i ≤ 14) ∧ ∀ k b, k < 8 → oS σ k b → Og g k b
theorem oS_or {σ : tp_S} {k : Nat} {m : Int32} {k' b : Nat} : oS (tp_si σ 6 k (σ.1 6 k ||| m)) k' b ↔ (oS σ k' b ∨ (k' = k ∧ bt m b = true)) := by
  unfold oS
  by_cases h : k' = k
  · subst h
    rw [si_at, b_or]
    simp
  · rw [si_nj h]
    simp [h]
theorem sp_widen_4 {g : Gm} {op : Bool} {ok ol : Nat} {os : Nat → Nat} {σ : tp_S} (hw : gW g) (hg : gC g op ok ol os σ) {K : Int32 → tp_S → Prop}
    (k0 : ∀ τ, ke [6] σ τ → (∀ k, k < 8 → τ.1 6 k = σ.1 6 k) → oIn g τ → oCl g (fun k b => k < 8 ∧ oS τ k b) → K (nI 0) τ)
    (k1 : ∀ τ, ke [6] σ τ → oIn g τ → oCnt σ < oCnt τ → K (nI 1) τ) :
    ∀ (n r : Nat) (x : Int32) (τ : tp_S), r + n = gn g → ke [6] σ τ → (∀ k b, k < 8 → oS σ k b → oS τ k b) → oIn g τ → (x = nI 0 ∧ (∀ k, k < 8 → τ.1 6 k = σ.1 6 k) ∧ (∀ r', r' < r → ∀ b, ro (oS τ) (gs g r') (gl g r') 0 b → oS τ (gk g r') b) ∨ x = nI 1 ∧ oCnt σ < oCnt τ) → tp_W shC m_Op_widenKinds 4 [some (.ref 5), some (.int x), some (.int (nI r)), none, none] [] τ (tp_Qi K) := by
  have hn24 := hw.1
  intro n
  induction n with
  | zero =>
    intro r x τ hr hk hm hin hx
    have hgt := gC_ke hk (by decide) hg
    refine bk_Op_widenKinds_4 _ _ (bk_Gr_rules_0 ?_)
    rw [hgt.1]
    refine ⟨fun _ => ?_, fun h => absurd (nI_le (by omega) (by omega)) h⟩
    rcases hx with ⟨rfl, h1, h2⟩ | ⟨rfl, h1⟩
    · refine ⟨bo_0, k0 τ hk h1 hin (fun r' hr' b hb => ?_)⟩
      obtain ⟨w1, w2, w3⟩ := hw.2 r' hr'
      refine ⟨w1, h2 r' (by omega) b ?_⟩
      exact ro_mono (fun k b q => q.2) _ _ _ hb
    · exact ⟨bo_1, k1 τ hk hin h1⟩
  | succ n ih =>
    intro r x τ hr hk hm hin hx
    have hgt := gC_ke hk (by decide) hg
    have hrn : r < gn g := by omega
    obtain ⟨w1, w2, w3⟩ := hw.2 r hrn
    have hrw := rwC_of hw hgt (Or.inl hrn)
    rw [rl_c (by omega), rs_c (by omega)] at hrw
    refine bk_Op_widenKinds_4 _ _ (bk_Gr_rules_0 ?_)
    rw [hgt.1]
    refine ⟨fun h => absurd ((nI_leI (by omega) (by omega)).mp h) (by omega), fun _ => bk_Gr_kindOf_0 _ ⟨vp_in_nI (by omega) (by decide), ?_⟩⟩
    rw [nI_clamp (by omega), (hgt.2.2.1 r hrn).1]
    have hv8 : vp_in (nI (gk g r)) 8 := vp_in_nI w1 (by decide)
    refine ⟨hv8, sp_ofRow hrw (Nat.zero_le _) (fun m hm' => ?_)⟩
    rw [nI_clamp (by omega), Nat.sub_zero] at *
    rw [nI_add]
    have hm2 : ∀ i, i < 32 → (bt m i = true ↔ ro (oS τ) (gs g r) (gl g r) 0 i) := by
      intro i hi
      rw [hm' i hi]
      exact ⟨fun h => h.2, fun h => ⟨ro_le _ _ _ h, h⟩⟩
    have hmb : ∀ i, bt m i = true → i < 32 := by
      intro i h
      rcases Nat.lt_or_ge i 32 with z | z
      · exact z
      · rw [b_big z] at h; cases h
    -- the next state
    have hk' : ke [6] σ (tp_si τ 6 (gk g r) (τ.1 6 (gk g r) ||| m)) := ke_si hk (by decide)
    have hmo : ∀ k b, k < 8 → oS σ k b → oS (tp_si τ 6 (gk g r) (τ.1 6 (gk g r) ||| m)) k b := fun k b hk h => oS_or.mpr (Or.inl (hm k b hk h))
    have hin' : oIn g (tp_si τ 6 (gk g r) (τ.1 6 (gk g r) ||| m)) := by
      refine ⟨fun k i hk hi h => ?_, fun k b hk h => ?_⟩
      · rcases oS_or.mp h with h | ⟨_, h⟩
        · exact hin.1 k i hk hi h
        · exact ro_le _ _ _ ((hm2 i hi).mp h)
      · rcases oS_or.mp h with h | ⟨ek, hb'⟩
        · exact hin.2 k b hk h
        · rw [ek]
          have h1 := (hm2 b (hmb b hb')).mp hb'
          have h2 : ro (fun k b => k < 8 ∧ oS τ k b) (gs g r) (gl g r) 0 b := (ro_congr (fun k b hk _ => ⟨fun q => ⟨hk, q⟩, fun q => q.2⟩) _ _ _ (fun q _ h2 => (w3 q (by omega)).2)).mp h1
          exact Og_cl g r hrn b (ro_mono (fun k b q => hin.2 k b q.1 q.2) _ _ _ h2)
    have go1 : oCnt σ < oCnt (tp_si τ 6 (gk g r) (τ.1 6 (gk g r) ||| m)) → tp_W shC m_Op_widenKinds 4 [some (.ref 5), some (.int (nI 1)), some (.int (nI (r + 1))), none, none] [] (tp_si τ 6 (gk g r) (τ.1 6 (gk g r) ||| m)) (tp_Qi K) := fun h => ih (r + 1) (nI 1) _ (by omega) hk' hmo hin' (Or.inr ⟨rfl, h⟩)
    have cle : oCnt τ ≤ oCnt (tp_si τ 6 (gk g r) (τ.1 6 (gk g r) ||| m)) := List.countP_mono_left (fun j hj hp => oS_or.mpr (Or.inl hp))
    rcases hx with ⟨rfl, hs, hc⟩ | ⟨rfl, hs⟩
    · refine ⟨fun h => absurd rfl h, fun _ => ⟨hv8, fun e => ⟨hv8, ?_⟩, fun e => ⟨hv8, go1 ?_⟩⟩⟩
      · have same : ∀ k, (tp_si τ 6 (gk g r) (τ.1 6 (gk g r) ||| m)).1 6 k = τ.1 6 k := by
          intro k
          by_cases q : k = gk g r
          · subst q; rw [si_at]; exact e
          · rw [si_nj q]
        have sameS : ∀ k b, oS (tp_si τ 6 (gk g r) (τ.1 6 (gk g r) ||| m)) k b ↔ oS τ k b := fun k b => by unfold oS; rw [same k]
        refine ih (r + 1) (nI 0) _ (by omega) hk' hmo hin' (Or.inl ⟨rfl, fun k hk => (same k).trans (hs k hk), fun r' hr' b hb => ?_⟩)
        have hb' : ro (oS τ) (gs g r') (gl g r') 0 b := ro_mono (fun k b q => (sameS k b).mp q) _ _ _ hb
        rw [sameS]
        by_cases q : r' = r
        · subst q
          have hb14 := ro_le _ _ _ hb'
          have h1 : bt m b = true := (hm2 b (by omega)).mpr hb'
          unfold oS
          rw [← e, b_or, h1]
          simp
        · exact hc r' (by omega) b hb'
      · have hne : ∃ i, i < 32 ∧ bt m i = true ∧ ¬ oS τ (gk g r) i := by
          refine Classical.byContradiction (fun hno => e ?_)
          refine b_ext (fun i hi => ?_)
          rw [b_or]
          cases c1 : bt (τ.1 6 (gk g r)) i with
          | true => rfl
          | false =>
            cases c2 : bt m i with
            | false => rfl
            | true => exact absurd ⟨i, hi, c2, by unfold oS; rw [c1]; exact Bool.false_ne_true⟩ hno
        obtain ⟨i, hi, h1, h2⟩ := hne
        have hi14 := ro_le _ _ _ ((hm2 i hi).mp h1)
        have hST : ∀ k b, k < 8 → (oS σ k b ↔ oS τ k b) := fun k b hk => by unfold oS; rw [hs k hk]
        exact oCnt_lt hmo ⟨gk g r, i, w1, by omega, oS_or.mpr (Or.inr ⟨rfl, h1⟩), fun q => h2 ((hST _ _ w1).mp q)⟩
    · have lt : oCnt σ < oCnt (tp_si τ 6 (gk g r) (τ.1 6 (gk g r) ||| m)) := Nat.lt_of_lt_of_le hs cle
      exact ⟨fun _ => ⟨hv8, go1 lt⟩, fun h => absurd h n1_0⟩
theorem sp_fill6 {σ : tp_S} {K : tp_S → Prop} (k : ∀ τ, ke [6] σ τ → (∀ j, j < 8 → τ.1 6 j = nI 0) → K τ) : tp_W shC m_JA_fillI 0 [some (.ref 6), some (.int (nI 0)), none, none] [] σ (tp_Qv K) := by
  refine bk_JA_fillI_6_0 _ ?_
  suffices h : ∀ (n i : Nat) (τ : tp_S), i + n = 8 → ke [6] σ τ → (∀ j, j < i → τ.1 6 j = nI 0) → tp_W shC m_JA_fillI 5 [some (.ref 6), some (.int (nI 0)), some (.int (nI i)), some (.int (nI 8))] [] τ (tp_Qv K) from h 8 0 σ rfl (ke_rf _ _) (fun j hj => absurd hj (Nat.not_lt_zero j))
  intro n
  induction n with
  | zero =>
    intro i τ hi hk hz
    refine bk_JA_fillI_6_5 _ _ _ ⟨fun _ => k τ hk (fun j hj => hz j (by omega)), fun h => absurd (nI_le (by omega) (by omega)) h⟩
  | succ n ih =>
    intro i τ hi hk hz
    refine bk_JA_fillI_6_5 _ _ _ ⟨fun h => absurd ((nI_leI (by omega) (by omega)).mp h) (by omega), fun _ => ⟨vp_in_nI (by omega) (by decide), ?_⟩⟩
    rw [nI_clamp (by omega), nI_add]
    refine ih (i + 1) _ (by omega) (ke_si hk (by decide)) (fun j hj => ?_)
    by_cases q : j = i
    · subst q; exact si_at
    · rw [si_nj q]; exact hz j (by omega)
/-- openings that have been found -/
def oOK (g : Gm) (σ : tp_S) : Prop := ∀ k i, k < 8 → i < 32 → (oS σ k i ↔ (i ≤ 14 ∧ Og g k i))
def rOK (g : Gm) (σ : tp_S) (r p : Nat) : Prop := ∀ i, i < 32 → (bt (σ.1 7 (7 * r + p)) i = true ↔ (i ≤ 14 ∧ ro (Og g) (rs g r) (rl g r - (p + 1)) (p + 1) i))
theorem oOK_of {g : Gm} {σ : tp_S} (hw : gW g) (h1 : oIn g σ) (h2 : oCl g (fun k b => k < 8 ∧ oS σ k b)) : oOK g σ := by
  intro k i hk hi
  constructor
  · intro h; exact ⟨h1.1 k i hk hi h, h1.2 k i hk h⟩
  · intro h; exact (h.2 _ h2).2
theorem sp_findRests {g : Gm} {op : Bool} {ok ol : Nat} {os : Nat → Nat} {σ : tp_S} (hw : gW g) (hg : gC g op ok ol os σ) (ho : oOK g σ) {r : Nat} (hr : r < gn g ∨ r = 24) {K : tp_S → Prop} (k : ∀ τ, ke [7] σ τ → (∀ p, p < rl g r → rOK g τ r p) → (∀ j, (j < 7 * r ∨ 7 * r + rl g r ≤ j) → τ.1 7 j = σ.1 7 j) → K τ) : tp_W shC m_Op_findRests 0 [some (.ref 5), some (.int (nI r)), none] [] σ (tp_Qv K) := by
  have hrw := rwC_of hw hg hr
  obtain ⟨a1, a2, a3, a4, a5⟩ := hrw
  refine bk_Op_findRests_0 _ ?_
  suffices h : ∀ (n p : Nat) (τ : tp_S), p + n = rl g r → ke [7] σ τ → (∀ q, q < p → rOK g τ r q) → (∀ j, (j < 7 * r ∨ 7 * r + rl g r ≤ j) → τ.1 7 j = σ.1 7 j) → tp_W shC m_Op_findRests 2 [some (.ref 5), some (.int (nI r)), some (.int (nI p))] [] τ (tp_Qv K) from h _ 0 σ (Nat.zero_add _) (ke_rf _ _) (fun q hq => absurd hq (Nat.not_lt_zero q)) (fun _ _ => rfl)
  intro n
  induction n with
  | zero =>
    intro p τ hp hk hq hj
    have hgt := gC_ke hk (by decide) hg
    obtain ⟨b1, b2, b3, b4, b5⟩ := rwC_of hw hgt hr
    refine bk_Op_findRests_2 _ _ (bk_Gr_lengthOf_0 _ ⟨vp_in_nI (by omega) (by decide), ?_⟩)
    rw [nI_clamp (by omega), b4]
    exact ⟨fun _ => k τ hk (fun q h => hq q (by omega)) hj, fun h => absurd (nI_le (by omega) (by omega)) h⟩
  | succ n ih =>
    intro p τ hp hk hq hj
    have hgt := gC_ke hk (by decide) hg
    have hrw := rwC_of hw hgt hr
    have hrw' := hrw
    obtain ⟨b1, b2, b3, b4, b5⟩ := hrw'
    refine bk_Op_findRests_2 _ _ (bk_Gr_lengthOf_0 _ ⟨vp_in_nI (by omega) (by decide), ?_⟩)
    rw [nI_clamp (by omega), b4]
    refine ⟨fun h => absurd ((nI_leI (by omega) (by omega)).mp h) (by omega), fun _ => ?_⟩
    rw [nI_add]
    refine sp_ofRow hrw (by omega) (fun m hm => ?_)
    rw [pk_mul, nI_add, nI_clamp (by omega), show r * 7 + p = 7 * r + p by omega]
    refine ⟨vp_in_nI (by omega) (by decide), ih (p + 1) _ (by omega) (ke_si hk (by decide)) (fun q h => ?_) (fun j h => ?_)⟩
    · by_cases e : q = p
      · subst e
        intro i hi
        rw [si_at, hm i hi]
        have : ∀ k b, k < 8 → b ≤ 14 → (oS τ k b ↔ Og g k b) := by
          intro k b hk8 hb
          have e6 : τ.1 6 = σ.1 6 := hk.1 6 (by decide)
          have := ho k b hk8 (by omega)
          unfold oS at this ⊢
          rw [e6, this]
          exact ⟨fun h => h.2, fun h => ⟨hb, h⟩⟩
        rw [ro_congr this _ _ _ (fun z h1 h2 => (b5 z (by omega)).2)]
      · intro i hi
        rw [si_nj (by omega)]
        exact hq q (by omega) i hi
    · rw [si_nj (by omega)]
      exact hj j h
theorem sp_Ofind {g : Gm} {op : Bool} {ok ol : Nat} {os : Nat → Nat} {σ : tp_S} (hw : gW g) (hg : gC g op ok ol os σ) {K : tp_S → Prop} (k : ∀ τ, ke [6, 7] σ τ → oOK g τ → (∀ r p, (r < gn g ∨ r = 24) → p < rl g r → rOK g τ r p) → K τ) : tp_W shC m_Op_find 0 [some (.ref 5), none, none] [] σ (tp_Qv K) := by
  have hn24 := hw.1
  -- behind the passes
  have rest : ∀ τ, ke [6, 7] σ τ → oOK g τ → tp_W shC m_Op_find 35 [some (.ref 5), none, some (.int (nI 0))] [] τ (tp_Qv K) := by
    intro τ0 hk0 ho0
    suffices h : ∀ (n r : Nat) (τ : tp_S), r + n = gn g → ke [6, 7] σ τ → oOK g τ → (∀ r' p, r' < r → p < rl g r' → rOK g τ r' p) → tp_W shC m_Op_find 35 [some (.ref 5), none, some (.int (nI r))] [] τ (tp_Qv K) from h _ 0 τ0 (Nat.zero_add _) hk0 ho0 (fun r' p h => absurd h (Nat.not_lt_zero r'))
    have keep : ∀ {r : Nat} {τ υ : tp_S}, oOK g τ → ke [7] τ υ → oOK g υ := by
      intro r τ υ h hk k i hk8 hi
      have e6 : υ.1 6 = τ.1 6 := hk.1 6 (by decide)
      have := h k i hk8 hi
      unfold oS at this ⊢
      rw [e6]; exact this
    intro n
    induction n with
    | zero =>
      intro r τ hr hk ho hp
      have hgt := gC_ke hk (by decide) hg
      refine bk_Op_find_35 _ (bk_Gr_rules_0 ?_)
      rw [hgt.1]
      refine ⟨fun _ => sp_findRests hw hgt ho (Or.inr rfl) (fun υ h1 h2 h3 => ?_), fun h => absurd (nI_le (by omega) (by omega)) h⟩
      refine k υ (ke_tr hk (ke_sub h1 (by decide))) (keep (r := 0) ho h1) (fun r' p hr' hp' => ?_)
      rcases hr' with hr' | rfl
      · intro i hi
        have hrl := (rwC_of hw hgt (Or.inl hr')).2.1
        rw [h3 (7 * r' + p) (Or.inl (by omega))]
        exact hp r' p (by omega) hp' i hi
      · exact h2 p hp'
    | succ n ih =>
      intro r τ hr hk ho hp
      have hgt := gC_ke hk (by decide) hg
      refine bk_Op_find_35 _ (bk_Gr_rules_0 ?_)
      rw [hgt.1]
      refine ⟨fun h => absurd ((nI_leI (by omega) (by omega)).mp h) (by omega), fun _ => sp_findRests hw hgt ho (Or.inl (by omega)) (fun υ h1 h2 h3 => ?_)⟩
      rw [nI_add]
      refine ih (r + 1) υ (by omega) (ke_tr hk (ke_sub h1 (by decide))) (keep (r := 0) ho h1) (fun r' p hr' hp' => ?_)
      by_cases e : r' = r
      · subst e; exact h2 p hp'
      · intro i hi
        have hrl := (rwC_of hw hgt (Or.inl (show r' < gn g by omega))).2.1
        rw [h3 (7 * r' + p) (Or.inl (by omega))]
        exact hp r' p (by omega) hp' i hi
  -- the passes
  refine bk_Op_find_0 (sp_fill6 (fun τ0 hk0 hz0 => ?_))
  have hin0 : oIn g τ0 := by
    refine ⟨fun k i hk hi h => ?_, fun k b hk h => ?_⟩
    · unfold oS at h; rw [hz0 k hk] at h
      have : bt (nI 0) i = false := b_0 i
      rw [this] at h; cases h
    · unfold oS at h; rw [hz0 k hk] at h
      have : bt (nI 0) b = false := b_0 b
      rw [this] at h; cases h
  suffices h : ∀ (n pass : Nat) (τ : tp_S), pass + n = 121 → ke [6] σ τ → oIn g τ → pass ≤ oCnt τ → tp_W shC m_Op_find 12 [some (.ref 5), some (.int (nI 1)), some (.int (nI pass))] [] τ (tp_Qv K) from h 121 0 τ0 rfl hk0 hin0 (Nat.zero_le _)
  intro n
  induction n with
  | zero =>
    intro pass τ hp hk hin hc
    have := oCnt_le τ
    omega
  | succ n ih =>
    intro pass τ hp hk hin hc
    have hgt := gC_ke hk (by decide) hg
    refine bk_Op_find_12 _ _ ⟨fun h => absurd h n1_0, fun _ => ⟨fun h => absurd ((nI_leI (by decide) (by omega)).mp h) (by omega), fun _ => bk_Op_widenKinds_0 ?_⟩⟩
    rw [nI_add]
    refine sp_widen_4 hw hgt (fun υ h1 h2 h3 h4 => ?_) (fun υ h1 h2 h3 => ?_) (gn g) 0 (nI 0) τ (Nat.zero_add _) (ke_rf _ _) (fun _ _ _ h => h) hin (Or.inl ⟨rfl, fun _ _ => rfl, fun r' h => absurd h (Nat.not_lt_zero r')⟩)
    · have hku : ke [6, 7] σ υ := ke_sub (ke_tr hk h1) (by decide)
      exact bk_Op_find_12 _ _ ⟨fun _ => rest υ hku (oOK_of hw h3 h4), fun h => absurd rfl h⟩
    · exact ih (pass + 1) υ (by omega) (ke_tr hk h1) h2 (by omega)
