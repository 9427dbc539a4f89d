/-! items, kinds that come first, closure -/
/-- item i stands before column c -/
def bcs (g : Gm) (i c : Nat) : Prop := ∃ r p, (r < gn g ∨ r = 24) ∧ p < rl g r ∧ i = 7 * r + p ∧ rs g r p = c
/-- kind b stands first in a rule of kind a -/
def edg (g : Gm) (a b : Nat) : Prop := ∃ r, r < gn g ∧ gk g r = a ∧ 0 < gl g r ∧ gs g r 0 = 14 + b
def Rk (g : Gm) (a b : Nat) : Prop := ∀ S : Nat → Prop, S a → (∀ x y, S x → edg g x y → S y) → S b
theorem Rk_rf (g : Gm) (a : Nat) : Rk g a a := fun _ h _ => h
theorem Rk_st {g : Gm} {a b c : Nat} (h1 : Rk g a b) (h2 : edg g b c) : Rk g a c := fun S hS hc => hc b c (h1 S hS hc) h2
theorem Rk_tr {g : Gm} {a b c : Nat} (h1 : Rk g a b) (h2 : Rk g b c) : Rk g a c := fun S hS hc => h2 S (h1 S hS hc) hc
theorem edg_lt {g : Gm} (hw : gW g) {a b : Nat} (h : edg g a b) : a < 8 ∧ b < 8 := by
  obtain ⟨r, hr, e1, e2, e3⟩ := h
  obtain ⟨w1, w2, w3⟩ := hw.2 r hr
  have := (w3 0 e2).2
  omega
/-- in at most P steps -/
def Rp (g : Gm) : Nat → Nat → Nat → Prop
  | 0, a, b => a = b
  | P + 1, a, b => Rp g P a b ∨ ∃ c, edg g a c ∧ Rp g P c b
theorem Rp_mono {g : Gm} {a b : Nat} : ∀ {P Q : Nat}, P ≤ Q → Rp g P a b → Rp g Q a b := by
  intro P Q h
  induction h with
  | refl => exact id
  | step _ ih => exact fun q => Or.inl (ih q)
theorem Rp_Rk {g : Gm} : ∀ (P a b : Nat), Rp g P a b → Rk g a b
  | 0, a, b, h => by have : a = b := h; subst this; exact Rk_rf g a
  | P + 1, a, b, h => by
    rcases h with h | ⟨c, h1, h2⟩
    · exact Rp_Rk P a b h
    · exact Rk_tr (Rk_st (Rk_rf g a) h1) (Rp_Rk P c b h2)
noncomputable def pd (p : Prop) : Bool := @decide p (Classical.propDecidable p)
theorem pd_t {p : Prop} (h : p) : pd p = true := @decide_eq_true p (Classical.propDecidable p) h
theorem pd_e {p : Prop} (h : pd p = true) : p := @of_decide_eq_true p (Classical.propDecidable p) h
theorem pd_f {p : Prop} (h : ¬ p) : pd p = false := @decide_eq_false p (Classical.propDecidable p) h
/-- eight kinds: eight steps are enough -/
theorem Rk_8 {g : Gm} (hw : gW g) {a b : Nat} (hb : b < 8) (h : Rk g a b) : Rp g 8 a b := by
  -- closed at some P ≤ 7
  have key : ∃ P, P ≤ 7 ∧ ∀ x y, Rp g P y b → edg g x y → Rp g P x b := by
    refine Classical.byContradiction (fun hno => ?_)
    have grow : ∀ P, P ≤ 8 → P + 1 ≤ (List.range 8).countP (fun k => pd (Rp g P k b)) := by
      intro P
      induction P with
      | zero =>
        intro _
        have : 0 < (List.range 8).countP (fun k => pd (Rp g 0 k b)) := List.countP_pos_iff.mpr ⟨b, List.mem_range.mpr hb, pd_t rfl⟩
        omega
      | succ P ih =>
        intro hP
        have h1 := ih (by omega)
        have h2 : ¬ ∀ x y, Rp g P y b → edg g x y → Rp g P x b := fun z => hno ⟨P, by omega, z⟩
        have h3 : ∃ x y, Rp g P y b ∧ edg g x y ∧ ¬ Rp g P x b := by
          refine Classical.byContradiction (fun hn => h2 (fun x y q1 q2 => Classical.byContradiction (fun q3 => hn ⟨x, y, q1, q2, q3⟩)))
        obtain ⟨x, y, q1, q2, q3⟩ := h3
        have : (List.range 8).countP (fun k => pd (Rp g P k b)) < (List.range 8).countP (fun k => pd (Rp g (P + 1) k b)) := by
          refine cnt_lt (fun k _ hk => ?_) ⟨x, List.mem_range.mpr (edg_lt hw q2).1, ?_, ?_⟩
          · exact pd_t (Or.inl (pd_e hk))
          · exact pd_t (Or.inr ⟨y, q2, q1⟩)
          · exact pd_f q3
        omega
    have h9 := grow 8 (Nat.le_refl _)
    have hl := List.countP_le_length (l := List.range 8) (p := fun k => pd (Rp g 8 k b))
    simp only [List.length_range] at hl
    omega
  obtain ⟨P, hP, hc⟩ := key
  have := h (fun x => Rp g P x b → Rp g P a b) (fun z => z) (fun x y hx he hy => hx (hc x y hy he))
  exact Rp_mono (by omega) (this (Rp_mono (Nat.zero_le P) rfl))
/-- closure of a set of items -/
def cCl (g : Gm) (S : Nat → Prop) : Prop := ∀ i r, S i → r < gn g → bcs g i (14 + gk g r) → S (7 * r)
def Cl (g : Gm) (T : Nat → Prop) (i : Nat) : Prop := ∀ S : Nat → Prop, (∀ j, T j → S j) → cCl g S → S i
theorem Cl_in {g : Gm} {T : Nat → Prop} {i : Nat} (h : T i) : Cl g T i := fun S h1 _ => h1 i h
theorem Cl_cl (g : Gm) (T : Nat → Prop) : cCl g (Cl g T) := fun i r h hr hb S h1 h2 => h2 i r (h S h1 h2) hr hb
theorem Cl_eq {g : Gm} {T S : Nat → Prop} (h1 : ∀ i, T i → S i) (h2 : cCl g S) (h3 : ∀ i, S i → Cl g T i) (i : Nat) : S i ↔ Cl g T i := ⟨h3 i, fun h => h S h1 h2⟩
theorem bcs_first {g : Gm} (hw : gW g) {r b : Nat} (hr : r < gn g) (h0 : 0 < gl g r) (h1 : gs g r 0 = 14 + b) : bcs g (7 * r) (14 + b) := by
  have := hw.1
  exact ⟨r, 0, Or.inl hr, by rw [rl_c (by omega)]; exact h0, rfl, by rw [rs_c (by omega)]; exact h1⟩
/-- a closed set with an item before kind k has all rules of kinds that come first in k -/
theorem cCl_Rk {g : Gm} (hw : gW g) {S : Nat → Prop} (hS : cCl g S) {i k j : Nat} (hi : S i) (hb : bcs g i (14 + k)) (h : Rk g k j) : ∀ r, r < gn g → gk g r = j → S (7 * r) := by
  refine h (fun j => ∀ r, r < gn g → gk g r = j → S (7 * r)) (fun r hr e => hS i r hi hr (by rw [e]; exact hb)) (fun x y hx he r hr e => ?_)
  obtain ⟨r0, a1, a2, a3, a4⟩ := he
  exact hS (7 * r0) r (hx r0 a1 a2) hr (by rw [e]; exact bcs_first hw a1 a3 a4)
/-- the only rule's item that an item can be -/
theorem bcs_at {g : Gm} (hw : gW g) {r p c : Nat} (hp : p ≤ 6) (h : bcs g (7 * r + p) c) : (r < gn g ∨ r = 24) ∧ p < rl g r ∧ rs g r p = c := by
  obtain ⟨r', p', h1, h2, h3, h4⟩ := h
  have hl : rl g r' ≤ 6 := by
    rcases h1 with h1 | rfl
    · rw [rl_c (by have := hw.1; omega)]; exact (hw.2 r' h1).2.1
    · show 1 ≤ 6; decide
  have e1 : r' = r := by omega
  have e2 : p' = p := by omega
  subst e1; subst e2
  exact ⟨h1, h2, h4⟩
theorem bcs_lt {g : Gm} (hw : gW g) {i c : Nat} (h : bcs g i c) : i < 169 ∧ c < 22 := by
  obtain ⟨r, p, h1, h2, h3, h4⟩ := h
  have hn := hw.1
  rcases h1 with h1 | rfl
  · rw [rl_c (by omega)] at h2
    rw [rs_c (by omega)] at h4
    have q := hw.2 r h1
    have q2 := (q.2.2 p h2).2
    have q1 := q.2.1
    omega
  · have : p < 1 := h2
    have e : (14 : Nat) = c := h4
    omega
/-! the class marks its items -/
def mkB (g : Gm) (σ : tp_S) : Prop := ∀ c i, c < 22 → i < 192 → (ib σ 12 c i ↔ bcs g i c)
theorem ib_ke {σ τ : tp_S} {cs : List Nat} (hk : ke cs σ τ) {c : Nat} (hc : c ∉ cs) (row i : Nat) : ib τ c row i ↔ ib σ c row i := by
  unfold ib; rw [hk.2 c hc]
theorem sp_markItems {g : Gm} {op : Bool} {ok ol : Nat} {os : Nat → Nat} {σ : tp_S} (hw : gW g) (hg : gC g op ok ol os σ) {K : tp_S → Prop} (k : ∀ τ, ke [12, 13] σ τ → mkB g τ → (∀ kd i, kd < 8 → i < 192 → (ib τ 13 kd i ↔ ∃ r, r < gn g ∧ gk g r = kd ∧ i = 7 * r)) → K τ) : tp_W shC m_St_markItems 0 [some (.ref 10), none, none, none] [] σ (tp_Qv K) := by
  have hn24 := hw.1
  refine bk_St_markItems_0 (sp_fillL12 (fun τ1 hk1 hz1 => sp_fillL13 (fun τ2 hk2 hz2 => ?_)))
  have hk12 : ke [12, 13] σ τ2 := ke_tr (ke_sub hk1 (by decide)) (ke_sub hk2 (by decide))
  have hg2 := gC_ke hk12 (by decide) hg
  refine bk_Gr_columnAt_0 _ ⟨by unfold vp_in; decide, ?_⟩
  rw [nI_clamp (by decide), hg2.2.2.2.2.2.2.1]
  refine sp_mark12 (by decide) (by decide) (fun τ3 hk3 hm3 => ?_)
  have z12 : ∀ c i, c < 22 → i < 192 → ¬ ib τ2 12 c i := by
    intro c i hc hi h
    unfold ib at h
    rw [hk2.2 12 (by decide), hz1 _ (by omega), lb_0] at h
    cases h
  have z13 : ∀ c i, c < 8 → i < 192 → ¬ ib τ2 13 c i := by
    intro c i hc hi h
    unfold ib at h
    rw [hz2 _ (by omega), lb_0] at h
    cases h
  have hk23 : ke [12, 13] σ τ3 := ke_tr hk12 (ke_sub hk3 (by decide))
  -- rules below r, and of r the places below p
  suffices h : ∀ (n r : Nat) (τ : tp_S), r + n = gn g → ke [12, 13] σ τ → (∀ c i, c < 22 → i < 192 → (ib τ 12 c i ↔ ((i = 168 ∧ c = 14) ∨ ∃ r' p, r' < r ∧ p < gl g r' ∧ i = 7 * r' + p ∧ gs g r' p = c))) → (∀ kd i, kd < 8 → i < 192 → (ib τ 13 kd i ↔ ∃ r', r' < r ∧ gk g r' = kd ∧ i = 7 * r')) → tp_W shC m_St_markItems 38 [some (.ref 10), some (.int (nI r)), none, none] [] τ (tp_Qv K) from
    h (gn g) 0 τ3 (Nat.zero_add _) hk23 (fun c i hc hi => by
      rw [hm3 c i hi]
      constructor
      · rintro (h | h)
        · exact absurd h (z12 c i hc hi)
        · exact Or.inl ⟨h.2, h.1⟩
      · rintro (h | ⟨r', p, h, _⟩)
        · exact Or.inr ⟨h.2, h.1⟩
        · omega) (fun kd i hkd hi => by
      rw [ib_ke hk3 (by decide)]
      constructor
      · intro h; exact absurd h (z13 kd i hkd hi)
      · rintro ⟨r', h, _⟩; omega)
  intro n
  induction n with
  | zero =>
    intro r τ hr hk h12 h13
    have hgt := gC_ke hk (by decide) hg
    refine bk_St_markItems_38 _ (bk_Gr_rules_0 ?_)
    rw [hgt.1]
    refine ⟨fun _ => k τ hk (fun c i hc hi => ?_) (fun kd i hkd hi => ?_), fun h => absurd (nI_le (by omega) (by omega)) h⟩
    · rw [h12 c i hc hi]
      constructor
      · rintro (⟨e1, e2⟩ | ⟨r', p, h1, h2, h3, h4⟩)
        · exact ⟨24, 0, Or.inr rfl, by show 0 < 1; decide, e1, e2.symm⟩
        · exact ⟨r', p, Or.inl (by omega), by rw [rl_c (by omega)]; exact h2, h3, by rw [rs_c (by omega)]; exact h4⟩
      · rintro ⟨r', p, h1 | rfl, h2, h3, h4⟩
        · rw [rl_c (by omega)] at h2
          rw [rs_c (by omega)] at h4
          exact Or.inr ⟨r', p, by omega, h2, h3, h4⟩
        · have : p < 1 := h2
          exact Or.inl ⟨by omega, h4.symm⟩
    · rw [h13 kd i hkd hi]
      constructor
      · rintro ⟨r', h1, h2⟩; exact ⟨r', by omega, h2⟩
      · rintro ⟨r', h1, h2⟩; exact ⟨r', by omega, h2⟩
  | succ n ih =>
    intro r τ hr hk h12 h13
    have hgt := gC_ke hk (by decide) hg
    have hrn : r < gn g := by omega
    obtain ⟨w1, w2, w3⟩ := hw.2 r hrn
    refine bk_St_markItems_38 _ (bk_Gr_rules_0 ?_)
    rw [hgt.1]
    refine ⟨fun h => absurd ((nI_leI (by omega) (by omega)).mp h) (by omega), fun _ => bk_Gr_kindOf_0 _ ⟨vp_in_nI (by omega) (by decide), ?_⟩⟩
    rw [nI_clamp (by omega), (hgt.2.2.1 r hrn).1, pk_mul]
    refine sp_mark13 w1 (by omega) (fun τ4 hk4 hm4 => ?_)
    have hk' : ke [12, 13] σ τ4 := ke_tr hk (ke_sub hk4 (by decide))
    have h13' : ∀ kd i, kd < 8 → i < 192 → (ib τ4 13 kd i ↔ ∃ r', r' < r + 1 ∧ gk g r' = kd ∧ i = 7 * r') := by
      intro kd i hkd hi
      rw [hm4 kd i hi, h13 kd i hkd hi]
      constructor
      · rintro (⟨r', h1, h2⟩ | ⟨e1, e2⟩)
        · exact ⟨r', by omega, h2⟩
        · exact ⟨r, by omega, e1.symm, by omega⟩
      · rintro ⟨r', h1, h2, h3⟩
        by_cases e : r' = r
        · subst e; exact Or.inr ⟨h2.symm, by omega⟩
        · exact Or.inl ⟨r', by omega, h2, h3⟩
    -- the places of rule r
    suffices hp : ∀ (m p : Nat) (υ : tp_S), p + m = gl g r → ke [12, 13] σ υ → (∀ c i, c < 22 → i < 192 → (ib υ 12 c i ↔ ((i = 168 ∧ c = 14) ∨ ∃ r' q, (r' < r ∨ (r' = r ∧ q < p)) ∧ q < gl g r' ∧ i = 7 * r' + q ∧ gs g r' q = c))) → (∀ kd i, kd < 8 → i < 192 → (ib υ 13 kd i ↔ ∃ r', r' < r + 1 ∧ gk g r' = kd ∧ i = 7 * r')) → tp_W shC m_St_markItems 72 [some (.ref 10), some (.int (nI r)), some (.int (nI (r * 7))), some (.int (nI p))] [] υ (tp_Qv K) from
      hp (gl g r) 0 τ4 (Nat.zero_add _) hk' (fun c i hc hi => by
        rw [ib_ke hk4 (by decide), h12 c i hc hi]
        constructor
        · rintro (h | ⟨r', q, h1, h2⟩)
          · exact Or.inl h
          · exact Or.inr ⟨r', q, Or.inl h1, h2⟩
        · rintro (h | ⟨r', q, h1 | h1, h2⟩)
          · exact Or.inl h
          · exact Or.inr ⟨r', q, h1, h2⟩
          · omega) h13'
    intro m
    induction m with
    | zero =>
      intro p υ hp hku h12u h13u
      have hgu := gC_ke hku (by decide) hg
      refine bk_St_markItems_72 _ _ _ (bk_Gr_lengthOf_0 _ ⟨vp_in_nI (by omega) (by decide), ?_⟩)
      rw [nI_clamp (by omega), (hgu.2.2.1 r hrn).2.1, nI_add]
      refine ⟨fun _ => ih (r + 1) υ (by omega) hku (fun c i hc hi => ?_) h13u, fun h => absurd (nI_le (by omega) (by omega)) h⟩
      rw [h12u c i hc hi]
      constructor
      · rintro (h | ⟨r', q, h1, h2⟩)
        · exact Or.inl h
        · exact Or.inr ⟨r', q, by omega, h2⟩
      · rintro (h | ⟨r', q, h1, h2, h3⟩)
        · exact Or.inl h
        · by_cases e : r' = r
          · subst e; exact Or.inr ⟨r', q, Or.inr ⟨rfl, by omega⟩, h2, h3⟩
          · exact Or.inr ⟨r', q, Or.inl (by omega), h2, h3⟩
    | succ m ihm =>
      intro p υ hp hku h12u h13u
      have hgu := gC_ke hku (by decide) hg
      have hpl : p < gl g r := by omega
      refine bk_St_markItems_72 _ _ _ (bk_Gr_lengthOf_0 _ ⟨vp_in_nI (by omega) (by decide), ?_⟩)
      rw [nI_clamp (by omega), (hgu.2.2.1 r hrn).2.1]
      refine ⟨fun h => absurd ((nI_leI (by omega) (by omega)).mp h) (by omega), fun _ => bk_Gr_columnAt_0 _ ?_⟩
      rw [nI_add, nI_add, nI_clamp (by omega), show r * 7 + p = 7 * r + p by omega, (hgu.2.2.1 r hrn).2.2.1 p hpl]
      refine ⟨vp_in_nI (by omega) (by decide), sp_mark12 (w3 p hpl).2 (by omega) (fun φ hkf hmf => ?_)⟩
      refine ihm (p + 1) φ (by omega) (ke_tr hku (ke_sub hkf (by decide))) (fun c i hc hi => ?_) (fun kd i hkd hi => by rw [ib_ke hkf (by decide)]; exact h13u kd i hkd hi)
      rw [hmf c i hi, h12u c i hc hi]
      constructor
      · rintro ((h | ⟨r', q, h1, h2⟩) | ⟨e1, e2⟩)
        · exact Or.inl h
        · exact Or.inr ⟨r', q, by omega, h2⟩
        · exact Or.inr ⟨r, p, Or.inr ⟨rfl, by omega⟩, hpl, by omega, e1.symm⟩
      · rintro (h | ⟨r', q, h1, h2, h3, h4⟩)
        · exact Or.inl (Or.inl h)
        · by_cases e : r' = r ∧ q = p
          · obtain ⟨rfl, rfl⟩ := e
            exact Or.inr ⟨h4.symm, by omega⟩
          · exact Or.inl (Or.inr ⟨r', q, by omega, h2, h3, h4⟩)
