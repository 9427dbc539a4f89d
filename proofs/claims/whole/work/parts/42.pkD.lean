/-! the class packs: rows are seated -/
theorem nI_or (a b : Nat) : nI a ||| nI b = nI (a ||| b) := by
  apply Int32.toBitVec_inj.mp
  show (nI a).toBitVec ||| (nI b).toBitVec = (nI (a ||| b)).toBitVec
  show BitVec.ofNat 32 a ||| BitVec.ofNat 32 b = BitVec.ofNat 32 (a ||| b)
  exact BitVec.ofNat_or.symm
theorem nI_put {row v : Nat} (hr : row < 108) (hv : v < 4096) : (nI row <<< (nI 12 &&& 31)) ||| nI v = nI (4096 * row + v) := by
  rw [pk_shlN (nI 12 &&& 31) 12 (s_l 12 (by decide)) (by omega), nI_or]
  congr 1
  have := Nat.two_pow_add_eq_or_of_lt (i := 12) (b := v) (by omega) row
  rw [Nat.mul_comm row, ← this]
theorem nI_max {a b : Nat} (ha : a < 2 ^ 31) (hb : b < 2 ^ 31) : (if nI a < nI b then nI b else nI a) = nI (max a b) := by
  by_cases h : a < b
  · rw [if_pos ((nI_ltI ha hb).mpr h), Nat.max_eq_right (by omega)]
  · rw [if_neg (fun z => h ((nI_ltI ha hb).mp z)), Nat.max_eq_left (by omega)]
theorem nI_dec (c : Nat) : nI (c + 1) + (-1 : Int32) = nI c := by
  rw [← nI_add, Int32.add_assoc, show nI 1 + (-1 : Int32) = 0 from by decide, Int32.add_zero]
def plv (o : Option (Nat × Nat)) : Int32 := match o with
  | none => -1
  | some (row, v) => nI (4096 * row + v)
def pkC (P : Pt) (σ : tp_S) : Prop := (∀ x, x < 2200 → σ.1 22 x = plv (po P x)) ∧ (∀ row, row < 108 → σ.1 21 row = lv (pb P row)) ∧ σ.1 18 8 = nI (pl P)
theorem plv_n {n : Nat} {V : Nat → Nat → Nat} (hB : vB n V) {P : Pt} (hI : pI n V P) {x : Nat} : plv (po P x) = -1 ↔ po P x = none := by
  cases e : po P x with
  | none => exact ⟨fun _ => rfl, fun _ => rfl⟩
  | some p =>
    obtain ⟨row, v⟩ := p
    refine ⟨fun h => ?_, fun h => by cases h⟩
    obtain ⟨h1, b, _, _, _, _, h2⟩ := hI.2.2.2.1 x row v e
    have := en_lt hB row (x - b)
    exact absurd h (nI_neg1 (by omega))
theorem sp_allFree {n : Nat} {V : Nat → Nat → Nat} (hB : vB n V) {P : Pt} (hI : pI n V P) {σ : tp_S} (hP : pkC P σ) {row : Nat} (hs : spt n V row σ) {b : Nat} (hb : b + wd n row ≤ 2200) {K : Int32 → tp_S → Prop} (k1 : fit n V row (po P) b → K (nI 1) σ) (k0 : ¬ fit n V row (po P) b → K (nI 0) σ) : tp_W shC m_Pk_allFree 0 [some (.ref 18), some (.int (nI b)), some (.int (nI (ct n V row))), none] [] σ (tp_Qi K) := by
  have hn := hB.1
  have hct := ct_le (V := V) (row := row) hn
  have hwd := wd_le (row := row) hn
  refine bk_Pk_allFree_0 _ _ ?_
  suffices h : ∀ (m k : Nat), k + m = wd n row → (∀ k', k' < k → ¬ en n V row k' = 0 → po P (b + k') = none) → tp_W shC m_Pk_allFree 2 [some (.ref 18), some (.int (nI b)), some (.int (nI (ct n V row))), some (.int (nI (cz n V row k)))] [] σ (tp_Qi K) from h (wd n row) 0 (Nat.zero_add _) (fun k' h => absurd h (Nat.not_lt_zero k'))
  intro m
  induction m with
  | zero =>
    intro k hk hf
    have ek : k = wd n row := by omega
    subst ek
    exact bk_Pk_allFree_2 _ _ _ ⟨fun _ => ⟨bo_1, k1 hf⟩, fun h => absurd (nI_le (Nat.le_refl _) (by have : cz n V row (wd n row) ≤ 100 := hct; omega)) h⟩
  | succ m ih =>
    intro k hk hf
    by_cases z : en n V row k = 0
    · have := ih (k + 1) (by omega) (fun k' h1 h2 => by
        by_cases y : k' = k
        · subst y; exact absurd z h2
        · exact hf k' (by omega) h2)
      rw [cz_z z] at this
      exact this
    · have hczl : cz n V row (k + 1) ≤ ct n V row := cz_mono (by omega)
      rw [cz_s z] at hczl
      have hcz := cz_le (n := n) (V := V) (row := row) k
      refine bk_Pk_allFree_2 _ _ _ ⟨fun h => absurd ((nI_leI (by omega) (by omega)).mp h) (by omega), fun _ => ?_⟩
      rw [nI_clamp (by omega), hs k (by omega) z]
      simp only [nI_add]
      rw [nI_clamp (by omega), hP.1 _ (by omega), plv_n hB hI]
      refine ⟨vp_in_nI (by omega) (by decide), vp_in_nI (by omega) (by decide), fun he => ?_, fun hne => ⟨bo_0, k0 (fun hf' => hne (hf' k (by omega) z))⟩⟩
      have := ih (k + 1) (by omega) (fun k' h1 h2 => by
        by_cases y : k' = k
        · subst y; exact he
        · exact hf k' (by omega) h2)
      rw [cz_s z] at this
      exact this
theorem sp_leastBase {n : Nat} {V : Nat → Nat → Nat} (hB : vB n V) {P : Pt} (hI : pI n V P) {σ : tp_S} (hP : pkC P σ) {row : Nat} (hr : row < 108) (hbn : pb P row = none) (hs : spt n V row σ) {K : Int32 → tp_S → Prop} (k : K (nI (bse n V row (po P) (pl P))) σ) : tp_W shC m_Pk_leastBase 0 [some (.ref 18), some (.int (nI (ct n V row))), none] [] σ (tp_Qi K) := by
  have hn := hB.1
  have hroom := wl_room hn hr hbn
  have hlen := hI.1
  refine bk_Pk_leastBase_0 _ ?_
  suffices h : ∀ (m b : Nat), b + m = pl P → (∀ b', b' < b → ¬ fit n V row (po P) b') → tp_W shC m_Pk_leastBase 2 [some (.ref 18), some (.int (nI (ct n V row))), some (.int (nI b))] [] σ (tp_Qi K) from h (pl P) 0 (Nat.zero_add _) (fun b' h => absurd h (Nat.not_lt_zero b'))
  intro m
  induction m with
  | zero =>
    intro b hb hno
    have eb : b = pl P := by omega
    subst eb
    refine bk_Pk_leastBase_2 _ _ ?_
    rw [hP.2.2]
    refine ⟨fun _ => ?_, fun h => absurd (nI_le (Nat.le_refl _) (by omega)) h⟩
    unfold bse at k
    rw [lst_none hno] at k
    exact k
  | succ m ih =>
    intro b hb hno
    refine bk_Pk_leastBase_2 _ _ ?_
    rw [hP.2.2]
    refine ⟨fun h => absurd ((nI_leI (by omega) (by omega)).mp h) (by omega), fun _ => sp_allFree hB hI hP hs (by omega) (fun hf => ⟨fun h => absurd h n1_0, fun _ => ?_⟩) (fun hf => ⟨fun _ => ?_, fun h => absurd rfl h⟩)⟩
    · unfold bse at k
      rw [lst_some hf hno (by omega)] at k
      exact k
    · rw [nI_add]
      refine ih (b + 1) (by omega) (fun b' h => ?_)
      by_cases y : b' = b
      · subst y; exact hf
      · exact hno b' (by omega)
/-- defaults and counts stand -/
def rwI (n : Nat) (V : Nat → Nat → Nat) (σ : tp_S) : Prop := ∀ row, row < 108 → σ.1 19 row = lv (dfl n V row) ∧ σ.1 20 row = nI (ct n V row)
/-- frame of seating -/
def sF (σ τ : tp_S) : Prop := ke [18, 21, 22, 23] σ τ ∧ τ.1 18 6 = σ.1 18 6 ∧ τ.1 18 7 = σ.1 18 7
theorem sF_rf (σ : tp_S) : sF σ σ := ⟨ke_rf _ _, rfl, rfl⟩
theorem sF_tr {σ τ υ : tp_S} (h1 : sF σ τ) (h2 : sF τ υ) : sF σ υ := ⟨ke_tr h1.1 h2.1, h2.2.1.trans h1.2.1, h2.2.2.trans h1.2.2⟩
theorem sF_vC {n : Nat} {V : Nat → Nat → Nat} {σ τ : tp_S} (hk : sF σ τ) (h : vC n V σ) : vC n V τ := vC_eq (hk.1.1 9 (by decide)) hk.2.1 h
theorem sF_rwI {n : Nat} {V : Nat → Nat → Nat} {σ τ : tp_S} (hk : sF σ τ) (h : rwI n V σ) : rwI n V τ := by
  unfold rwI at h ⊢
  rw [hk.1.1 19 (by decide), hk.1.1 20 (by decide)]; exact h
theorem sF_23 {σ τ : tp_S} (h : ke [23] σ τ) : sF σ τ := ⟨ke_sub h (by decide), by rw [h.1 18 (by decide)], by rw [h.1 18 (by decide)]⟩
theorem pkC_23 {P : Pt} {σ τ : tp_S} (h : ke [23] σ τ) (hP : pkC P σ) : pkC P τ := by
  unfold pkC at hP ⊢
  rw [h.1 22 (by decide), h.1 21 (by decide), h.1 18 (by decide)]; exact hP
theorem sp_seat {n : Nat} {V : Nat → Nat → Nat} (hB : vB n V) {P : Pt} (hI : pI n V P) {σ : tp_S} (hV : vC n V σ) (hW : rwI n V σ) (hP : pkC P σ) {row : Nat} (hr : row < 108) (hbn : pb P row = none) (hs : spt n V row σ) {K : tp_S → Prop} (k : ∀ τ, sF σ τ → pkC (lay n V row P) τ → K τ) : tp_W shC m_Pk_seat 0 [some (.ref 18), some (.int (nI row)), some (.int (nI (bse n V row (po P) (pl P)))), none, none] [] σ (tp_Qv K) := by
  have hn := hB.1
  have hct := ct_le (V := V) (row := row) hn
  have hwd := wd_le (row := row) hn
  have hroom := wl_room hn hr hbn
  have hlen := hI.1
  have hble : bse n V row (po P) (pl P) ≤ pl P := bse_le
  unfold lay at k
  generalize bse n V row (po P) (pl P) = b at hble k ⊢
  refine bk_Pk_seat_0 _ _ ?_
  rw [nI_clamp (by omega)]
  refine ⟨vp_in_nI (by omega) (by decide), ?_⟩
  suffices h : ∀ (m kk : Nat) (τ : tp_S), kk + m = wd n row → sF σ τ → spt n V row τ → (∀ x, x < 2200 → τ.1 22 x = plv ((pf n V row b (po P) (pl P) kk).1 x)) → (∀ row', row' < 108 → τ.1 21 row' = lv (va_up (pb P) row (some b) row')) → τ.1 18 8 = nI (pf n V row b (po P) (pl P) kk).2 → tp_W shC m_Pk_seat 9 [some (.ref 18), some (.int (nI row)), some (.int (nI b)), some (.int (nI (cz n V row kk))), none] [] τ (tp_Qv K) by
    refine h (wd n row) 0 _ (Nat.zero_add _) ⟨ke_si (ke_rf _ _) (by decide), by rw [si_ne (by decide)], by rw [si_ne (by decide)]⟩ (fun k hk he => by rw [si_ne (by decide)]; exact hs k hk he) (fun x hx => by rw [si_ne (by decide)]; exact hP.1 x hx) (fun row' hr' => ?_) (by rw [si_ne (by decide)]; exact hP.2.2)
    by_cases z : row' = row
    · subst z; rw [si_at, va_up_self]; rfl
    · rw [si_nj z, va_up_ne _ _ z]; exact hP.2.1 row' hr'
  intro m
  induction m with
  | zero =>
    intro kk τ hkk hF hst h22 h21 h18
    have ek : kk = wd n row := by omega
    subst ek
    have e20 : τ.1 20 row = nI (ct n V row) := (sF_rwI hF hW row hr).2
    refine bk_Pk_seat_9 _ _ _ ?_
    rw [nI_clamp (by omega), e20]
    exact ⟨vp_in_nI (by omega) (by decide), fun _ => k τ hF ⟨h22, h21, h18⟩, fun h => absurd (nI_le (Nat.le_refl _) (by have : cz n V row (wd n row) ≤ 100 := hct; omega)) h⟩
  | succ m ih =>
    intro kk τ hkk hF hst h22 h21 h18
    by_cases z : en n V row kk = 0
    · have e : pf n V row b (po P) (pl P) (kk + 1) = pf n V row b (po P) (pl P) kk := if_pos z
      have := ih (kk + 1) τ (by omega) hF hst (by rw [e]; exact h22) h21 (by rw [e]; exact h18)
      rw [cz_z z] at this
      exact this
    · have e : pf n V row b (po P) (pl P) (kk + 1) = (va_up (pf n V row b (po P) (pl P) kk).1 (b + kk) (some (row, en n V row kk)), max (pf n V row b (po P) (pl P) kk).2 (b + kk + 1)) := if_neg z
      have hczl : cz n V row (kk + 1) ≤ ct n V row := cz_mono (by omega)
      rw [cz_s z] at hczl
      have hcz := cz_le (n := n) (V := V) (row := row) kk
      have hel := en_lt hB row kk
      have hpl := (pf_len (n := n) (V := V) (row := row) (b := b) (own := po P) (len := pl P) kk).2.1
      have e20 : τ.1 20 row = nI (ct n V row) := (sF_rwI hF hW row hr).2
      refine bk_Pk_seat_9 _ _ _ ?_
      rw [nI_clamp (by omega), e20, nI_clamp (by omega), hst kk (by omega) z]
      simp only [nI_add]
      rw [nI_clamp (by omega)]
      refine ⟨vp_in_nI (by omega) (by decide), fun h => absurd ((nI_leI (by omega) (by omega)).mp h) (by omega), fun _ => ⟨vp_in_nI (by omega) (by decide), vp_in_nI (by omega) (by decide), sp_entryOf hB (sF_vC hF hV) hr (by omega) (sF_rwI hF hW row hr).1 ?_⟩⟩
      unfold lo
      rw [if_neg z, nI_put hr (by omega), h18, nI_max (by omega) (by omega)]
      refine ⟨vp_in_nI (by omega) (by decide), ?_⟩
      have hgo := ih (kk + 1) (tp_si (tp_si τ 22 (b + kk) (nI (4096 * row + en n V row kk))) 18 8 (nI (max (pf n V row b (po P) (pl P) kk).2 (b + kk + 1)))) (by omega) (sF_tr hF ⟨ke_si (ke_si (ke_rf _ _) (by decide)) (by decide), by rw [si_nj (by decide), si_ne (by decide)], by rw [si_nj (by decide), si_ne (by decide)]⟩) (fun k hk he => by rw [si_ne (by decide), si_ne (by decide)]; exact hst k hk he) (fun x hx => ?_) (fun row' hr' => by rw [si_ne (by decide), si_ne (by decide)]; exact h21 row' hr') (by rw [e, si_at])
      · rw [cz_s z] at hgo
        exact hgo
      · rw [e, si_ne (by decide)]
        show _ = plv (va_up (pf n V row b (po P) (pl P) kk).1 (b + kk) (some (row, en n V row kk)) x)
        by_cases y : x = b + kk
        · subst y
          rw [si_at, va_up_self]; rfl
        · rw [si_nj y, va_up_ne _ _ y]; exact h22 x hx
theorem sp_seatRows {n : Nat} {V : Nat → Nat → Nat} (hB : vB n V) {c : Nat} (hc : c ≤ 100) {P : Pt} (hJ : pJ n V c 0 P) {σ : tp_S} (hV : vC n V σ) (hW : rwI n V σ) (hP : pkC P σ) {K : tp_S → Prop} (k : ∀ τ, sF σ τ → pkC (srw n V c P 108) τ → K τ) : tp_W shC m_Pk_seatRowsWith 0 [some (.ref 18), some (.int (nI c)), none] [] σ (tp_Qv K) := by
  have hn := hB.1
  refine bk_Pk_seatRowsWith_0 _ ?_
  suffices h : ∀ (m r : Nat) (τ : tp_S), r + m = 108 → sF σ τ → pkC (srw n V c P r) τ → tp_W shC m_Pk_seatRowsWith 2 [some (.ref 18), some (.int (nI c)), some (.int (nI r))] [] τ (tp_Qv K) from h 108 0 σ rfl (sF_rf _) hP
  intro m
  induction m with
  | zero =>
    intro r τ hr hF hp
    have er : r = 108 := by omega
    subst er
    exact bk_Pk_seatRowsWith_2 _ _ ⟨fun _ => k τ hF hp, fun h => absurd (nI_le (by omega) (by omega)) h⟩
  | succ m ih =>
    intro r τ hr hF hp
    have hJr := srw_pJ hn hJ (r := r) (by omega)
    have hct := ct_le (V := V) (row := r) hn
    have hWt := sF_rwI hF hW
    have hVt := sF_vC hF hV
    refine bk_Pk_seatRowsWith_2 _ _ ⟨fun h => absurd ((nI_leI (by omega) (by omega)).mp h) (by omega), fun _ => ?_⟩
    rw [nI_clamp (by omega), (hWt r (by omega)).2, nI_eq (by omega) (by omega), nI_add]
    refine ⟨vp_in_nI (by omega) (by decide), fun hne => ?_, fun he => ?_⟩
    · have e : srw n V c P (r + 1) = srw n V c P r := if_neg hne
      exact ih (r + 1) τ (by omega) hF (by rw [e]; exact hp)
    · have e : srw n V c P (r + 1) = lay n V r (srw n V c P r) := if_pos he
      have hbn := (hJr.2 r (by omega)).1 (Or.inr ⟨he, Nat.le_refl _⟩)
      refine sp_findSpots hB hVt (by omega) (hWt r (by omega)).1 (fun υ hku hs => ?_)
      have hPu := pkC_23 hku hp
      have hFu := sF_23 hku
      rw [← he]
      refine sp_leastBase hB hJr.1 hPu (by omega) hbn hs (sp_seat hB hJr.1 (sF_vC hFu hVt) (sF_rwI hFu hWt) hPu (by omega) hbn hs (fun φ hFf hpf => ?_))
      rw [he]
      exact ih (r + 1) φ (by omega) (sF_tr hF (sF_tr hFu hFf)) (by rw [e]; exact hpf)
theorem sp_pack {n : Nat} {V : Nat → Nat → Nat} (hB : vB n V) {σ : tp_S} (h9 : (∀ q t, q < n → t < 14 → σ.1 9 (22 * q + t) = nI (V q t)) ∧ ∀ q kd, q < n → kd < 8 → σ.1 9 (22 * q + (14 + kd)) = if V (100 + kd) q = 0 then nI 0 else nI (1000 + V (100 + kd) q)) {K : tp_S → Prop} (k : ∀ τ, ke [18, 19, 20, 21, 22, 23] σ τ → vC n V τ → rwI n V τ → pkC (PF n V) τ → τ.1 18 7 = nI (sm (ct n V) 108) → K τ) : tp_W shC m_Pk_pack 0 [some (.ref 18), some (.int (nI n)), none, none] [] σ (tp_Qv K) := by
  have hn := hB.1
  -- the counts go down
  have ph3 : ∀ (c : Nat) (P : Pt) (τ : tp_S), c ≤ 100 → ke [18, 19, 20, 21, 22, 23] σ τ → vC n V τ → rwI n V τ → pJ n V c 0 P → pkC P τ → sdn n V c P = PF n V → τ.1 18 7 = nI (sm (ct n V) 108) → tp_W shC m_Pk_pack 97 [some (.ref 18), none, none, some (.int (nI c))] [] τ (tp_Qv K) := by
    intro c
    induction c with
    | zero =>
      intro P τ hc hk hV hW hJ hP hd h7
      have hd' : P = PF n V := hd
      exact bk_Pk_pack_97 _ ⟨fun _ => k τ hk hV hW (by rw [← hd']; exact hP) h7, fun h => absurd (by decide) h⟩
    | succ c ih =>
      intro P τ hc hk hV hW hJ hP hd h7
      refine bk_Pk_pack_97 _ ⟨fun h => ?_, fun _ => sp_seatRows hB hc hJ hV hW hP (fun υ hF hPu => ?_)⟩
      · have := (nI_leI (a := c + 1) (b := 0) (by omega) (by decide)).mp h
        omega
      · rw [nI_dec]
        exact ih _ υ (by omega) (ke_tr hk (ke_sub hF.1 (by decide))) (sF_vC hF hV) (sF_rwI hF hW) (pJ_dn (srw_pJ hn hJ (Nat.le_refl _))) hPu hd (hF.2.2.trans h7)
  refine bk_Pk_pack_0 _ (sp_fillI22 (fun τ1 hk1 hz22 => sp_fillI21 (fun τ2 hk2 hz21 => ?_)))
  have k01 : ke [18, 19, 20, 21, 22, 23] σ τ1 := ke_tr (ke_si (ke_si (ke_si (ke_rf _ _) (by decide)) (by decide)) (by decide)) (ke_sub hk1 (by decide))
  have k02 : ke [18, 19, 20, 21, 22, 23] σ τ2 := ke_tr k01 (ke_sub hk2 (by decide))
  have f2 : ∀ j, τ2.1 18 j = (tp_si (tp_si (tp_si σ 18 6 (nI n)) 18 7 (nI 0)) 18 8 (nI 0)).1 18 j := fun j => by rw [hk2.1 18 (by decide), hk1.1 18 (by decide)]
  have hP0 : pkC P0 τ2 := ⟨fun x hx => by rw [hk2.1 22 (by decide)]; exact hz22 x hx, fun row hr => hz21 row hr, by rw [f2, si_at]; rfl⟩
  have hV2 : vC n V τ2 := ⟨by rw [f2, si_nj (by decide), si_nj (by decide), si_at], by rw [k02.1 9 (by decide)]; exact h9.1, by rw [k02.1 9 (by decide)]; exact h9.2⟩
  have h72 : τ2.1 18 7 = nI 0 := by rw [f2, si_nj (by decide), si_at]
  suffices h : ∀ (m r M : Nat) (τ : tp_S), r + m = 108 → M ≤ 100 → (∀ row, row < r → ct n V row ≤ M) → ke [18, 19, 20, 21, 22, 23] σ τ → vC n V τ → pkC P0 τ → (∀ row, row < r → τ.1 19 row = lv (dfl n V row) ∧ τ.1 20 row = nI (ct n V row)) → τ.1 18 7 = nI (sm (ct n V) r) → tp_W shC m_Pk_pack 35 [some (.ref 18), none, some (.int (nI M)), some (.int (nI r))] [] τ (tp_Qv K) from h 108 0 0 τ2 rfl (by omega) (fun row h => absurd h (Nat.not_lt_zero row)) k02 hV2 hP0 (fun row h => absurd h (Nat.not_lt_zero row)) h72
  intro m
  induction m with
  | zero =>
    intro r M τ hr hM hmx hk hV hP hrow h7
    have er : r = 108 := by omega
    subst er
    refine bk_Pk_pack_35 _ _ ⟨fun _ => ph3 M P0 τ hM hk hV hrow (P0_pJ hn V hmx) hP ?_ h7, fun h => absurd (nI_le (by omega) (by omega)) h⟩
    have := sdn_top (P := P0) hmx (100 - M)
    rw [show M + (100 - M) = 100 by omega] at this
    exact this.symm
  | succ m ih =>
    intro r M τ hr hM hmx hk hV hP hrow h7
    have hct := ct_le (V := V) (row := r) hn
    refine bk_Pk_pack_35 _ _ ⟨fun h => absurd ((nI_leI (by omega) (by omega)).mp h) (by omega), fun _ => sp_mostCommon hB hV (by omega) (fun υ hku => ?_)⟩
    rw [nI_clamp (by omega)]
    refine ⟨vp_in_nI (by omega) (by decide), ?_⟩
    have hk3 : ke [19, 23] υ (tp_si υ 19 r (lv (dfl n V r))) := ke_si (ke_rf _ _) (by decide)
    have hVu : vC n V (tp_si υ 19 r (lv (dfl n V r))) := vC_ke hk3 (by decide) (by decide) (vC_ke hku (by decide) (by decide) hV)
    refine sp_findSpots hB hVu (by omega) si_at (fun φ hkf hsf => ?_)
    have hkt : ke [19, 23] τ φ := ke_tr (ke_sub hku (by decide)) (ke_tr hk3 (ke_sub hkf (by decide)))
    simp only [si_at]
    rw [nI_add, nI_max (by omega) (by omega), hkt.1 18 (by decide), h7, nI_add]
    have hv : vp_in (nI r) 108 := vp_in_nI (by omega) (by decide)
    refine ⟨hv, hv, hv, ih (r + 1) (max M (ct n V r)) _ (by omega) (by omega) (fun row h => ?_) (ke_si (ke_si (ke_tr hk (ke_sub hkt (by decide))) (by decide)) (by decide)) ?_ ?_ (fun row h => ?_) si_at⟩
    · by_cases y : row = r
      · subst y; omega
      · have := hmx row (by omega)
        omega
    · exact vC_eq (by rw [si_nc (by decide), si_nc (by decide), hkt.1 9 (by decide)]) (by rw [si_nj (by decide), si_ne (by decide), hkt.1 18 (by decide)]) hV
    · refine ⟨fun x hx => ?_, fun row' hr' => ?_, ?_⟩
      · rw [si_ne (by decide), si_ne (by decide), hkt.1 22 (by decide)]; exact hP.1 x hx
      · rw [si_ne (by decide), si_ne (by decide), hkt.1 21 (by decide)]; exact hP.2.1 row' hr'
      · rw [si_nj (by decide), si_ne (by decide), hkt.1 18 (by decide)]; exact hP.2.2
    · rw [si_ne (b := 19) (a := 18) (by decide), si_ne (b := 19) (a := 20) (by decide), si_ne (b := 20) (a := 18) (by decide)]
      by_cases y : row = r
      · subst y
        exact ⟨by rw [hkf.1 19 (by decide), si_at], si_at⟩
      · rw [si_nj y, hkf.1 19 (by decide), hkt.1 20 (by decide), si_nj y, hku.1 19 (by decide)]
        exact hrow row (by omega)
