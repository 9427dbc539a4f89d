abbrev lw_A (s : State) : Nat → Prop := fun q : Nat => s.heap.size ≤ q
set_option maxHeartbeats 8000000 in
set_option maxRecDepth 100000 in
theorem lw_loop {Rel : tp_S → tp_S → Prop} (hyp : lw_Hyp Rel) {p : Program} {l : Launch} {e : Env} {s : State} {m : MethodId} {below : List Frame} {meth : Method} {c : Code} {b L : Nat} {xs : Nat → Int32} (hL : L ≤ 2048) (C0 : lw_At p s m meth c b L xs) {D : va_G} {ad : Nat → Nat} {cA : Nat → ClassId} (hKg : tp_Kg (D, (fun k => ad k), cA) s) (hinj : ∀ i j, i < 48 → j < 48 → ad i = ad j → i = j) (hAin : ∀ i, i < 48 → s.heap.size ≤ ad i) :
    ∀ (n j : Nat) (x3 : Int32), 4 * j ≤ L → L + 1 ≤ 4 * j + 4 * n → x3 = nI (4 * j) → ∀ (σ μ : tp_S), Rel σ μ → ∀ (H : Heap) (locs : List Loc), va_P D tp_cl (tp_ws (fun k => ad k) cA shC σ) H → va_P D tp_cl (tp_ws (fun k => ad (28 + k)) cA shM μ) H → va_S (lw_A s) s.heap H locs → ∀ (ls : Array Slot), lv_has ls 4 [(0, .ref b), (1, .ref (ad 0)), (2, .ref (ad 28)), (3, .int x3)] → W p l e room_1 s m #[Value.ref b] below meth c H locs 48 95340 (lw_Z below #[Value.ref b] s) (F0 m 18 ls []) := by
  obtain ⟨hx, hb, hr, hml, hown, hts0, hX, hbl, hlocks, hgv⟩ := C0
  have hts : ∀ w ∈ tp_Ts, w.before #[Value.ref b] s = true := fun w h => hts0 w (tp_Ts_sub w h)
  have hA : ∀ q : Nat, s.heap.size ≤ q → lw_A s q := fun _ h => h
  have hbA : ¬ lw_A s b := Nat.not_le.mpr hbl
  have hiC : ∀ i j, i < shC.length → j < shC.length → (fun k => ad k) i = (fun k => ad k) j → i = j := fun i j hi hj h => hinj i j (Nat.lt_of_lt_of_le hi (Nat.le_of_ble_eq_true rfl)) (Nat.lt_of_lt_of_le hj (Nat.le_of_ble_eq_true rfl)) h
  have hiM : ∀ i j, i < shM.length → j < shM.length → (fun k => ad (28 + k)) i = (fun k => ad (28 + k)) j → i = j := fun i j hi hj h => by
    have hi' : i < 20 := hi
    have hj' : j < 20 := hj
    have := hinj (28 + i) (28 + j) (by omega) (by omega) h
    omega
  have hAC : ∀ i, i < shC.length → lw_A s ((fun k => ad k) i) := fun i hi => hAin i (Nat.lt_of_lt_of_le hi (Nat.le_of_ble_eq_true rfl))
  have hAM : ∀ i, i < shM.length → lw_A s ((fun k => ad (28 + k)) i) := fun i hi => by
    have hi' : i < 20 := hi
    exact hAin (28 + i) (by omega)
  have hCM : ∀ i j, i < shC.length → j < shM.length → ad (id i) ≠ ad ((fun k => 28 + k) j) := fun i j hi hj h => by
    have hi' : i < 28 := hi
    have hj' : j < 20 := hj
    have h' : ad i = ad (28 + j) := h
    have := hinj i (28 + j) (by omega) (by omega) h'
    omega
  have hMC : ∀ i j, i < shM.length → j < shC.length → ad ((fun k => 28 + k) i) ≠ ad (id j) := fun i j hi hj h => hCM j i hj hi h.symm
  have hKm : tp_Kg (D, (fun k => ad (28 + k)), cA) s := hKg
  intro n
  induction n with
  | zero =>
    intro j x3 h1 h2
    exact absurd h2 (by omega)
  | succ n ih =>
    intro j x3 hj hn ex3 σ μ hRel H locs hPC hPM hS ls hl
    refine lv_iload_n hx hb dL_18 rfl (lv_at hl 3 rfl) ?_
    refine lv_aload_n hx hb dL_19 rfl (lv_at hl 0 rfl) ?_
    refine va_slen hx hb hX hbl hbA hS dL_20 ?_
    refine lv_iconst (v := 4) hx hb dL_21 (by decide) ?_
    refine lv_isub hx hb dL_22 ?_
    refine lv_icmp_gt (tgt := 533) hx hb dL_23 (by decide) (fun c1 => ?_) (fun c1 => ?_)
    · refine lv_iconst (v := 1) hx hb dL_533 (by decide) ?_
      refine va_forget (fun q hq => hS.2.2 q hq) ?_
      exact lw_ret hx hb hr hlocks dL_534
    · have hlt : 4 * j + 4 ≤ L := by
        rcases Nat.lt_or_ge L (4 * j + 4) with q | q
        · refine absurd ?_ c1
          rw [Int32.lt_iff_toInt_lt, ex3]
          have e1 : (Int32.ofNat L - 4).toInt = (L : Int) - 4 := pk_sub_toInt (a := L) (b := 4) (by omega) (by omega)
          rw [e1, nI_toInt (by omega)]
          omega
        · exact q
      have h0 : vp_in x3 L := by rw [ex3]; exact vp_in_nI (by omega) (by omega)
      have h1 : vp_in (x3 + 1) L := by rw [ex3, nI_1]; exact vp_in_nI (by omega) (by omega)
      have h2 : vp_in (x3 + 2) L := by rw [ex3, show (2 : Int32) = nI 2 from rfl, nI_add]; exact vp_in_nI (by omega) (by omega)
      have h3 : vp_in (x3 + 3) L := by rw [ex3, show (3 : Int32) = nI 3 from rfl, nI_add]; exact vp_in_nI (by omega) (by omega)
      have next : ∀ (σ μ : tp_S), Rel σ μ → ∀ (H : Heap) (locs : List Loc), va_P D tp_cl (tp_ws (fun k => ad k) cA shC σ) H → va_P D tp_cl (tp_ws (fun k => ad (28 + k)) cA shM μ) H → va_S (lw_A s) s.heap H locs → W p l e room_1 s m #[Value.ref b] below meth c H locs 48 95340 (lw_Z below #[Value.ref b] s) (F0 m 527 ls []) := by
        intro σ μ hRel H locs hPC hPM hS
        refine lv_iinc (v := x3 + 4) (lv' := [(3, .int (x3 + 4)), (0, .ref b), (1, .ref (ad 0)), (2, .ref (ad 28))]) hx hb dL_527 hl (k := 3) rfl rfl (by decide) rfl (fun ls hl => ?_)
        refine lv_goto (tgt := 18) hx hb dL_530 (by decide) ?_
        exact ih (j + 1) (x3 + 4) (by omega) (by omega) (by rw [ex3, show (4 : Int32) = nI 4 from rfl, nI_add, Nat.mul_add]) σ μ hRel H locs hPC hPM hS ls (lv_sub hl [1, 2, 3, 0] rfl)
      refine lv_aload_n hx hb dL_26 rfl (lv_at hl 0 rfl) ?_
      refine lv_iload_n hx hb dL_27 rfl (lv_at hl 3 rfl) ?_
      refine va_sld hx hb hX hbl hbA hS h0 dL_28 ?_
      refine lv_bipush (v := 31) hx hb dL_29 (by decide) ?_
      refine lv_iand hx hb dL_31 ?_
      obtain ⟨v, hv, ev⟩ := pk_andE (xs x3.toNatClampNeg) (m := 31) 5 (by decide)
      rw [ev]
      clear ev c1
      rcases (by omega : v = 0 ∨ v = 1 ∨ v = 2 ∨ v = 3 ∨ v = 4 ∨ v = 5 ∨ v = 6 ∨ v = 7 ∨ v = 8 ∨ v = 9 ∨ v = 10 ∨ v = 11 ∨ v = 12 ∨ v = 13 ∨ v = 14 ∨ v = 15 ∨ v = 16 ∨ 17 ≤ v) with rfl | rfl | rfl | rfl | rfl | rfl | rfl | rfl | rfl | rfl | rfl | rfl | rfl | rfl | rfl | rfl | rfl | hv2
      · refine lv_tableIn (off := (.ofNat 84)) (tgt := 116) hx hb dL_32 (by decide) (by decide) rfl (by decide) ?_
        refine lv_aload_n hx hb dL_116 rfl (lv_at hl 1 rfl) ?_
        refine lv_aload_n hx hb dL_117 rfl (lv_at hl 0 rfl) ?_
        refine lv_iload_n hx hb dL_118 rfl (lv_at hl 3 rfl) ?_
        refine lv_iconst (v := 1) hx hb dL_119 (by decide) ?_
        refine lv_iadd hx hb dL_120 ?_
        refine va_sld hx hb hX hbl hbA hS h1 dL_121 ?_
        refine lw_inv (G := (D, (fun k => ad k), cA)) (sh := shC) (M := m_Tp_begin) (rest := []) (o := 7) [xs (x3 + 1).toNatClampNeg] ok_Tp_begin rfl rfl rfl (fun w hw => tp_in4_e (List.all_eq_true.mp lq_Tp_begin w hw)) ln_Tp_begin ⟨Nat.le_of_ble_eq_true rfl, Nat.le_of_ble_eq_true rfl⟩ (Nat.le_of_ble_eq_true rfl) (Nat.le_of_ble_eq_true rfl) dL_122 (hyp.1 σ μ [xs (x3 + 1).toNatClampNeg] rfl hRel) hx hb hml hown hts hKg hPC hS hA hiC hAC hl.1 (Nat.le_refl _) (Nat.le_refl _) (fun r σ1 H1 locs1 hQ hPC1 hk1 hS1 => ?_)
        have hPM1 := lw_stay (fA := id) (fB := fun k => 28 + k) hPM hCM hk1
        clear hPC hPM hS hk1
        have hS := hS1
        refine lv_aload_n hx hb dL_125 rfl (lv_at hl 2 rfl) ?_
        refine lv_aload_n hx hb dL_126 rfl (lv_at hl 0 rfl) ?_
        refine lv_iload_n hx hb dL_127 rfl (lv_at hl 3 rfl) ?_
        refine lv_iconst (v := 1) hx hb dL_128 (by decide) ?_
        refine lv_iadd hx hb dL_129 ?_
        refine va_sld hx hb hX hbl hbA hS h1 dL_130 ?_
        refine lw_inv (G := (D, (fun k => ad (28 + k)), cA)) (sh := shM) (M := m_Mo_begin) (rest := [.int r]) (o := 8) [xs (x3 + 1).toNatClampNeg] ok_Mo_begin rfl rfl rfl (fun w hw => tp_in4_e (List.all_eq_true.mp lq_Mo_begin w hw)) ln_Mo_begin ⟨Nat.le_of_ble_eq_true rfl, Nat.le_of_ble_eq_true rfl⟩ (Nat.le_of_ble_eq_true rfl) (Nat.le_of_ble_eq_true rfl) dL_131 hQ hx hb hml hown hts hKm hPM1 hS hA hiM hAM hl.1 (Nat.le_refl _) (Nat.le_refl _) (fun r2 μ1 H2 locs2 hQ2 hPM2 hk2 hS2 => ?_)
        have hPC2 := lw_stay (fA := fun k => 28 + k) (fB := id) hPC1 hMC hk2
        refine lv_icmp_eq (tgt := 527) hx hb dL_134 (by decide) (fun c2 => ?_) (fun c2 => ?_)
        · exact next σ1 μ1 hQ2.2 H2 locs2 hPC2 hPM2 hS2
        · exact absurd hQ2.1 c2
      · refine lv_tableIn (off := (.ofNat 107)) (tgt := 139) hx hb dL_32 (by decide) (by decide) rfl (by decide) ?_
        refine lv_aload_n hx hb dL_139 rfl (lv_at hl 1 rfl) ?_
        refine lv_aload_n hx hb dL_140 rfl (lv_at hl 0 rfl) ?_
        refine lv_iload_n hx hb dL_141 rfl (lv_at hl 3 rfl) ?_
        refine lv_iconst (v := 1) hx hb dL_142 (by decide) ?_
        refine lv_iadd hx hb dL_143 ?_
        refine va_sld hx hb hX hbl hbA hS h1 dL_144 ?_
        refine lw_inv (G := (D, (fun k => ad k), cA)) (sh := shC) (M := m_Tp_put) (rest := []) (o := 7) [xs (x3 + 1).toNatClampNeg] ok_Tp_put rfl rfl rfl (fun w hw => tp_in4_e (List.all_eq_true.mp lq_Tp_put w hw)) ln_Tp_put ⟨Nat.le_of_ble_eq_true rfl, Nat.le_of_ble_eq_true rfl⟩ (Nat.le_of_ble_eq_true rfl) (Nat.le_of_ble_eq_true rfl) dL_145 (hyp.2.1 σ μ [xs (x3 + 1).toNatClampNeg] rfl hRel) hx hb hml hown hts hKg hPC hS hA hiC hAC hl.1 (Nat.le_refl _) (Nat.le_refl _) (fun r σ1 H1 locs1 hQ hPC1 hk1 hS1 => ?_)
        have hPM1 := lw_stay (fA := id) (fB := fun k => 28 + k) hPM hCM hk1
        clear hPC hPM hS hk1
        have hS := hS1
        refine lv_aload_n hx hb dL_148 rfl (lv_at hl 2 rfl) ?_
        refine lv_aload_n hx hb dL_149 rfl (lv_at hl 0 rfl) ?_
        refine lv_iload_n hx hb dL_150 rfl (lv_at hl 3 rfl) ?_
        refine lv_iconst (v := 1) hx hb dL_151 (by decide) ?_
        refine lv_iadd hx hb dL_152 ?_
        refine va_sld hx hb hX hbl hbA hS h1 dL_153 ?_
        refine lw_inv (G := (D, (fun k => ad (28 + k)), cA)) (sh := shM) (M := m_Mo_put) (rest := [.int r]) (o := 8) [xs (x3 + 1).toNatClampNeg] ok_Mo_put rfl rfl rfl (fun w hw => tp_in4_e (List.all_eq_true.mp lq_Mo_put w hw)) ln_Mo_put ⟨Nat.le_of_ble_eq_true rfl, Nat.le_of_ble_eq_true rfl⟩ (Nat.le_of_ble_eq_true rfl) (Nat.le_of_ble_eq_true rfl) dL_154 hQ hx hb hml hown hts hKm hPM1 hS hA hiM hAM hl.1 (Nat.le_refl _) (Nat.le_refl _) (fun r2 μ1 H2 locs2 hQ2 hPM2 hk2 hS2 => ?_)
        have hPC2 := lw_stay (fA := fun k => 28 + k) (fB := id) hPC1 hMC hk2
        refine lv_icmp_eq (tgt := 527) hx hb dL_157 (by decide) (fun c2 => ?_) (fun c2 => ?_)
        · exact next σ1 μ1 hQ2.2 H2 locs2 hPC2 hPM2 hS2
        · exact absurd hQ2.1 c2
      · refine lv_tableIn (off := (.ofNat 130)) (tgt := 162) hx hb dL_32 (by decide) (by decide) rfl (by decide) ?_
        refine lv_aload_n hx hb dL_162 rfl (lv_at hl 1 rfl) ?_
        refine lw_inv (G := (D, (fun k => ad k), cA)) (sh := shC) (M := m_Tp_close) (rest := []) (o := 7) [] ok_Tp_close rfl rfl rfl (fun w hw => tp_in4_e (List.all_eq_true.mp lq_Tp_close w hw)) ln_Tp_close ⟨Nat.le_of_ble_eq_true rfl, Nat.le_of_ble_eq_true rfl⟩ (Nat.le_of_ble_eq_true rfl) (Nat.le_of_ble_eq_true rfl) dL_163 (hyp.2.2.1 σ μ [] rfl hRel) hx hb hml hown hts hKg hPC hS hA hiC hAC hl.1 (Nat.le_refl _) (Nat.le_refl _) (fun r σ1 H1 locs1 hQ hPC1 hk1 hS1 => ?_)
        have hPM1 := lw_stay (fA := id) (fB := fun k => 28 + k) hPM hCM hk1
        clear hPC hPM hS hk1
        have hS := hS1
        refine lv_aload_n hx hb dL_166 rfl (lv_at hl 2 rfl) ?_
        refine lw_inv (G := (D, (fun k => ad (28 + k)), cA)) (sh := shM) (M := m_Mo_close) (rest := [.int r]) (o := 8) [] ok_Mo_close rfl rfl rfl (fun w hw => tp_in4_e (List.all_eq_true.mp lq_Mo_close w hw)) ln_Mo_close ⟨Nat.le_of_ble_eq_true rfl, Nat.le_of_ble_eq_true rfl⟩ (Nat.le_of_ble_eq_true rfl) (Nat.le_of_ble_eq_true rfl) dL_167 hQ hx hb hml hown hts hKm hPM1 hS hA hiM hAM hl.1 (Nat.le_refl _) (Nat.le_refl _) (fun r2 μ1 H2 locs2 hQ2 hPM2 hk2 hS2 => ?_)
        have hPC2 := lw_stay (fA := fun k => 28 + k) (fB := id) hPC1 hMC hk2
        refine lv_icmp_eq (tgt := 527) hx hb dL_170 (by decide) (fun c2 => ?_) (fun c2 => ?_)
        · exact next σ1 μ1 hQ2.2 H2 locs2 hPC2 hPM2 hS2
        · exact absurd hQ2.1 c2
      · refine lv_tableIn (off := (.ofNat 143)) (tgt := 175) hx hb dL_32 (by decide) (by decide) rfl (by decide) ?_
        refine lv_aload_n hx hb dL_175 rfl (lv_at hl 1 rfl) ?_
        refine lw_inv (G := (D, (fun k => ad k), cA)) (sh := shC) (M := m_Tp_clear) (rest := []) (o := 7) [] ok_Tp_clear rfl rfl rfl (fun w hw => tp_in4_e (List.all_eq_true.mp lq_Tp_clear w hw)) ln_Tp_clear ⟨Nat.le_of_ble_eq_true rfl, Nat.le_of_ble_eq_true rfl⟩ (Nat.le_of_ble_eq_true rfl) (Nat.le_of_ble_eq_true rfl) dL_176 (hyp.2.2.2.1 σ μ [] rfl hRel) hx hb hml hown hts hKg hPC hS hA hiC hAC hl.1 (Nat.le_refl _) (Nat.le_refl _) (fun r σ1 H1 locs1 hQ hPC1 hk1 hS1 => ?_)
        have hPM1 := lw_stay (fA := id) (fB := fun k => 28 + k) hPM hCM hk1
        clear hPC hPM hS hk1
        have hS := hS1
        refine lv_aload_n hx hb dL_179 rfl (lv_at hl 2 rfl) ?_
        refine lw_inv (G := (D, (fun k => ad (28 + k)), cA)) (sh := shM) (M := m_Mo_clear) (rest := [.int r]) (o := 8) [] ok_Mo_clear rfl rfl rfl (fun w hw => tp_in4_e (List.all_eq_true.mp lq_Mo_clear w hw)) ln_Mo_clear ⟨Nat.le_of_ble_eq_true rfl, Nat.le_of_ble_eq_true rfl⟩ (Nat.le_of_ble_eq_true rfl) (Nat.le_of_ble_eq_true rfl) dL_180 hQ hx hb hml hown hts hKm hPM1 hS hA hiM hAM hl.1 (Nat.le_refl _) (Nat.le_refl _) (fun r2 μ1 H2 locs2 hQ2 hPM2 hk2 hS2 => ?_)
        have hPC2 := lw_stay (fA := fun k => 28 + k) (fB := id) hPC1 hMC hk2
        refine lv_icmp_eq (tgt := 527) hx hb dL_183 (by decide) (fun c2 => ?_) (fun c2 => ?_)
        · exact next σ1 μ1 hQ2.2 H2 locs2 hPC2 hPM2 hS2
        · exact absurd hQ2.1 c2
      · refine lv_tableIn (off := (.ofNat 156)) (tgt := 188) hx hb dL_32 (by decide) (by decide) rfl (by decide) ?_
        refine lv_aload_n hx hb dL_188 rfl (lv_at hl 1 rfl) ?_
        refine lv_aload_n hx hb dL_189 rfl (lv_at hl 0 rfl) ?_
        refine lv_iload_n hx hb dL_190 rfl (lv_at hl 3 rfl) ?_
        refine lv_iconst (v := 1) hx hb dL_191 (by decide) ?_
        refine lv_iadd hx hb dL_192 ?_
        refine va_sld hx hb hX hbl hbA hS h1 dL_193 ?_
        refine lw_inv (G := (D, (fun k => ad k), cA)) (sh := shC) (M := m_Tp_token) (rest := []) (o := 7) [xs (x3 + 1).toNatClampNeg] ok_Tp_token rfl rfl rfl (fun w hw => tp_in4_e (List.all_eq_true.mp lq_Tp_token w hw)) ln_Tp_token ⟨Nat.le_of_ble_eq_true rfl, Nat.le_of_ble_eq_true rfl⟩ (Nat.le_of_ble_eq_true rfl) (Nat.le_of_ble_eq_true rfl) dL_194 (hyp.2.2.2.2.1 σ μ [xs (x3 + 1).toNatClampNeg] rfl hRel) hx hb hml hown hts hKg hPC hS hA hiC hAC hl.1 (Nat.le_refl _) (Nat.le_refl _) (fun r σ1 H1 locs1 hQ hPC1 hk1 hS1 => ?_)
        have hPM1 := lw_stay (fA := id) (fB := fun k => 28 + k) hPM hCM hk1
        clear hPC hPM hS hk1
        have hS := hS1
        refine lv_aload_n hx hb dL_197 rfl (lv_at hl 2 rfl) ?_
        refine lv_aload_n hx hb dL_198 rfl (lv_at hl 0 rfl) ?_
        refine lv_iload_n hx hb dL_199 rfl (lv_at hl 3 rfl) ?_
        refine lv_iconst (v := 1) hx hb dL_200 (by decide) ?_
        refine lv_iadd hx hb dL_201 ?_
        refine va_sld hx hb hX hbl hbA hS h1 dL_202 ?_
        refine lw_inv (G := (D, (fun k => ad (28 + k)), cA)) (sh := shM) (M := m_Mo_token) (rest := [.int r]) (o := 8) [xs (x3 + 1).toNatClampNeg] ok_Mo_token rfl rfl rfl (fun w hw => tp_in4_e (List.all_eq_true.mp lq_Mo_token w hw)) ln_Mo_token ⟨Nat.le_of_ble_eq_true rfl, Nat.le_of_ble_eq_true rfl⟩ (Nat.le_of_ble_eq_true rfl) (Nat.le_of_ble_eq_true rfl) dL_203 hQ hx hb hml hown hts hKm hPM1 hS hA hiM hAM hl.1 (Nat.le_refl _) (Nat.le_refl _) (fun r2 μ1 H2 locs2 hQ2 hPM2 hk2 hS2 => ?_)
        have hPC2 := lw_stay (fA := fun k => 28 + k) (fB := id) hPC1 hMC hk2
        refine lv_icmp_eq (tgt := 527) hx hb dL_206 (by decide) (fun c2 => ?_) (fun c2 => ?_)
        · exact next σ1 μ1 hQ2.2 H2 locs2 hPC2 hPM2 hS2
        · exact absurd hQ2.1 c2
      · refine lv_tableIn (off := (.ofNat 179)) (tgt := 211) hx hb dL_32 (by decide) (by decide) rfl (by decide) ?_
        refine lv_aload_n hx hb dL_211 rfl (lv_at hl 1 rfl) ?_
        refine lw_inv (G := (D, (fun k => ad k), cA)) (sh := shC) (M := m_Tp_drop) (rest := []) (o := 7) [] ok_Tp_drop rfl rfl rfl (fun w hw => tp_in4_e (List.all_eq_true.mp lq_Tp_drop w hw)) ln_Tp_drop ⟨Nat.le_of_ble_eq_true rfl, Nat.le_of_ble_eq_true rfl⟩ (Nat.le_of_ble_eq_true rfl) (Nat.le_of_ble_eq_true rfl) dL_212 (hyp.2.2.2.2.2.1 σ μ [] rfl hRel) hx hb hml hown hts hKg hPC hS hA hiC hAC hl.1 (Nat.le_refl _) (Nat.le_refl _) (fun r σ1 H1 locs1 hQ hPC1 hk1 hS1 => ?_)
        have hPM1 := lw_stay (fA := id) (fB := fun k => 28 + k) hPM hCM hk1
        clear hPC hPM hS hk1
        have hS := hS1
        refine lv_aload_n hx hb dL_215 rfl (lv_at hl 2 rfl) ?_
        refine lw_inv (G := (D, (fun k => ad (28 + k)), cA)) (sh := shM) (M := m_Mo_drop) (rest := [.int r]) (o := 8) [] ok_Mo_drop rfl rfl rfl (fun w hw => tp_in4_e (List.all_eq_true.mp lq_Mo_drop w hw)) ln_Mo_drop ⟨Nat.le_of_ble_eq_true rfl, Nat.le_of_ble_eq_true rfl⟩ (Nat.le_of_ble_eq_true rfl) (Nat.le_of_ble_eq_true rfl) dL_216 hQ hx hb hml hown hts hKm hPM1 hS hA hiM hAM hl.1 (Nat.le_refl _) (Nat.le_refl _) (fun r2 μ1 H2 locs2 hQ2 hPM2 hk2 hS2 => ?_)
        have hPC2 := lw_stay (fA := fun k => 28 + k) (fB := id) hPC1 hMC hk2
        refine lv_icmp_eq (tgt := 527) hx hb dL_219 (by decide) (fun c2 => ?_) (fun c2 => ?_)
        · exact next σ1 μ1 hQ2.2 H2 locs2 hPC2 hPM2 hS2
        · exact absurd hQ2.1 c2
      · refine lv_tableIn (off := (.ofNat 192)) (tgt := 224) hx hb dL_32 (by decide) (by decide) rfl (by decide) ?_
        refine lv_aload_n hx hb dL_224 rfl (lv_at hl 1 rfl) ?_
        refine lv_aload_n hx hb dL_225 rfl (lv_at hl 0 rfl) ?_
        refine lv_iload_n hx hb dL_226 rfl (lv_at hl 3 rfl) ?_
        refine lv_iconst (v := 1) hx hb dL_227 (by decide) ?_
        refine lv_iadd hx hb dL_228 ?_
        refine va_sld hx hb hX hbl hbA hS h1 dL_229 ?_
        refine lw_inv (G := (D, (fun k => ad k), cA)) (sh := shC) (M := m_Tp_count) (rest := []) (o := 7) [xs (x3 + 1).toNatClampNeg] ok_Tp_count rfl rfl rfl (fun w hw => tp_in4_e (List.all_eq_true.mp lq_Tp_count w hw)) ln_Tp_count ⟨Nat.le_of_ble_eq_true rfl, Nat.le_of_ble_eq_true rfl⟩ (Nat.le_of_ble_eq_true rfl) (Nat.le_of_ble_eq_true rfl) dL_230 (hyp.2.2.2.2.2.2.1 σ μ [xs (x3 + 1).toNatClampNeg] rfl hRel) hx hb hml hown hts hKg hPC hS hA hiC hAC hl.1 (Nat.le_refl _) (Nat.le_refl _) (fun r σ1 H1 locs1 hQ hPC1 hk1 hS1 => ?_)
        have hPM1 := lw_stay (fA := id) (fB := fun k => 28 + k) hPM hCM hk1
        clear hPC hPM hS hk1
        have hS := hS1
        refine lv_aload_n hx hb dL_233 rfl (lv_at hl 2 rfl) ?_
        refine lv_aload_n hx hb dL_234 rfl (lv_at hl 0 rfl) ?_
        refine lv_iload_n hx hb dL_235 rfl (lv_at hl 3 rfl) ?_
        refine lv_iconst (v := 1) hx hb dL_236 (by decide) ?_
        refine lv_iadd hx hb dL_237 ?_
        refine va_sld hx hb hX hbl hbA hS h1 dL_238 ?_
        refine lw_inv (G := (D, (fun k => ad (28 + k)), cA)) (sh := shM) (M := m_Mo_count) (rest := [.int r]) (o := 8) [xs (x3 + 1).toNatClampNeg] ok_Mo_count rfl rfl rfl (fun w hw => tp_in4_e (List.all_eq_true.mp lq_Mo_count w hw)) ln_Mo_count ⟨Nat.le_of_ble_eq_true rfl, Nat.le_of_ble_eq_true rfl⟩ (Nat.le_of_ble_eq_true rfl) (Nat.le_of_ble_eq_true rfl) dL_239 hQ hx hb hml hown hts hKm hPM1 hS hA hiM hAM hl.1 (Nat.le_refl _) (Nat.le_refl _) (fun r2 μ1 H2 locs2 hQ2 hPM2 hk2 hS2 => ?_)
        have hPC2 := lw_stay (fA := fun k => 28 + k) (fB := id) hPC1 hMC hk2
        refine lv_icmp_eq (tgt := 527) hx hb dL_242 (by decide) (fun c2 => ?_) (fun c2 => ?_)
        · exact next σ1 μ1 hQ2.2 H2 locs2 hPC2 hPM2 hS2
        · exact absurd hQ2.1 c2
      · refine lv_tableIn (off := (.ofNat 215)) (tgt := 247) hx hb dL_32 (by decide) (by decide) rfl (by decide) ?_
        refine lv_aload_n hx hb dL_247 rfl (lv_at hl 1 rfl) ?_
        refine lv_aload_n hx hb dL_248 rfl (lv_at hl 0 rfl) ?_
        refine lv_iload_n hx hb dL_249 rfl (lv_at hl 3 rfl) ?_
        refine lv_iconst (v := 1) hx hb dL_250 (by decide) ?_
        refine lv_iadd hx hb dL_251 ?_
        refine va_sld hx hb hX hbl hbA hS h1 dL_252 ?_
        refine lw_inv (G := (D, (fun k => ad k), cA)) (sh := shC) (M := m_Tp_first) (rest := []) (o := 7) [xs (x3 + 1).toNatClampNeg] ok_Tp_first rfl rfl rfl (fun w hw => tp_in4_e (List.all_eq_true.mp lq_Tp_first w hw)) ln_Tp_first ⟨Nat.le_of_ble_eq_true rfl, Nat.le_of_ble_eq_true rfl⟩ (Nat.le_of_ble_eq_true rfl) (Nat.le_of_ble_eq_true rfl) dL_253 (hyp.2.2.2.2.2.2.2.1 σ μ [xs (x3 + 1).toNatClampNeg] rfl hRel) hx hb hml hown hts hKg hPC hS hA hiC hAC hl.1 (Nat.le_refl _) (Nat.le_refl _) (fun r σ1 H1 locs1 hQ hPC1 hk1 hS1 => ?_)
        have hPM1 := lw_stay (fA := id) (fB := fun k => 28 + k) hPM hCM hk1
        clear hPC hPM hS hk1
        have hS := hS1
        refine lv_aload_n hx hb dL_256 rfl (lv_at hl 2 rfl) ?_
        refine lv_aload_n hx hb dL_257 rfl (lv_at hl 0 rfl) ?_
        refine lv_iload_n hx hb dL_258 rfl (lv_at hl 3 rfl) ?_
        refine lv_iconst (v := 1) hx hb dL_259 (by decide) ?_
        refine lv_iadd hx hb dL_260 ?_
        refine va_sld hx hb hX hbl hbA hS h1 dL_261 ?_
        refine lw_inv (G := (D, (fun k => ad (28 + k)), cA)) (sh := shM) (M := m_Mo_first) (rest := [.int r]) (o := 8) [xs (x3 + 1).toNatClampNeg] ok_Mo_first rfl rfl rfl (fun w hw => tp_in4_e (List.all_eq_true.mp lq_Mo_first w hw)) ln_Mo_first ⟨Nat.le_of_ble_eq_true rfl, Nat.le_of_ble_eq_true rfl⟩ (Nat.le_of_ble_eq_true rfl) (Nat.le_of_ble_eq_true rfl) dL_262 hQ hx hb hml hown hts hKm hPM1 hS hA hiM hAM hl.1 (Nat.le_refl _) (Nat.le_refl _) (fun r2 μ1 H2 locs2 hQ2 hPM2 hk2 hS2 => ?_)
        have hPC2 := lw_stay (fA := fun k => 28 + k) (fB := id) hPC1 hMC hk2
        refine lv_icmp_eq (tgt := 527) hx hb dL_265 (by decide) (fun c2 => ?_) (fun c2 => ?_)
        · exact next σ1 μ1 hQ2.2 H2 locs2 hPC2 hPM2 hS2
        · exact absurd hQ2.1 c2
      · refine lv_tableIn (off := (.ofNat 238)) (tgt := 270) hx hb dL_32 (by decide) (by decide) rfl (by decide) ?_
        refine lv_aload_n hx hb dL_270 rfl (lv_at hl 1 rfl) ?_
        refine lv_aload_n hx hb dL_271 rfl (lv_at hl 0 rfl) ?_
        refine lv_iload_n hx hb dL_272 rfl (lv_at hl 3 rfl) ?_
        refine lv_iconst (v := 1) hx hb dL_273 (by decide) ?_
        refine lv_iadd hx hb dL_274 ?_
        refine va_sld hx hb hX hbl hbA hS h1 dL_275 ?_
        refine lv_aload_n hx hb dL_276 rfl (lv_at hl 0 rfl) ?_
        refine lv_iload_n hx hb dL_277 rfl (lv_at hl 3 rfl) ?_
        refine lv_iconst (v := 2) hx hb dL_278 (by decide) ?_
        refine lv_iadd hx hb dL_279 ?_
        refine va_sld hx hb hX hbl hbA hS h2 dL_280 ?_
        refine lw_inv (G := (D, (fun k => ad k), cA)) (sh := shC) (M := m_Tp_state) (rest := []) (o := 7) [xs (x3 + 1).toNatClampNeg, xs (x3 + 2).toNatClampNeg] ok_Tp_state rfl rfl rfl (fun w hw => tp_in4_e (List.all_eq_true.mp lq_Tp_state w hw)) ln_Tp_state ⟨Nat.le_of_ble_eq_true rfl, Nat.le_of_ble_eq_true rfl⟩ (Nat.le_of_ble_eq_true rfl) (Nat.le_of_ble_eq_true rfl) dL_281 (hyp.2.2.2.2.2.2.2.2.1 σ μ [xs (x3 + 1).toNatClampNeg, xs (x3 + 2).toNatClampNeg] rfl hRel) hx hb hml hown hts hKg hPC hS hA hiC hAC hl.1 (Nat.le_refl _) (Nat.le_refl _) (fun r σ1 H1 locs1 hQ hPC1 hk1 hS1 => ?_)
        have hPM1 := lw_stay (fA := id) (fB := fun k => 28 + k) hPM hCM hk1
        clear hPC hPM hS hk1
        have hS := hS1
        refine lv_aload_n hx hb dL_284 rfl (lv_at hl 2 rfl) ?_
        refine lv_aload_n hx hb dL_285 rfl (lv_at hl 0 rfl) ?_
        refine lv_iload_n hx hb dL_286 rfl (lv_at hl 3 rfl) ?_
        refine lv_iconst (v := 1) hx hb dL_287 (by decide) ?_
        refine lv_iadd hx hb dL_288 ?_
        refine va_sld hx hb hX hbl hbA hS h1 dL_289 ?_
        refine lv_aload_n hx hb dL_290 rfl (lv_at hl 0 rfl) ?_
        refine lv_iload_n hx hb dL_291 rfl (lv_at hl 3 rfl) ?_
        refine lv_iconst (v := 2) hx hb dL_292 (by decide) ?_
        refine lv_iadd hx hb dL_293 ?_
        refine va_sld hx hb hX hbl hbA hS h2 dL_294 ?_
        refine lw_inv (G := (D, (fun k => ad (28 + k)), cA)) (sh := shM) (M := m_Mo_state) (rest := [.int r]) (o := 8) [xs (x3 + 1).toNatClampNeg, xs (x3 + 2).toNatClampNeg] ok_Mo_state rfl rfl rfl (fun w hw => tp_in4_e (List.all_eq_true.mp lq_Mo_state w hw)) ln_Mo_state ⟨Nat.le_of_ble_eq_true rfl, Nat.le_of_ble_eq_true rfl⟩ (Nat.le_of_ble_eq_true rfl) (Nat.le_of_ble_eq_true rfl) dL_295 hQ hx hb hml hown hts hKm hPM1 hS hA hiM hAM hl.1 (Nat.le_refl _) (Nat.le_refl _) (fun r2 μ1 H2 locs2 hQ2 hPM2 hk2 hS2 => ?_)
        have hPC2 := lw_stay (fA := fun k => 28 + k) (fB := id) hPC1 hMC hk2
        refine lv_icmp_eq (tgt := 527) hx hb dL_298 (by decide) (fun c2 => ?_) (fun c2 => ?_)
        · exact next σ1 μ1 hQ2.2 H2 locs2 hPC2 hPM2 hS2
        · exact absurd hQ2.1 c2
      · refine lv_tableIn (off := (.ofNat 271)) (tgt := 303) hx hb dL_32 (by decide) (by decide) rfl (by decide) ?_
        refine lv_aload_n hx hb dL_303 rfl (lv_at hl 1 rfl) ?_
        refine lv_aload_n hx hb dL_304 rfl (lv_at hl 0 rfl) ?_
        refine lv_iload_n hx hb dL_305 rfl (lv_at hl 3 rfl) ?_
        refine lv_iconst (v := 1) hx hb dL_306 (by decide) ?_
        refine lv_iadd hx hb dL_307 ?_
        refine va_sld hx hb hX hbl hbA hS h1 dL_308 ?_
        refine lv_aload_n hx hb dL_309 rfl (lv_at hl 0 rfl) ?_
        refine lv_iload_n hx hb dL_310 rfl (lv_at hl 3 rfl) ?_
        refine lv_iconst (v := 2) hx hb dL_311 (by decide) ?_
        refine lv_iadd hx hb dL_312 ?_
        refine va_sld hx hb hX hbl hbA hS h2 dL_313 ?_
        refine lv_aload_n hx hb dL_314 rfl (lv_at hl 0 rfl) ?_
        refine lv_iload_n hx hb dL_315 rfl (lv_at hl 3 rfl) ?_
        refine lv_iconst (v := 3) hx hb dL_316 (by decide) ?_
        refine lv_iadd hx hb dL_317 ?_
        refine va_sld hx hb hX hbl hbA hS h3 dL_318 ?_
        refine lw_inv (G := (D, (fun k => ad k), cA)) (sh := shC) (M := m_Tp_ahead) (rest := []) (o := 7) [xs (x3 + 1).toNatClampNeg, xs (x3 + 2).toNatClampNeg, xs (x3 + 3).toNatClampNeg] ok_Tp_ahead rfl rfl rfl (fun w hw => tp_in4_e (List.all_eq_true.mp lq_Tp_ahead w hw)) ln_Tp_ahead ⟨Nat.le_of_ble_eq_true rfl, Nat.le_of_ble_eq_true rfl⟩ (Nat.le_of_ble_eq_true rfl) (Nat.le_of_ble_eq_true rfl) dL_319 (hyp.2.2.2.2.2.2.2.2.2.1 σ μ [xs (x3 + 1).toNatClampNeg, xs (x3 + 2).toNatClampNeg, xs (x3 + 3).toNatClampNeg] rfl hRel) hx hb hml hown hts hKg hPC hS hA hiC hAC hl.1 (Nat.le_refl _) (Nat.le_refl _) (fun r σ1 H1 locs1 hQ hPC1 hk1 hS1 => ?_)
        have hPM1 := lw_stay (fA := id) (fB := fun k => 28 + k) hPM hCM hk1
        clear hPC hPM hS hk1
        have hS := hS1
        refine lv_aload_n hx hb dL_322 rfl (lv_at hl 2 rfl) ?_
        refine lv_aload_n hx hb dL_323 rfl (lv_at hl 0 rfl) ?_
        refine lv_iload_n hx hb dL_324 rfl (lv_at hl 3 rfl) ?_
        refine lv_iconst (v := 1) hx hb dL_325 (by decide) ?_
        refine lv_iadd hx hb dL_326 ?_
        refine va_sld hx hb hX hbl hbA hS h1 dL_327 ?_
        refine lv_aload_n hx hb dL_328 rfl (lv_at hl 0 rfl) ?_
        refine lv_iload_n hx hb dL_329 rfl (lv_at hl 3 rfl) ?_
        refine lv_iconst (v := 2) hx hb dL_330 (by decide) ?_
        refine lv_iadd hx hb dL_331 ?_
        refine va_sld hx hb hX hbl hbA hS h2 dL_332 ?_
        refine lv_aload_n hx hb dL_333 rfl (lv_at hl 0 rfl) ?_
        refine lv_iload_n hx hb dL_334 rfl (lv_at hl 3 rfl) ?_
        refine lv_iconst (v := 3) hx hb dL_335 (by decide) ?_
        refine lv_iadd hx hb dL_336 ?_
        refine va_sld hx hb hX hbl hbA hS h3 dL_337 ?_
        refine lw_inv (G := (D, (fun k => ad (28 + k)), cA)) (sh := shM) (M := m_Mo_ahead) (rest := [.int r]) (o := 8) [xs (x3 + 1).toNatClampNeg, xs (x3 + 2).toNatClampNeg, xs (x3 + 3).toNatClampNeg] ok_Mo_ahead rfl rfl rfl (fun w hw => tp_in4_e (List.all_eq_true.mp lq_Mo_ahead w hw)) ln_Mo_ahead ⟨Nat.le_of_ble_eq_true rfl, Nat.le_of_ble_eq_true rfl⟩ (Nat.le_of_ble_eq_true rfl) (Nat.le_of_ble_eq_true rfl) dL_338 hQ hx hb hml hown hts hKm hPM1 hS hA hiM hAM hl.1 (Nat.le_refl _) (Nat.le_refl _) (fun r2 μ1 H2 locs2 hQ2 hPM2 hk2 hS2 => ?_)
        have hPC2 := lw_stay (fA := fun k => 28 + k) (fB := id) hPC1 hMC hk2
        refine lv_icmp_eq (tgt := 527) hx hb dL_341 (by decide) (fun c2 => ?_) (fun c2 => ?_)
        · exact next σ1 μ1 hQ2.2 H2 locs2 hPC2 hPM2 hS2
        · exact absurd hQ2.1 c2
      · refine lv_tableIn (off := (.ofNat 314)) (tgt := 346) hx hb dL_32 (by decide) (by decide) rfl (by decide) ?_
        refine lv_aload_n hx hb dL_346 rfl (lv_at hl 1 rfl) ?_
        refine lv_aload_n hx hb dL_347 rfl (lv_at hl 0 rfl) ?_
        refine lv_iload_n hx hb dL_348 rfl (lv_at hl 3 rfl) ?_
        refine lv_iconst (v := 1) hx hb dL_349 (by decide) ?_
        refine lv_iadd hx hb dL_350 ?_
        refine va_sld hx hb hX hbl hbA hS h1 dL_351 ?_
        refine lv_aload_n hx hb dL_352 rfl (lv_at hl 0 rfl) ?_
        refine lv_iload_n hx hb dL_353 rfl (lv_at hl 3 rfl) ?_
        refine lv_iconst (v := 2) hx hb dL_354 (by decide) ?_
        refine lv_iadd hx hb dL_355 ?_
        refine va_sld hx hb hX hbl hbA hS h2 dL_356 ?_
        refine lw_inv (G := (D, (fun k => ad k), cA)) (sh := shC) (M := m_Tp_comes) (rest := []) (o := 7) [xs (x3 + 1).toNatClampNeg, xs (x3 + 2).toNatClampNeg] ok_Tp_comes rfl rfl rfl (fun w hw => tp_in4_e (List.all_eq_true.mp lq_Tp_comes w hw)) ln_Tp_comes ⟨Nat.le_of_ble_eq_true rfl, Nat.le_of_ble_eq_true rfl⟩ (Nat.le_of_ble_eq_true rfl) (Nat.le_of_ble_eq_true rfl) dL_357 (hyp.2.2.2.2.2.2.2.2.2.2.1 σ μ [xs (x3 + 1).toNatClampNeg, xs (x3 + 2).toNatClampNeg] rfl hRel) hx hb hml hown hts hKg hPC hS hA hiC hAC hl.1 (Nat.le_refl _) (Nat.le_refl _) (fun r σ1 H1 locs1 hQ hPC1 hk1 hS1 => ?_)
        have hPM1 := lw_stay (fA := id) (fB := fun k => 28 + k) hPM hCM hk1
        clear hPC hPM hS hk1
        have hS := hS1
        refine lv_aload_n hx hb dL_360 rfl (lv_at hl 2 rfl) ?_
        refine lv_aload_n hx hb dL_361 rfl (lv_at hl 0 rfl) ?_
        refine lv_iload_n hx hb dL_362 rfl (lv_at hl 3 rfl) ?_
        refine lv_iconst (v := 1) hx hb dL_363 (by decide) ?_
        refine lv_iadd hx hb dL_364 ?_
        refine va_sld hx hb hX hbl hbA hS h1 dL_365 ?_
        refine lv_aload_n hx hb dL_366 rfl (lv_at hl 0 rfl) ?_
        refine lv_iload_n hx hb dL_367 rfl (lv_at hl 3 rfl) ?_
        refine lv_iconst (v := 2) hx hb dL_368 (by decide) ?_
        refine lv_iadd hx hb dL_369 ?_
        refine va_sld hx hb hX hbl hbA hS h2 dL_370 ?_
        refine lw_inv (G := (D, (fun k => ad (28 + k)), cA)) (sh := shM) (M := m_Mo_comes) (rest := [.int r]) (o := 8) [xs (x3 + 1).toNatClampNeg, xs (x3 + 2).toNatClampNeg] ok_Mo_comes rfl rfl rfl (fun w hw => tp_in4_e (List.all_eq_true.mp lq_Mo_comes w hw)) ln_Mo_comes ⟨Nat.le_of_ble_eq_true rfl, Nat.le_of_ble_eq_true rfl⟩ (Nat.le_of_ble_eq_true rfl) (Nat.le_of_ble_eq_true rfl) dL_371 hQ hx hb hml hown hts hKm hPM1 hS hA hiM hAM hl.1 (Nat.le_refl _) (Nat.le_refl _) (fun r2 μ1 H2 locs2 hQ2 hPM2 hk2 hS2 => ?_)
        have hPC2 := lw_stay (fA := fun k => 28 + k) (fB := id) hPC1 hMC hk2
        refine lv_icmp_eq (tgt := 527) hx hb dL_374 (by decide) (fun c2 => ?_) (fun c2 => ?_)
        · exact next σ1 μ1 hQ2.2 H2 locs2 hPC2 hPM2 hS2
        · exact absurd hQ2.1 c2
      · refine lv_tableIn (off := (.ofNat 347)) (tgt := 379) hx hb dL_32 (by decide) (by decide) rfl (by decide) ?_
        refine lv_aload_n hx hb dL_379 rfl (lv_at hl 1 rfl) ?_
        refine lv_aload_n hx hb dL_380 rfl (lv_at hl 0 rfl) ?_
        refine lv_iload_n hx hb dL_381 rfl (lv_at hl 3 rfl) ?_
        refine lv_iconst (v := 1) hx hb dL_382 (by decide) ?_
        refine lv_iadd hx hb dL_383 ?_
        refine va_sld hx hb hX hbl hbA hS h1 dL_384 ?_
        refine lv_aload_n hx hb dL_385 rfl (lv_at hl 0 rfl) ?_
        refine lv_iload_n hx hb dL_386 rfl (lv_at hl 3 rfl) ?_
        refine lv_iconst (v := 2) hx hb dL_387 (by decide) ?_
        refine lv_iadd hx hb dL_388 ?_
        refine va_sld hx hb hX hbl hbA hS h2 dL_389 ?_
        refine lw_inv (G := (D, (fun k => ad k), cA)) (sh := shC) (M := m_Tp_row) (rest := []) (o := 7) [xs (x3 + 1).toNatClampNeg, xs (x3 + 2).toNatClampNeg] ok_Tp_row rfl rfl rfl (fun w hw => tp_in4_e (List.all_eq_true.mp lq_Tp_row w hw)) ln_Tp_row ⟨Nat.le_of_ble_eq_true rfl, Nat.le_of_ble_eq_true rfl⟩ (Nat.le_of_ble_eq_true rfl) (Nat.le_of_ble_eq_true rfl) dL_390 (hyp.2.2.2.2.2.2.2.2.2.2.2.1 σ μ [xs (x3 + 1).toNatClampNeg, xs (x3 + 2).toNatClampNeg] rfl hRel) hx hb hml hown hts hKg hPC hS hA hiC hAC hl.1 (Nat.le_refl _) (Nat.le_refl _) (fun r σ1 H1 locs1 hQ hPC1 hk1 hS1 => ?_)
        have hPM1 := lw_stay (fA := id) (fB := fun k => 28 + k) hPM hCM hk1
        clear hPC hPM hS hk1
        have hS := hS1
        refine lv_aload_n hx hb dL_393 rfl (lv_at hl 2 rfl) ?_
        refine lv_aload_n hx hb dL_394 rfl (lv_at hl 0 rfl) ?_
        refine lv_iload_n hx hb dL_395 rfl (lv_at hl 3 rfl) ?_
        refine lv_iconst (v := 1) hx hb dL_396 (by decide) ?_
        refine lv_iadd hx hb dL_397 ?_
        refine va_sld hx hb hX hbl hbA hS h1 dL_398 ?_
        refine lv_aload_n hx hb dL_399 rfl (lv_at hl 0 rfl) ?_
        refine lv_iload_n hx hb dL_400 rfl (lv_at hl 3 rfl) ?_
        refine lv_iconst (v := 2) hx hb dL_401 (by decide) ?_
        refine lv_iadd hx hb dL_402 ?_
        refine va_sld hx hb hX hbl hbA hS h2 dL_403 ?_
        refine lw_inv (G := (D, (fun k => ad (28 + k)), cA)) (sh := shM) (M := m_Mo_row) (rest := [.int r]) (o := 8) [xs (x3 + 1).toNatClampNeg, xs (x3 + 2).toNatClampNeg] ok_Mo_row rfl rfl rfl (fun w hw => tp_in4_e (List.all_eq_true.mp lq_Mo_row w hw)) ln_Mo_row ⟨Nat.le_of_ble_eq_true rfl, Nat.le_of_ble_eq_true rfl⟩ (Nat.le_of_ble_eq_true rfl) (Nat.le_of_ble_eq_true rfl) dL_404 hQ hx hb hml hown hts hKm hPM1 hS hA hiM hAM hl.1 (Nat.le_refl _) (Nat.le_refl _) (fun r2 μ1 H2 locs2 hQ2 hPM2 hk2 hS2 => ?_)
        have hPC2 := lw_stay (fA := fun k => 28 + k) (fB := id) hPC1 hMC hk2
        refine lv_icmp_eq (tgt := 527) hx hb dL_407 (by decide) (fun c2 => ?_) (fun c2 => ?_)
        · exact next σ1 μ1 hQ2.2 H2 locs2 hPC2 hPM2 hS2
        · exact absurd hQ2.1 c2
      · refine lv_tableIn (off := (.ofNat 380)) (tgt := 412) hx hb dL_32 (by decide) (by decide) rfl (by decide) ?_
        refine lv_aload_n hx hb dL_412 rfl (lv_at hl 1 rfl) ?_
        refine lv_aload_n hx hb dL_413 rfl (lv_at hl 0 rfl) ?_
        refine lv_iload_n hx hb dL_414 rfl (lv_at hl 3 rfl) ?_
        refine lv_iconst (v := 1) hx hb dL_415 (by decide) ?_
        refine lv_iadd hx hb dL_416 ?_
        refine va_sld hx hb hX hbl hbA hS h1 dL_417 ?_
        refine lv_aload_n hx hb dL_418 rfl (lv_at hl 0 rfl) ?_
        refine lv_iload_n hx hb dL_419 rfl (lv_at hl 3 rfl) ?_
        refine lv_iconst (v := 2) hx hb dL_420 (by decide) ?_
        refine lv_iadd hx hb dL_421 ?_
        refine va_sld hx hb hX hbl hbA hS h2 dL_422 ?_
        refine lw_inv (G := (D, (fun k => ad k), cA)) (sh := shC) (M := m_Tp_place) (rest := []) (o := 7) [xs (x3 + 1).toNatClampNeg, xs (x3 + 2).toNatClampNeg] ok_Tp_place rfl rfl rfl (fun w hw => tp_in4_e (List.all_eq_true.mp lq_Tp_place w hw)) ln_Tp_place ⟨Nat.le_of_ble_eq_true rfl, Nat.le_of_ble_eq_true rfl⟩ (Nat.le_of_ble_eq_true rfl) (Nat.le_of_ble_eq_true rfl) dL_423 (hyp.2.2.2.2.2.2.2.2.2.2.2.2.1 σ μ [xs (x3 + 1).toNatClampNeg, xs (x3 + 2).toNatClampNeg] rfl hRel) hx hb hml hown hts hKg hPC hS hA hiC hAC hl.1 (Nat.le_refl _) (Nat.le_refl _) (fun r σ1 H1 locs1 hQ hPC1 hk1 hS1 => ?_)
        have hPM1 := lw_stay (fA := id) (fB := fun k => 28 + k) hPM hCM hk1
        clear hPC hPM hS hk1
        have hS := hS1
        refine lv_aload_n hx hb dL_426 rfl (lv_at hl 2 rfl) ?_
        refine lv_aload_n hx hb dL_427 rfl (lv_at hl 0 rfl) ?_
        refine lv_iload_n hx hb dL_428 rfl (lv_at hl 3 rfl) ?_
        refine lv_iconst (v := 1) hx hb dL_429 (by decide) ?_
        refine lv_iadd hx hb dL_430 ?_
        refine va_sld hx hb hX hbl hbA hS h1 dL_431 ?_
        refine lv_aload_n hx hb dL_432 rfl (lv_at hl 0 rfl) ?_
        refine lv_iload_n hx hb dL_433 rfl (lv_at hl 3 rfl) ?_
        refine lv_iconst (v := 2) hx hb dL_434 (by decide) ?_
        refine lv_iadd hx hb dL_435 ?_
        refine va_sld hx hb hX hbl hbA hS h2 dL_436 ?_
        refine lw_inv (G := (D, (fun k => ad (28 + k)), cA)) (sh := shM) (M := m_Mo_place) (rest := [.int r]) (o := 8) [xs (x3 + 1).toNatClampNeg, xs (x3 + 2).toNatClampNeg] ok_Mo_place rfl rfl rfl (fun w hw => tp_in4_e (List.all_eq_true.mp lq_Mo_place w hw)) ln_Mo_place ⟨Nat.le_of_ble_eq_true rfl, Nat.le_of_ble_eq_true rfl⟩ (Nat.le_of_ble_eq_true rfl) (Nat.le_of_ble_eq_true rfl) dL_437 hQ hx hb hml hown hts hKm hPM1 hS hA hiM hAM hl.1 (Nat.le_refl _) (Nat.le_refl _) (fun r2 μ1 H2 locs2 hQ2 hPM2 hk2 hS2 => ?_)
        have hPC2 := lw_stay (fA := fun k => 28 + k) (fB := id) hPC1 hMC hk2
        refine lv_icmp_eq (tgt := 527) hx hb dL_440 (by decide) (fun c2 => ?_) (fun c2 => ?_)
        · exact next σ1 μ1 hQ2.2 H2 locs2 hPC2 hPM2 hS2
        · exact absurd hQ2.1 c2
      · refine lv_tableIn (off := (.ofNat 413)) (tgt := 445) hx hb dL_32 (by decide) (by decide) rfl (by decide) ?_
        refine lv_aload_n hx hb dL_445 rfl (lv_at hl 1 rfl) ?_
        refine lv_aload_n hx hb dL_446 rfl (lv_at hl 0 rfl) ?_
        refine lv_iload_n hx hb dL_447 rfl (lv_at hl 3 rfl) ?_
        refine lv_iconst (v := 1) hx hb dL_448 (by decide) ?_
        refine lv_iadd hx hb dL_449 ?_
        refine va_sld hx hb hX hbl hbA hS h1 dL_450 ?_
        refine lw_inv (G := (D, (fun k => ad k), cA)) (sh := shC) (M := m_Tp_parse) (rest := []) (o := 7) [xs (x3 + 1).toNatClampNeg] ok_Tp_parse rfl rfl rfl (fun w hw => tp_in4_e (List.all_eq_true.mp lq_Tp_parse w hw)) ln_Tp_parse ⟨Nat.le_of_ble_eq_true rfl, Nat.le_of_ble_eq_true rfl⟩ (Nat.le_of_ble_eq_true rfl) (Nat.le_of_ble_eq_true rfl) dL_451 (hyp.2.2.2.2.2.2.2.2.2.2.2.2.2.1 σ μ [xs (x3 + 1).toNatClampNeg] rfl hRel) hx hb hml hown hts hKg hPC hS hA hiC hAC hl.1 (Nat.le_refl _) (Nat.le_refl _) (fun r σ1 H1 locs1 hQ hPC1 hk1 hS1 => ?_)
        have hPM1 := lw_stay (fA := id) (fB := fun k => 28 + k) hPM hCM hk1
        clear hPC hPM hS hk1
        have hS := hS1
        refine lv_aload_n hx hb dL_454 rfl (lv_at hl 2 rfl) ?_
        refine lv_aload_n hx hb dL_455 rfl (lv_at hl 0 rfl) ?_
        refine lv_iload_n hx hb dL_456 rfl (lv_at hl 3 rfl) ?_
        refine lv_iconst (v := 1) hx hb dL_457 (by decide) ?_
        refine lv_iadd hx hb dL_458 ?_
        refine va_sld hx hb hX hbl hbA hS h1 dL_459 ?_
        refine lw_inv (G := (D, (fun k => ad (28 + k)), cA)) (sh := shM) (M := m_Mo_parse) (rest := [.int r]) (o := 8) [xs (x3 + 1).toNatClampNeg] ok_Mo_parse rfl rfl rfl (fun w hw => tp_in4_e (List.all_eq_true.mp lq_Mo_parse w hw)) ln_Mo_parse ⟨Nat.le_of_ble_eq_true rfl, Nat.le_of_ble_eq_true rfl⟩ (Nat.le_of_ble_eq_true rfl) (Nat.le_of_ble_eq_true rfl) dL_460 hQ hx hb hml hown hts hKm hPM1 hS hA hiM hAM hl.1 (Nat.le_refl _) (Nat.le_refl _) (fun r2 μ1 H2 locs2 hQ2 hPM2 hk2 hS2 => ?_)
        have hPC2 := lw_stay (fA := fun k => 28 + k) (fB := id) hPC1 hMC hk2
        refine lv_icmp_eq (tgt := 527) hx hb dL_463 (by decide) (fun c2 => ?_) (fun c2 => ?_)
        · exact next σ1 μ1 hQ2.2 H2 locs2 hPC2 hPM2 hS2
        · exact absurd hQ2.1 c2
      · refine lv_tableIn (off := (.ofNat 436)) (tgt := 468) hx hb dL_32 (by decide) (by decide) rfl (by decide) ?_
        refine lv_aload_n hx hb dL_468 rfl (lv_at hl 1 rfl) ?_
        refine lv_aload_n hx hb dL_469 rfl (lv_at hl 0 rfl) ?_
        refine lv_iload_n hx hb dL_470 rfl (lv_at hl 3 rfl) ?_
        refine lv_iconst (v := 1) hx hb dL_471 (by decide) ?_
        refine lv_iadd hx hb dL_472 ?_
        refine va_sld hx hb hX hbl hbA hS h1 dL_473 ?_
        refine lw_inv (G := (D, (fun k => ad k), cA)) (sh := shC) (M := m_Tp_parsed) (rest := []) (o := 7) [xs (x3 + 1).toNatClampNeg] ok_Tp_parsed rfl rfl rfl (fun w hw => tp_in4_e (List.all_eq_true.mp lq_Tp_parsed w hw)) ln_Tp_parsed ⟨Nat.le_of_ble_eq_true rfl, Nat.le_of_ble_eq_true rfl⟩ (Nat.le_of_ble_eq_true rfl) (Nat.le_of_ble_eq_true rfl) dL_474 (hyp.2.2.2.2.2.2.2.2.2.2.2.2.2.2.1 σ μ [xs (x3 + 1).toNatClampNeg] rfl hRel) hx hb hml hown hts hKg hPC hS hA hiC hAC hl.1 (Nat.le_refl _) (Nat.le_refl _) (fun r σ1 H1 locs1 hQ hPC1 hk1 hS1 => ?_)
        have hPM1 := lw_stay (fA := id) (fB := fun k => 28 + k) hPM hCM hk1
        clear hPC hPM hS hk1
        have hS := hS1
        refine lv_aload_n hx hb dL_477 rfl (lv_at hl 2 rfl) ?_
        refine lv_aload_n hx hb dL_478 rfl (lv_at hl 0 rfl) ?_
        refine lv_iload_n hx hb dL_479 rfl (lv_at hl 3 rfl) ?_
        refine lv_iconst (v := 1) hx hb dL_480 (by decide) ?_
        refine lv_iadd hx hb dL_481 ?_
        refine va_sld hx hb hX hbl hbA hS h1 dL_482 ?_
        refine lw_inv (G := (D, (fun k => ad (28 + k)), cA)) (sh := shM) (M := m_Mo_parsed) (rest := [.int r]) (o := 8) [xs (x3 + 1).toNatClampNeg] ok_Mo_parsed rfl rfl rfl (fun w hw => tp_in4_e (List.all_eq_true.mp lq_Mo_parsed w hw)) ln_Mo_parsed ⟨Nat.le_of_ble_eq_true rfl, Nat.le_of_ble_eq_true rfl⟩ (Nat.le_of_ble_eq_true rfl) (Nat.le_of_ble_eq_true rfl) dL_483 hQ hx hb hml hown hts hKm hPM1 hS hA hiM hAM hl.1 (Nat.le_refl _) (Nat.le_refl _) (fun r2 μ1 H2 locs2 hQ2 hPM2 hk2 hS2 => ?_)
        have hPC2 := lw_stay (fA := fun k => 28 + k) (fB := id) hPC1 hMC hk2
        refine lv_icmp_eq (tgt := 527) hx hb dL_486 (by decide) (fun c2 => ?_) (fun c2 => ?_)
        · exact next σ1 μ1 hQ2.2 H2 locs2 hPC2 hPM2 hS2
        · exact absurd hQ2.1 c2
      · refine lv_tableIn (off := (.ofNat 459)) (tgt := 491) hx hb dL_32 (by decide) (by decide) rfl (by decide) ?_
        refine lv_aload_n hx hb dL_491 rfl (lv_at hl 1 rfl) ?_
        refine lv_aload_n hx hb dL_492 rfl (lv_at hl 0 rfl) ?_
        refine lv_iload_n hx hb dL_493 rfl (lv_at hl 3 rfl) ?_
        refine lv_iconst (v := 1) hx hb dL_494 (by decide) ?_
        refine lv_iadd hx hb dL_495 ?_
        refine va_sld hx hb hX hbl hbA hS h1 dL_496 ?_
        refine lw_inv (G := (D, (fun k => ad k), cA)) (sh := shC) (M := m_Tp_reduction) (rest := []) (o := 7) [xs (x3 + 1).toNatClampNeg] ok_Tp_reduction rfl rfl rfl (fun w hw => tp_in4_e (List.all_eq_true.mp lq_Tp_reduction w hw)) ln_Tp_reduction ⟨Nat.le_of_ble_eq_true rfl, Nat.le_of_ble_eq_true rfl⟩ (Nat.le_of_ble_eq_true rfl) (Nat.le_of_ble_eq_true rfl) dL_497 (hyp.2.2.2.2.2.2.2.2.2.2.2.2.2.2.2.1 σ μ [xs (x3 + 1).toNatClampNeg] rfl hRel) hx hb hml hown hts hKg hPC hS hA hiC hAC hl.1 (Nat.le_refl _) (Nat.le_refl _) (fun r σ1 H1 locs1 hQ hPC1 hk1 hS1 => ?_)
        have hPM1 := lw_stay (fA := id) (fB := fun k => 28 + k) hPM hCM hk1
        clear hPC hPM hS hk1
        have hS := hS1
        refine lv_aload_n hx hb dL_500 rfl (lv_at hl 2 rfl) ?_
        refine lv_aload_n hx hb dL_501 rfl (lv_at hl 0 rfl) ?_
        refine lv_iload_n hx hb dL_502 rfl (lv_at hl 3 rfl) ?_
        refine lv_iconst (v := 1) hx hb dL_503 (by decide) ?_
        refine lv_iadd hx hb dL_504 ?_
        refine va_sld hx hb hX hbl hbA hS h1 dL_505 ?_
        refine lw_inv (G := (D, (fun k => ad (28 + k)), cA)) (sh := shM) (M := m_Mo_reduction) (rest := [.int r]) (o := 8) [xs (x3 + 1).toNatClampNeg] ok_Mo_reduction rfl rfl rfl (fun w hw => tp_in4_e (List.all_eq_true.mp lq_Mo_reduction w hw)) ln_Mo_reduction ⟨Nat.le_of_ble_eq_true rfl, Nat.le_of_ble_eq_true rfl⟩ (Nat.le_of_ble_eq_true rfl) (Nat.le_of_ble_eq_true rfl) dL_506 hQ hx hb hml hown hts hKm hPM1 hS hA hiM hAM hl.1 (Nat.le_refl _) (Nat.le_refl _) (fun r2 μ1 H2 locs2 hQ2 hPM2 hk2 hS2 => ?_)
        have hPC2 := lw_stay (fA := fun k => 28 + k) (fB := id) hPC1 hMC hk2
        refine lv_icmp_eq (tgt := 527) hx hb dL_509 (by decide) (fun c2 => ?_) (fun c2 => ?_)
        · exact next σ1 μ1 hQ2.2 H2 locs2 hPC2 hPM2 hS2
        · exact absurd hQ2.1 c2
      · refine lv_tableIn (off := (.ofNat 482)) (tgt := 514) hx hb dL_32 (by decide) (by decide) rfl (by decide) ?_
        refine lv_aload_n hx hb dL_514 rfl (lv_at hl 1 rfl) ?_
        refine lw_inv (G := (D, (fun k => ad k), cA)) (sh := shC) (M := m_Tp_check) (rest := []) (o := 7) [] ok_Tp_check rfl rfl rfl (fun w hw => tp_in4_e (List.all_eq_true.mp lq_Tp_check w hw)) ln_Tp_check ⟨Nat.le_of_ble_eq_true rfl, Nat.le_of_ble_eq_true rfl⟩ (Nat.le_of_ble_eq_true rfl) (Nat.le_of_ble_eq_true rfl) dL_515 (hyp.2.2.2.2.2.2.2.2.2.2.2.2.2.2.2.2 σ μ [] rfl hRel) hx hb hml hown hts hKg hPC hS hA hiC hAC hl.1 (Nat.le_refl _) (Nat.le_refl _) (fun r σ1 H1 locs1 hQ hPC1 hk1 hS1 => ?_)
        have hPM1 := lw_stay (fA := id) (fB := fun k => 28 + k) hPM hCM hk1
        clear hPC hPM hS hk1
        have hS := hS1
        refine lv_aload_n hx hb dL_518 rfl (lv_at hl 2 rfl) ?_
        refine lw_inv (G := (D, (fun k => ad (28 + k)), cA)) (sh := shM) (M := m_Mo_check) (rest := [.int r]) (o := 8) [] ok_Mo_check rfl rfl rfl (fun w hw => tp_in4_e (List.all_eq_true.mp lq_Mo_check w hw)) ln_Mo_check ⟨Nat.le_of_ble_eq_true rfl, Nat.le_of_ble_eq_true rfl⟩ (Nat.le_of_ble_eq_true rfl) (Nat.le_of_ble_eq_true rfl) dL_519 hQ hx hb hml hown hts hKm hPM1 hS hA hiM hAM hl.1 (Nat.le_refl _) (Nat.le_refl _) (fun r2 μ1 H2 locs2 hQ2 hPM2 hk2 hS2 => ?_)
        have hPC2 := lw_stay (fA := fun k => 28 + k) (fB := id) hPC1 hMC hk2
        refine lv_icmp_eq (tgt := 527) hx hb dL_522 (by decide) (fun c2 => ?_) (fun c2 => ?_)
        · exact next σ1 μ1 hQ2.2 H2 locs2 hPC2 hPM2 hS2
        · exact absurd hQ2.1 c2
      · refine lv_tableOut (tgt := 527) hx hb dL_32 (Or.inr (by rw [nI_toInt (by omega)]; show (16 : Int) < _; omega)) (by decide) ?_
        exact next σ μ hRel H locs hPC hPM hS
