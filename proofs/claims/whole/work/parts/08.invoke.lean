/-! calls -/
def tp_wd (M : tp_M) : List Cond := Cond.code (tp_y M) (tp_b M) (tp_ml M) (tp_rt M) :: tp_Ts
def tp_en : Nat → List Value → tp_Ls
  | n, [] => List.replicate n none
  | n, v :: vs => some v :: (match v.category with
    | 2 => none :: tp_en (n - 2) vs
    | _ => tp_en (n - 1) vs)
def tp_words : List Value → Nat
  | [] => 0
  | v :: vs => v.category + tp_words vs
theorem tp_words_sl (ad : Nat → Nat) (vs : List Value) : (lg_sl (vs.map (tp_cv ad))).length = tp_words vs := by
  induction vs with
  | nil => rfl
  | cons v vs ih =>
    have e : lg_sl ((v :: vs).map (tp_cv ad)) = (if v.category = 2 then [Slot.val (tp_cv ad v), .second] else [.val (tp_cv ad v)]) ++ lg_sl (vs.map (tp_cv ad)) := by
      simp [lg_sl, tp_cv_cat]
    rw [e, List.length_append, ih]
    rcases lv_cat v with h | h <;> simp [tp_words, h]
theorem tp_en_at (ad : Nat → Nat) (vs : List Value) : ∀ (n i j : Nat) (w : Value), (tp_en n vs)[i]? = some (some w) → (j + i, tp_cv ad w) ∈ lv_args j (vs.map (tp_cv ad)) := by
  induction vs with
  | nil =>
    intro n i j w h
    have := List.eq_of_mem_replicate (List.mem_of_getElem? h)
    cases this
  | cons v vs ih =>
    intro n i j w h
    simp only [List.map_cons, lv_args, tp_cv_cat]
    cases i with
    | zero =>
      have : v = w := by simpa [tp_en] using h
      subst this
      exact List.mem_cons_self
    | succ i =>
      rcases lv_cat v with hc | hc
      · have h' : (tp_en (n - 1) vs)[i]? = some (some w) := by simpa [tp_en, hc] using h
        refine List.mem_cons_of_mem _ ?_
        rw [hc]
        have := ih _ _ (j + 1) _ h'
        simpa [Nat.add_assoc, Nat.add_comm 1 i] using this
      · cases i with
        | zero => simp [tp_en, hc] at h
        | succ i =>
          have h' : (tp_en (n - 2) vs)[i]? = some (some w) := by simpa [tp_en, hc] using h
          refine List.mem_cons_of_mem _ ?_
          rw [hc]
          have := ih _ _ (j + 2) _ h'
          rw [show j + (i + 1 + 1) = j + 2 + i by omega]
          simpa using this
theorem tp_good_code {M : tp_M} (h : tp_good M = true) : Cond.code (tp_y M) (tp_b M) (tp_ml M) (tp_rt M) ∈ tp_Ts ∧ plainName (tp_y M).cls = true := by
  unfold tp_good at h
  simp only [Bool.and_eq_true, decide_eq_true_eq] at h
  exact ⟨tp_Ts_mem (List.mem_append_right _ h.1.2) rfl, h.2⟩
theorem tp_GoodIn {M : tp_M} (h : tp_good M = true) : GoodIn tp_Ts (tp_wd M) := by
  intro w hw
  rcases List.mem_cons.mp hw with rfl | hw
  · exact ⟨(tp_good_code h).1, Or.inl rfl⟩
  · exact ⟨hw, good_of_word (tp_Ts_good w hw)⟩
theorem tp_Kg_moved {G : tp_G} {s U : State} (hW : s.WarmedH U.vm) (h : tp_Kg G s) : tp_Kg G U := by
  refine ⟨va_K.moved hW.alike h.1, fun w hw => ?_⟩
  have h1 := h.2 w hw
  simp only [tp_Nw, List.mem_cons, List.mem_nil_iff, or_false] at hw
  rcases hw with rfl | rfl | rfl | rfl
  · exact va_Nw.warmM hW h1
  · exact va_Nw.warmM hW h1
  · exact va_Nw.warmD hW h1
  · exact va_Nw.warmD hW h1
theorem tp_Kg_vm {G : tp_G} {s U : State} (e : s.vm = U.vm) (h : tp_Kg G s) : tp_Kg G U := by
  refine ⟨va_K.moved (by rw [← e]; exact Vm.Alike.refl s.vm) h.1, fun w hw => ?_⟩
  have h1 := h.2 w hw
  simp only [tp_Nw, List.mem_cons, List.mem_nil_iff, or_false] at hw
  rcases hw with rfl | rfl | rfl | rfl <;> exact va_Nw.same rfl e h1
abbrev tp_B (G : tp_G) (sh : List tp_E) (σ : tp_S) (sz : Nat) (U : State) : Prop := U.heap.size = sz ∧ va_P G.1 tp_cl (tp_ws G.2.1 G.2.2 sh σ) U.heap ∧ tp_Kg G U
theorem tp_met {sh : List tp_E} {M : tp_M} {σ : tp_S} {Q : tp_Q} {vs : List Value} (hg : tp_good M = true) (hw : tp_words vs ≤ tp_ml M) (k : tp_W sh M 0 (tp_en (tp_ml M) vs) [] σ Q) (l : Launch) (G : tp_G) (sz : Nat) (hinj : ∀ i j, i < sh.length → j < sh.length → G.2.1 i = G.2.1 j → i = j) : Met l (tp_y M) (tp_wd M) (tp_rm M) (va_Pc (vs.map (tp_cv G.2.1)) (tp_B G sh σ sz)) (tp_Z G sh Q (va_A (tp_ws G.2.1 G.2.2 sh σ) sz)) 0 0 (va_A (tp_ws G.2.1 G.2.2 sh σ) sz) := by
  refine Met.ofW (cc := tp_b M) (maxL := tp_ml M) (ret := tp_rt M) (tp_good_code hg).2 rfl ?_
  intro p e s m args below meth c s₁ B hml hv
  obtain ⟨rfl, hsz, hP, hK⟩ := hv
  have hts := atoms_spec (ws := tp_wd M) B.pre
  subst hsz
  have hl := lv_entry (vs.map (tp_cv G.2.1)) (n := tp_ml M) (by rw [tp_words_sl]; exact hw)
  rw [lg_entry_eq]
  refine k l G p e s m _ below meth c _ s.heap [] _ ⟨B.exec, B.bytes, B.returns, hml, findClass_of_methodNamed B.named, fun w h => hts w (List.mem_cons_of_mem _ h), hK, B.notSynchronized, fun q h => Or.inr h, hinj, fun i hi => Or.inl ⟨i, _, tp_ws_at _ _ _ _ _ _ (List.getElem?_eq_getElem hi)⟩⟩ hP va_S.rf ⟨hl.1, hl.2.1, fun i v hv => ?_⟩
  have := hl.2.2 _ (tp_en_at G.2.1 vs _ i 0 v hv)
  simpa using this
theorem tp_blind {vs : List Value} {G : tp_G} {sh : List tp_E} {σ : tp_S} {sz : Nat} : FrameBlind (va_Pc vs (tp_B G sh σ sz)) := by
  intro a U g mk h
  obtain ⟨h1, h2, h3, h4⟩ := h
  exact ⟨h1, h2, h3, tp_Kg_vm (s := U) (U := U.calling g mk a) rfl h4⟩
section TPC
variable {sh : List tp_E} {M M' : tp_M} {pc : Nat} {ls : tp_Ls} {st : List Value} {σ : tp_S} {Q : tp_Q}
/-- behind a call -/
theorem tp_back {p : Program} {l : Launch} {e : Env} {R : Room} {s : State} {m : MethodId} {args : Array Value} {below : List Frame} {meth : Method} {c : Code} {H : Heap} {locs : List Loc} {Q' : State → Prop} {als : Array Slot} {st0 rest : List Value} {a : Array Value} {A A1 : Nat → Prop} {G : tp_G} {Q1 : tp_Q}
    (hr : va_Run p l e R s m args below meth c H locs 0 0 0 0 (F0 m pc als st0) rest (tp_Z G sh Q1 A1 a) A1) (hS : va_S A s.heap H locs) (hA : ∀ q, A1 q → A q)
    (kk : ∀ (r : Option Value) (τ : tp_S) (H1 : Heap) (locs1 : List Loc), Q1 r τ → va_P G.1 tp_cl (tp_ws G.2.1 G.2.2 sh τ) H1 → va_S A s.heap H1 locs1 → W p l e R s m args below meth c H1 locs1 0 0 Q' (F0 m (pc + 3) als ((r.map (tp_cv G.2.1)).toList ++ rest))) : W p l e R s m args below meth c H locs 0 0 Q' (F0 m pc als st0) := by
  intro T hT X
  obtain ⟨v, st₀, t, T', L, h0, X', hL, e1, e2, ⟨⟨r, τ, hv, hp, hb⟩, hz, hk⟩, stp⟩ := hr T hT X
  cases hv
  rw [h0] at hz hk
  obtain ⟨t2, a1, b1⟩ := kk r τ T'.heap (locs ++ L) hp (by rw [e1]; exact hb)
    ⟨Nat.le_trans hS.1 (by rw [e1]; exact hz), fun q h1 h2 => by rw [e1, hk q (Nat.lt_of_lt_of_le h1 hS.1) (fun z => h2 (hA q z))]; exact hS.2.1 q h1 h2, fun q hq => by
      rcases List.mem_append.mp hq with h | h
      · exact hS.2.2 q h
      · exact hA _ (hL q h)⟩ T' rfl X'
  exact ⟨t2, stp t2 a1, b1⟩
theorem tp_toL (ad : Nat → Nat) (r : Option Value) (st : List Value) : (r.toList ++ st).map (tp_cv ad) = (r.map (tp_cv ad)).toList ++ st.map (tp_cv ad) := by
  cases r <;> rfl
theorem tp_A_of {A : Nat → Prop} {G : tp_G} {H : Heap} {s : State} {locs : List Loc} (hS : va_S A s.heap H locs) (hAs : ∀ q, s.heap.size ≤ q → A q) (hAin : ∀ i, i < sh.length → A (G.2.1 i)) : ∀ q, va_A (tp_ws G.2.1 G.2.2 sh σ) H.size q → A q := by
  intro q h
  rcases h with ⟨k, e, h⟩ | h
  · have hk : k < sh.length := by
      have := (List.getElem?_eq_some_iff.mp h).1
      rwa [tp_ws_len] at this
    rw [tp_ws_at _ _ _ _ _ _ (List.getElem?_eq_getElem hk)] at h
    have : G.2.1 k = q := congrArg Prod.fst (Option.some.inj h)
    rw [← this]; exact hAin k hk
  · exact hAs q (Nat.le_trans hS.1 h)
abbrev tp_room (M M' : tp_M) : Prop := tp_f M' + 1 ≤ tp_f M ∧ 8 + (tp_ml M' + 11) + tp_w M' ≤ tp_w M
abbrev tp_nMH (y : MethodName) (n : Nat) : Prop := y.cls ≠ "java/lang/invoke/MethodHandle" ∧ y.cls ≠ "java/lang/invoke/VarHandle" ∧ (parseMethodDescriptor y.desc).map (fun d => d.parameters.length) = some n
theorem tp_r_invV {idx n a o : Nat} {q : vw_C} {fs : List (Option Nat)} {As : List Value} (hg : tp_good M' = true) (hq : tp_cl[o]? = some q) (ha : sh[a]? = some (.inl (o, fs))) (hC : (tp_y M').cls = q.1) (h4 : ∀ w ∈ ([.methodLink (tp_y M).cls idx (tp_y M'), .instanceMethod (tp_y M'), .selects q.1 (tp_y M') (tp_y M'), .initialized q.1] : List Cond), w ∈ tp_Ts) (hy : tp_nMH (tp_y M') n) (hn : As.length = n) (hR : tp_room M M') (hst : (st.map fun v => v.category).sum ≤ 8) (hw : tp_words (.ref a :: As) ≤ tp_ml M') (hd : decode (tp_b M) pc = .ok (.invokevirtual idx, 3))
    (k : tp_W sh M' 0 (tp_en (tp_ml M') (.ref a :: As)) [] σ (fun r τ => tp_W sh M (pc + 3) ls (r.toList ++ st) τ Q)) : tp_W sh M pc ls (As.reverse ++ .ref a :: st) σ Q := by
  intro l G p e s m args below meth c A H locs als hA hP hS hl
  have hA' := hA
  obtain ⟨hx, hb, hr, hml, hown, hts, hK, hlk, hAs, hinj, hAin⟩ := hA'
  have hG : GoodIn tp_Ts (wsV (tp_y M).cls idx q.1 (tp_y M') (tp_wd M')) := by
    intro w hw
    rcases List.mem_append.mp hw with h | h
    · exact ⟨h4 w h, good_of_word (tp_Ts_good w (h4 w h))⟩
    · exact tp_GoodIn hg w h
  refine tp_back (va_runV (nL := tp_ml M) (As := As.map (tp_cv G.2.1)) (b := G.2.1 a) (rest := st.map (tp_cv G.2.1)) ⟨hx, hb, hml, hown, hts⟩ (tp_met hg hw k l G H.size hinj) (cwV n hts hG rfl rfl rfl ⟨hC, hy⟩ hR) ⟨tp_blind, va_recv hK.1 hP hq (tp_ws_at _ _ _ _ _ _ ha), fun U hU hW => ⟨rfl, by rw [hU], by rw [hU]; exact hP, tp_Kg_moved hW hK⟩⟩ rfl (by simpa using hn) hl.1 (by show _ = _; simp [tp_cv]) (lv_room (by rw [tp_cv_sum]; exact hst)) hd ⟨Nat.le_refl _, Nat.le_refl _⟩) hS (tp_A_of hS hAs hAin) (fun r τ H1 locs1 h1 h2 h3 => ?_)
  rw [← tp_toL]
  exact h1 l G p e s m args below meth c A H1 locs1 als hA h2 h3 hl
theorem tp_r_invU {idx n a o : Nat} {q : vw_C} {fs : List (Option Nat)} {As : List Value} {x : MethodName} (hg : tp_good M' = true) (hq : tp_cl[o]? = some q) (ha : sh[a]? = some (.inl (o, fs))) (h5 : ∀ w ∈ ([.methodLink (tp_y M).cls idx x, .sameMethod x.cls x.cls x.name x.desc, .selects q.1 x (tp_y M'), .instanceMethod (tp_y M'), .initialized (tp_y M').cls] : List Cond), w ∈ tp_Ts) (hz : Cond.declares x ∈ tp_Nw) (hy : tp_nMH x n) (hn : As.length = n) (hR : tp_room M M') (hst : (st.map fun v => v.category).sum ≤ 8) (hw : tp_words (.ref a :: As) ≤ tp_ml M') (hd : decode (tp_b M) pc = .ok (.invokevirtual idx, 3))
    (k : tp_W sh M' 0 (tp_en (tp_ml M') (.ref a :: As)) [] σ (fun r τ => tp_W sh M (pc + 3) ls (r.toList ++ st) τ Q)) : tp_W sh M pc ls (As.reverse ++ .ref a :: st) σ Q := by
  intro l G p e s m args below meth c A H locs als hA hP hS hl
  have hA' := hA
  obtain ⟨hx, hb, hr, hml, hown, hts, hK, hlk, hAs, hinj, hAin⟩ := hA'
  have hG : GoodIn tp_Ts (va_wsU (tp_y M).cls idx q.1 x.cls x (tp_y M') (tp_wd M')) := by
    intro w hw
    rcases List.mem_append.mp hw with h | h
    · exact ⟨h5 w h, good_of_word (tp_Ts_good w (h5 w h))⟩
    · exact tp_GoodIn hg w h
  refine tp_back (va_runU (nL := tp_ml M) (As := As.map (tp_cv G.2.1)) (b := G.2.1 a) (rest := st.map (tp_cv G.2.1)) ⟨hx, hb, hml, hown, hts⟩ (tp_met hg hw k l G H.size hinj) (va_cwA n hts hG rfl rfl rfl (hK.2 _ hz) hy hR) ⟨tp_blind, va_recv hK.1 hP hq (tp_ws_at _ _ _ _ _ _ ha), fun U hU hW => ⟨rfl, by rw [hU], by rw [hU]; exact hP, tp_Kg_moved hW hK⟩⟩ rfl (by simpa using hn) hl.1 (by show _ = _; simp [tp_cv]) (lv_room (by rw [tp_cv_sum]; exact hst)) hd ⟨Nat.le_refl _, Nat.le_refl _⟩) hS (tp_A_of hS hAs hAin) (fun r τ H1 locs1 h1 h2 h3 => ?_)
  rw [← tp_toL]
  exact h1 l G p e s m args below meth c A H1 locs1 als hA h2 h3 hl
theorem tp_r_invS {idx n : Nat} {As : List Value} (hg : tp_good M' = true) (h3 : ∀ w ∈ ([.methodLink (tp_y M).cls idx (tp_y M'), .static (tp_y M'), .initialized (tp_y M').cls] : List Cond), w ∈ tp_Ts) (hy : tp_nMH (tp_y M') n) (hn : As.length = n) (hR : tp_room M M') (hst : (st.map fun v => v.category).sum ≤ 8) (hw : tp_words As ≤ tp_ml M') (hd : decode (tp_b M) pc = .ok (.invokestatic idx, 3))
    (k : tp_W sh M' 0 (tp_en (tp_ml M') As) [] σ (fun r τ => tp_W sh M (pc + 3) ls (r.toList ++ st) τ Q)) : tp_W sh M pc ls (As.reverse ++ st) σ Q := by
  intro l G p e s m args below meth c A H locs als hA hP hS hl
  have hA' := hA
  obtain ⟨hx, hb, hr, hml, hown, hts, hK, hlk, hAs, hinj, hAin⟩ := hA'
  have hG : GoodIn tp_Ts (va_wsS (tp_y M).cls idx (tp_y M') (tp_wd M')) := by
    intro w hw
    rcases List.mem_append.mp hw with h | h
    · exact ⟨h3 w h, good_of_word (tp_Ts_good w (h3 w h))⟩
    · exact tp_GoodIn hg w h
  refine tp_back (va_runS (nL := tp_ml M) (As := As.map (tp_cv G.2.1)) (rest := st.map (tp_cv G.2.1)) ⟨hx, hb, hml, hown, hts⟩ (tp_met hg hw k l G H.size hinj) (va_cwS n hts hG rfl rfl rfl hy hR) ⟨tp_blind, fun U hU hW => ⟨rfl, by rw [hU], by rw [hU]; exact hP, tp_Kg_moved hW hK⟩⟩ rfl (by simpa using hn) hl.1 (by show _ = _; simp) (lv_room (by rw [tp_cv_sum]; exact hst)) hd ⟨Nat.le_refl _, Nat.le_refl _⟩) hS (tp_A_of hS hAs hAin) (fun r τ H1 locs1 h1 h2 h3 => ?_)
  rw [← tp_toL]
  exact h1 l G p e s m args below meth c A H1 locs1 als hA h2 h3 hl
theorem tp_r_invN {idx n : Nat} {host : String} {As : List Value} (hg : tp_good M' = true) (h3 : ∀ w ∈ ([.static (tp_y M'), .initialized (tp_y M').cls] : List Cond), w ∈ tp_Ts) (hz : Cond.methodLinkNest (tp_y M).cls idx (tp_y M') host ∈ tp_Nw) (hy : tp_nMH (tp_y M') n) (hn : As.length = n) (hR : tp_room M M') (hst : (st.map fun v => v.category).sum ≤ 8) (hw : tp_words As ≤ tp_ml M') (hd : decode (tp_b M) pc = .ok (.invokestatic idx, 3))
    (k : tp_W sh M' 0 (tp_en (tp_ml M') As) [] σ (fun r τ => tp_W sh M (pc + 3) ls (r.toList ++ st) τ Q)) : tp_W sh M pc ls (As.reverse ++ st) σ Q := by
  intro l G p e s m args below meth c A H locs als hA hP hS hl
  have hA' := hA
  obtain ⟨hx, hb, hr, hml, hown, hts, hK, hlk, hAs, hinj, hAin⟩ := hA'
  refine tp_back (va_runSN (nL := tp_ml M) (As := As.map (tp_cv G.2.1)) (rest := st.map (tp_cv G.2.1)) ⟨hx, hb, hml, hown, hts⟩ (tp_met hg hw k l G H.size hinj) ⟨va_cnB n hts (tp_GoodIn hg) rfl rfl rfl (hK.2 _ hz) (hts _ (h3 _ (by simp))) hy hR, hts _ (h3 _ (by simp)), trivial⟩ ⟨tp_blind, fun U hU hW => ⟨rfl, by rw [hU], by rw [hU]; exact hP, tp_Kg_moved hW hK⟩⟩ rfl (by simpa using hn) hl.1 (by show _ = _; simp) (lv_room (by rw [tp_cv_sum]; exact hst)) hd ⟨Nat.le_refl _, Nat.le_refl _⟩) hS (tp_A_of hS hAs hAin) (fun r τ H1 locs1 h1 h2 h3 => ?_)
  rw [← tp_toL]
  exact h1 l G p e s m args below meth c A H1 locs1 als hA h2 h3 hl
theorem tp_r_max {idx : Nat} {x y : Int32} (h4 : ∀ w ∈ ([.methodLink (tp_y M).cls idx Lib.Math.max.name, .static Lib.Math.max.name, .initialized "java/lang/Math", .code Lib.Math.max.name Lib.Math.max.code 2 (some .int)] : List Cond), w ∈ tp_Ts) (hf : 1 ≤ tp_f M) (hw : (st.map fun v => v.category).sum + 13 ≤ tp_w M) (hd : decode (tp_b M) pc = .ok (.invokestatic idx, 3)) (k : tp_W sh M (pc + 3) ls (.int (if x < y then y else x) :: st) σ Q) : tp_W sh M pc ls (.int y :: .int x :: st) σ Q := by
  intro l G p e s m args below meth c A H locs als hA hP hS hl
  have hA' := hA
  obtain ⟨hx, hb, hr, hml, hown, hts, hK, hlk, hAs, hinj, hAin⟩ := hA'
  exact va_mmax hx hb (hml.trans hl.1.symm) hown (hts _ (h4 _ (by simp))) (hts _ (h4 _ (by simp))) (hts _ (h4 _ (by simp))) (hts _ (h4 _ (by simp))) hf (by rw [tp_cv_sum]; exact hw) (Nat.zero_le _) (Nat.zero_le _) hd (k l G p e s m args below meth c A H locs als hA hP hS hl)
theorem tp_r_copy {idx a0 a n0 n1 : Nat} {sp dp n : Int32} (h4 : ∀ w ∈ ([.methodLink (tp_y M).cls idx arraycopyName, .native arraycopyName, .static arraycopyName, .initialized "java/lang/System"] : List Cond), w ∈ tp_Ts) (ha0 : sh[a0]? = some (.inr (2, n0))) (ha : sh[a]? = some (.inr (2, n1))) (h1 : ¬ sp < 0) (h2 : ¬ dp < 0) (h3 : ¬ n < 0) (h5 : sp.toNatClampNeg + n.toNatClampNeg ≤ n0) (h6 : dp.toNatClampNeg + n.toNatClampNeg ≤ n1) (hf : 1 ≤ tp_f M) (hw : (st.map fun v => v.category).sum + (nativeFrameWords "java/lang/System" "arraycopy" 5 + 11) ≤ tp_w M) (hd : decode (tp_b M) pc = .ok (.invokestatic idx, 3)) (k : tp_W sh M (pc + 3) ls st (tp_sL σ a (va_cpy (σ.2 a0) (σ.2 a) sp.toNatClampNeg dp.toNatClampNeg n.toNatClampNeg)) Q) : tp_W sh M pc ls (.int n :: .int dp :: .ref a :: .int sp :: .ref a0 :: st) σ Q := by
  intro l G p e s m args below meth c A H locs als hA hP hS hl
  have hA' := hA
  obtain ⟨hx, hb, hr, hml, hown, hts, hK, hlk, hAs, hinj, hAin⟩ := hA'
  refine va_copyl (ty := .long) (f := σ.2 a0) (g := σ.2 a) hx hb (hml.trans hl.1.symm) hown (hts _ (h4 _ (by simp))) (hts _ (h4 _ (by simp))) (hts _ (h4 _ (by simp))) (hts _ (h4 _ (by simp))) hK.1 hP (tp_ws_D hinj hAin) hS a0 a 2 2 (tp_ws_at _ _ _ _ _ _ ha0) (tp_ws_at _ _ _ _ _ _ ha) rfl rfl rfl h1 h2 h3 h5 h6 (fun i _ => rfl) hf (by rw [tp_cv_sum]; exact hw) hd (fun H1 locs1 hP1 hD1 hS1 => k l G p e s m args below meth c A H1 locs1 als hA ?_ hS1 hl)
  rw [tp_ws_set G.2.1 G.2.2 sh σ (tp_sL σ a (va_cpy (σ.2 a0) (σ.2 a) sp.toNatClampNeg dp.toNatClampNeg n.toNatClampNeg)) a (.inr (2, n1)) ha _ ?_ ?_] at hP1
  · exact hP1
  · simp only [tp_mk, tp_sL, va_up_self]
  · intro j f hj _
    exact tp_mk_up _ _ _ _ _ _ rfl (by simp [tp_sL, va_up, hj])
end TPC
