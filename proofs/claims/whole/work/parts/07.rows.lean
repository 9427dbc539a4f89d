/-! rows of the pure machine: fields, arrays, ends, calls -/
section TPF
variable {sh : List tp_E} {M : tp_M} {pc pc' : Nat} {ls ls' : tp_Ls} {st st' : List Value} {σ τ : tp_S} {Q : tp_Q}
set_option maxRecDepth 100000 in
theorem tp_lay_ok : (tp_cl.all fun q => (u_ws q.1 q.2.1 q.2.2).all fun w => decide (w ∈ tables_1) && goodWord w) = true := by decide +kernel
theorem tp_lay {q : vw_C} {o : Nat} (h : tp_cl[o]? = some q) : ∀ w ∈ u_ws q.1 q.2.1 q.2.2, w ∈ tp_Ts := by
  intro w hw
  have h1 := List.all_eq_true.mp (List.all_eq_true.mp tp_lay_ok q (List.mem_of_getElem? h)) w hw
  simp only [Bool.and_eq_true, decide_eq_true_eq] at h1
  exact tp_Ts_mem (List.mem_append_right _ h1.1) h1.2
def tp_ty0 (T : u_T) (k : Nat) : FieldType := (parseFieldDescriptor (T k).2.2.1).getD .int
set_option maxRecDepth 100000 in
theorem tp_ty_ok : (tp_cl.all fun q => (List.range q.2.2).all fun k => (parseFieldDescriptor (q.2.1 k).2.2.1).isSome) = true := by decide +kernel
theorem tp_ty {q : vw_C} {o : Nat} (h : tp_cl[o]? = some q) : ∀ k, k < q.2.2 → parseFieldDescriptor (q.2.1 k).2.2.1 = some (tp_ty0 q.2.1 k) := by
  intro k hk
  have h1 := List.all_eq_true.mp (List.all_eq_true.mp tp_ty_ok q (List.mem_of_getElem? h)) k (List.mem_range.mpr hk)
  unfold tp_ty0
  cases hp : parseFieldDescriptor (q.2.1 k).2.2.1 with
  | none => rw [hp] at h1; cases h1
  | some t => rfl
set_option maxRecDepth 100000 in
theorem tp_nm_ok : (tp_cl.all fun q => (List.range q.2.2).all fun a => (List.range q.2.2).all fun b => decide (a = b) || decide ((q.2.1 a).2.1 ≠ (q.2.1 b).2.1)) = true := by decide +kernel
theorem tp_nm {q : vw_C} {o : Nat} (h : tp_cl[o]? = some q) : ∀ a, a < q.2.2 → ∀ b, b < q.2.2 → a ≠ b → (q.2.1 a).2.1 ≠ (q.2.1 b).2.1 := by
  intro a ha b hb hne
  have h1 := List.all_eq_true.mp (List.all_eq_true.mp (List.all_eq_true.mp tp_nm_ok q (List.mem_of_getElem? h)) a (List.mem_range.mpr ha)) b (List.mem_range.mpr hb)
  simp only [Bool.or_eq_true, decide_eq_true_eq] at h1
  exact h1.resolve_left hne
theorem tp_fl {q : vw_C} {o idx k : Nat} (h : tp_cl[o]? = some q) (hm : (o, idx, k) ∈ tp_flT) : Cond.fieldLink q.1 idx q.1 (q.2.1 k).2.1 (q.2.1 k).2.2.1 ∈ tp_Ts := by
  have h1 := List.all_eq_true.mp tp_flT_ok _ hm
  unfold tp_flq at h1
  simp only [h, decide_eq_true_eq] at h1
  exact tp_Ts_mem (List.mem_append_right _ h1) rfl
/-- a field of an object of the method's own class -/
theorem tp_r_getR {idx k a b o : Nat} {q : vw_C} {fs : List (Option Nat)} (hq : tp_cl[o]? = some q) (hc : (tp_y M).cls = q.1) (hk : k < q.2.2) (hm : (o, idx, k) ∈ tp_flT) (hT : (q.2.1 k).1 = q.1) (ha : sh[a]? = some (.inl (o, fs))) (hf : fs[k]? = some (some b)) (hd : decode (tp_b M) pc = .ok (.getfield idx, 3)) (kk : tp_W sh M (pc + 3) ls (.ref b :: st) σ Q) : tp_W sh M pc ls (.ref a :: st) σ Q := by
  intro l G p e s m args below meth c A H locs als hA hP hS hl
  have hA' := hA
  obtain ⟨hx, hb, hr, hml, hown, hts, hK, hlk, hAs, hinj, hAin⟩ := hA'
  refine va_get (v := .ref (G.2.1 b)) (C := q.1) (T := q.2.1) (N := q.2.2) (own := q.1) (ref := q.1) hx hb hts (tp_lay hq) (by rw [← hc]; exact hown) hK.1 hP a (tp_ws_at _ _ _ _ _ _ ha) hq k hk (hts _ (tp_fl hq hm)) (fun x h => by rw [hT] at h; exact h) ?_ hd (kk l G p e s m args below meth c A H locs als hA hP hS hl)
  simp [List.getElem?_mapIdx, hf, tp_fd]
theorem tp_r_getI {idx k a o : Nat} {q : vw_C} {fs : List (Option Nat)} (hq : tp_cl[o]? = some q) (hc : (tp_y M).cls = q.1) (hk : k < q.2.2) (hm : (o, idx, k) ∈ tp_flT) (hT : (q.2.1 k).1 = q.1) (ha : sh[a]? = some (.inl (o, fs))) (hf : fs[k]? = some none) (hd : decode (tp_b M) pc = .ok (.getfield idx, 3)) (kk : tp_W sh M (pc + 3) ls (.int (σ.1 a k) :: st) σ Q) : tp_W sh M pc ls (.ref a :: st) σ Q := by
  intro l G p e s m args below meth c A H locs als hA hP hS hl
  have hA' := hA
  obtain ⟨hx, hb, hr, hml, hown, hts, hK, hlk, hAs, hinj, hAin⟩ := hA'
  refine va_get (v := .int (σ.1 a k)) (C := q.1) (T := q.2.1) (N := q.2.2) (own := q.1) (ref := q.1) hx hb hts (tp_lay hq) (by rw [← hc]; exact hown) hK.1 hP a (tp_ws_at _ _ _ _ _ _ ha) hq k hk (hts _ (tp_fl hq hm)) (fun x h => by rw [hT] at h; exact h) ?_ hd (kk l G p e s m args below meth c A H locs als hA hP hS hl)
  simp [List.getElem?_mapIdx, hf, tp_fd]
theorem tp_fd_set {ad : Nat → Nat} {g : Nat → Int32} {fs : List (Option Nat)} {k : Nat} {x : Int32} (hf : fs[k]? = some none) : (fs.mapIdx (tp_fd ad g)).set k (.int x) = fs.mapIdx (tp_fd ad (upd g k x)) := by
  have hk : k < fs.length := (List.getElem?_eq_some_iff.mp hf).1
  refine List.ext_getElem? (fun j => ?_)
  by_cases hj : j = k
  · subst hj
    rw [List.getElem?_set_self (by simpa using hk), List.getElem?_mapIdx, hf]
    simp [tp_fd, upd]
  · rw [List.getElem?_set_ne (fun q => hj q.symm), List.getElem?_mapIdx, List.getElem?_mapIdx]
    cases hs : fs[j]? with
    | none => rfl
    | some f => cases f with
      | none => simp [tp_fd, upd, hj]
      | some b => simp [tp_fd]
theorem tp_r_putI {idx k a o : Nat} {x : Int32} {q : vw_C} {fs : List (Option Nat)} {ty : FieldType} (hq : tp_cl[o]? = some q) (hc : (tp_y M).cls = q.1) (hk : k < q.2.2) (hm : (o, idx, k) ∈ tp_flT) (hT : (q.2.1 k).1 = q.1) (hfin : (q.2.1 k).2.2.2 = false) (hty : parseFieldDescriptor (q.2.1 k).2.2.1 = some ty) (hn : narrow ty (.int x) = .int x) (hfit : fits ty (.int x) = true) (ha : sh[a]? = some (.inl (o, fs))) (hf : fs[k]? = some none) (hd : decode (tp_b M) pc = .ok (.putfield idx, 3)) (kk : tp_W sh M (pc + 3) ls st (tp_si σ a k x) Q) : tp_W sh M pc ls (.int x :: .ref a :: st) σ Q := by
  intro l G p e s m args below meth c A H locs als hA hP hS hl
  have hA' := hA
  obtain ⟨hx, hb, hr, hml, hown, hts, hK, hlk, hAs, hinj, hAin⟩ := hA'
  have hkl : k < fs.length := (List.getElem?_eq_some_iff.mp hf).1
  refine va_put (v := .int x) (C := q.1) (T := q.2.1) (N := q.2.2) (own := q.1) (ref := q.1) (ty := ty) hx hb hts (tp_lay hq) (tp_ty0 q.2.1) (tp_ty hq) (tp_nm hq) (by rw [← hc]; exact hown) hK.1 hP (tp_ws_D hinj hAin) hS a (tp_ws_at _ _ _ _ _ _ ha) hq k hk (hts _ (tp_fl hq hm)) (fun x h => by rw [hT] at h; exact h) hfin hty hn hfit (by simpa using hkl) hd (fun H1 locs1 hP1 hD1 hS1 => kk l G p e s m args below meth c A H1 locs1 als hA ?_ hS1 hl)
  rw [tp_ws_set G.2.1 G.2.2 sh σ (tp_si σ a k x) a (.inl (o, fs)) ha _ ?_ ?_] at hP1
  · exact hP1
  · simp only [tp_mk, tp_si, va_up_self]
    rw [tp_fd_set hf]
  · intro j f hj _
    exact tp_mk_up _ _ _ _ _ _ (by simp [tp_si, va_up, hj]) rfl
/-! arrays -/
theorem tp_r_iald {a n : Nat} {i : Int32} (ha : sh[a]? = some (.inr (0, n))) (hin : vp_in i n) (hd : decode (tp_b M) pc = .ok (.iaload, 1)) (kk : tp_W sh M (pc + 1) ls (.int (σ.1 a i.toNatClampNeg) :: st) σ Q) : tp_W sh M pc ls (.int i :: .ref a :: st) σ Q := by
  intro l G p e s m args below meth c A H locs als hA hP hS hl
  exact va_iald (f := σ.1 a) hA.1 hA.2.1 hA.2.2.2.2.2.2.1.1 hP a 0 (tp_ws_at _ _ _ _ _ _ ha) rfl hin hd (kk l G p e s m args below meth c A H locs als hA hP hS hl)
theorem tp_r_zald {a n : Nat} {i : Int32} (ha : sh[a]? = some (.inr (1, n))) (hin : vp_in i n) (hd : decode (tp_b M) pc = .ok (.baload, 1)) (kk : tp_W sh M (pc + 1) ls (.int (σ.1 a i.toNatClampNeg) :: st) σ Q) : tp_W sh M pc ls (.int i :: .ref a :: st) σ Q := by
  intro l G p e s m args below meth c A H locs als hA hP hS hl
  exact va_zald (f := σ.1 a) hA.1 hA.2.1 hA.2.2.2.2.2.2.1.1 hP a 1 (tp_ws_at _ _ _ _ _ _ ha) rfl hin hd (kk l G p e s m args below meth c A H locs als hA hP hS hl)
theorem tp_r_lald {a n : Nat} {i : Int32} (ha : sh[a]? = some (.inr (2, n))) (hin : vp_in i n) (hd : decode (tp_b M) pc = .ok (.laload, 1)) (kk : tp_W sh M (pc + 1) ls (.long (σ.2 a i.toNatClampNeg) :: st) σ Q) : tp_W sh M pc ls (.int i :: .ref a :: st) σ Q := by
  intro l G p e s m args below meth c A H locs als hA hP hS hl
  exact va_lald (f := σ.2 a) hA.1 hA.2.1 hA.2.2.2.2.2.2.1.1 hP a 2 (tp_ws_at _ _ _ _ _ _ ha) rfl hin hd (kk l G p e s m args below meth c A H locs als hA hP hS hl)
theorem tp_r_iast {a n : Nat} {i x : Int32} (ha : sh[a]? = some (.inr (0, n))) (hin : vp_in i n) (hd : decode (tp_b M) pc = .ok (.iastore, 1)) (kk : tp_W sh M (pc + 1) ls st (tp_si σ a i.toNatClampNeg x) Q) : tp_W sh M pc ls (.int x :: .int i :: .ref a :: st) σ Q := by
  intro l G p e s m args below meth c A H locs als hA hP hS hl
  refine va_iast (f := σ.1 a) hA.1 hA.2.1 hA.2.2.2.2.2.2.1.1 hP (tp_ws_D hA.2.2.2.2.2.2.2.2.2.1 hA.2.2.2.2.2.2.2.2.2.2) hS a 0 (tp_ws_at _ _ _ _ _ _ ha) rfl hin hd (fun H1 locs1 hP1 hD1 hS1 => kk l G p e s m args below meth c A H1 locs1 als hA ?_ hS1 hl)
  rw [tp_ws_set G.2.1 G.2.2 sh σ (tp_si σ a i.toNatClampNeg x) a (.inr (0, n)) ha _ ?_ ?_] at hP1
  · exact hP1
  · simp only [tp_mk, tp_si, va_up_self]
  · intro j f hj _
    exact tp_mk_up _ _ _ _ _ _ (by simp [tp_si, va_up, hj]) rfl
theorem tp_r_zast {a n : Nat} {i x : Int32} (ha : sh[a]? = some (.inr (1, n))) (hin : vp_in i n) (hz : x = 0 ∨ x = 1) (hd : decode (tp_b M) pc = .ok (.bastore, 1)) (kk : tp_W sh M (pc + 1) ls st (tp_si σ a i.toNatClampNeg x) Q) : tp_W sh M pc ls (.int x :: .int i :: .ref a :: st) σ Q := by
  intro l G p e s m args below meth c A H locs als hA hP hS hl
  have hx : vp_nar .boolean x = x := by rcases hz with rfl | rfl <;> rfl
  refine va_zast (f := σ.1 a) hA.1 hA.2.1 hA.2.2.2.2.2.2.1.1 hP (tp_ws_D hA.2.2.2.2.2.2.2.2.2.1 hA.2.2.2.2.2.2.2.2.2.2) hS a 1 (tp_ws_at _ _ _ _ _ _ ha) rfl hin hd (fun H1 locs1 hP1 hD1 hS1 => kk l G p e s m args below meth c A H1 locs1 als hA ?_ hS1 hl)
  rw [hx] at hP1
  rw [tp_ws_set G.2.1 G.2.2 sh σ (tp_si σ a i.toNatClampNeg x) a (.inr (1, n)) ha _ ?_ ?_] at hP1
  · exact hP1
  · simp only [tp_mk, tp_si, va_up_self]
  · intro j f hj _
    exact tp_mk_up _ _ _ _ _ _ (by simp [tp_si, va_up, hj]) rfl
theorem tp_r_last {a n : Nat} {i : Int32} {x : Int64} (ha : sh[a]? = some (.inr (2, n))) (hin : vp_in i n) (hd : decode (tp_b M) pc = .ok (.lastore, 1)) (kk : tp_W sh M (pc + 1) ls st (tp_sl σ a i.toNatClampNeg x) Q) : tp_W sh M pc ls (.long x :: .int i :: .ref a :: st) σ Q := by
  intro l G p e s m args below meth c A H locs als hA hP hS hl
  refine va_last (f := σ.2 a) hA.1 hA.2.1 hA.2.2.2.2.2.2.1.1 hP (tp_ws_D hA.2.2.2.2.2.2.2.2.2.1 hA.2.2.2.2.2.2.2.2.2.2) hS a 2 (tp_ws_at _ _ _ _ _ _ ha) rfl hin hd (fun H1 locs1 hP1 hD1 hS1 => kk l G p e s m args below meth c A H1 locs1 als hA ?_ hS1 hl)
  rw [tp_ws_set G.2.1 G.2.2 sh σ (tp_sl σ a i.toNatClampNeg x) a (.inr (2, n)) ha _ ?_ ?_] at hP1
  · exact hP1
  · simp only [tp_mk, tp_sl, va_up_self]
  · intro j f hj _
    exact tp_mk_up _ _ _ _ _ _ rfl (by simp [tp_sl, va_up, hj])
theorem tp_r_alen {a n : Nat} {ty : Nat} (hty : ty < 3) (ha : sh[a]? = some (.inr (ty, n))) (hd : decode (tp_b M) pc = .ok (.arraylength, 1)) (kk : tp_W sh M (pc + 1) ls (.int (nI n) :: st) σ Q) : tp_W sh M pc ls (.ref a :: st) σ Q := by
  intro l G p e s m args below meth c A H locs als hA hP hS hl
  have ht : ∃ t, (tp_tys G.2.2)[ty]? = some (G.2.2 ty, t) := by
    rcases (by omega : ty = 0 ∨ ty = 1 ∨ ty = 2) with rfl | rfl | rfl <;> exact ⟨_, rfl⟩
  obtain ⟨t, ht⟩ := ht
  exact va_alen (v := nI n) hA.1 hA.2.1 hA.2.2.2.2.2.2.1.1 hP a ty (tp_ws_at _ _ _ _ _ _ ha) ht rfl hd (kk l G p e s m args below meth c A H locs als hA hP hS hl)
/-! ends -/
theorem tp_r_ireturn {x : Int32} {ty : FieldType} (hr : tp_rt M = some ty) (hn : narrow ty (.int x) = .int x) (hd : decode (tp_b M) pc = .ok (.ireturn, 1)) (h : Q (some (.int x)) σ) : tp_W sh M pc ls [.int x] σ Q := by
  intro l G p e s m args below meth c A H locs als hA hP hS hl
  exact W.zret (v := x) hA.1 hA.2.1 (hA.2.2.1.trans hr) hn (fun t ht _ => ⟨⟨some (.int x), σ, rfl, h, by rw [ht]; exact hP⟩, hS.F ht⟩) hS.2.2 hd hA.2.2.2.2.2.2.2.1
theorem tp_r_return (hr : tp_rt M = none) (hd : decode (tp_b M) pc = .ok (.return_, 1)) (h : Q none σ) : tp_W sh M pc ls [] σ Q := by
  intro l G p e s m args below meth c A H locs als hA hP hS hl
  exact W.vret hA.1 hA.2.1 (hA.2.2.1.trans hr) (fun t ht _ => ⟨⟨none, σ, rfl, h, by rw [ht]; exact hP⟩, hS.F ht⟩) hS.2.2 hd hA.2.2.2.2.2.2.2.1
end TPF
