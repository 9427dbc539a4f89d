/-! the pure machine's judgement, over the kit's W -/
def tp_Kg (G : tp_G) (s : State) : Prop := va_K G.1 tp_cl (tp_tys G.2.2) s ∧ ∀ w ∈ tp_Nw, va_Nw w s
def tp_Lh (ad : Nat → Nat) (n : Nat) (als : Array Slot) (ls : tp_Ls) : Prop := als.size = n ∧ lv_wf als ∧ ∀ (i : Nat) (v : Value), ls[i]? = some (some v) → als[i]? = some (.val (tp_cv ad v))
def tp_At (G : tp_G) (sh : List tp_E) (M : tp_M) (p : Program) (s : State) (m : MethodId) (args : Array Value) (meth : Method) (c : Code) (A : Nat → Prop) : Prop :=
  p.tables.exec = Jvm.exec ∧ c.code = tp_b M ∧ meth.sig.returnType = tp_rt M ∧ c.maxLocals = tp_ml M ∧ s.vm.findClass (tp_y M).cls = some m.cls ∧ (∀ w ∈ tp_Ts, w.before args s = true) ∧ tp_Kg G s ∧ meth.locks = false ∧ (∀ q, s.heap.size ≤ q → A q) ∧ (∀ i j, i < sh.length → j < sh.length → G.2.1 i = G.2.1 j → i = j) ∧ (∀ i, i < sh.length → A (G.2.1 i))
def tp_Z (G : tp_G) (sh : List tp_E) (Q : tp_Q) (A : Nat → Prop) : Array Value → State → Outcome → State → Prop := fun _ st oc t => (∃ (r : Option Value) (τ : tp_S), oc = .returned (r.map (tp_cv G.2.1)) ∧ Q r τ ∧ va_P G.1 tp_cl (tp_ws G.2.1 G.2.2 sh τ) t.heap) ∧ va_F A st t
def tp_W (sh : List tp_E) (M : tp_M) (pc : Nat) (ls : tp_Ls) (st : List Value) (σ : tp_S) (Q : tp_Q) : Prop :=
  ∀ (l : Launch) (G : tp_G) (p : Program) (e : Env) (s : State) (m : MethodId) (args : Array Value) (below : List Frame) (meth : Method) (c : Code) (A : Nat → Prop) (H : Heap) (locs : List Loc) (als : Array Slot), tp_At G sh M p s m args meth c A → va_P G.1 tp_cl (tp_ws G.2.1 G.2.2 sh σ) H → va_S A s.heap H locs → tp_Lh G.2.1 (tp_ml M) als ls →
    W p l e (tp_rm M) s m args below meth c H locs 0 0 (MQ below (tp_Z G sh Q A) args s 0 0 A) (F0 m pc als (st.map (tp_cv G.2.1)))
/-! locals -/
def tp_pr (ad : Nat → Nat) (ls : tp_Ls) : List (Nat × Value) := (List.range ls.length).filterMap (fun i => match ls[i]? with
  | some (some v) => some (i, tp_cv ad v)
  | _ => none)
theorem tp_pr_mem {ad : Nat → Nat} {ls : tp_Ls} {q : Nat × Value} : q ∈ tp_pr ad ls ↔ ∃ v, ls[q.1]? = some (some v) ∧ q.2 = tp_cv ad v := by
  unfold tp_pr
  rw [List.mem_filterMap]
  constructor
  · rintro ⟨i, -, h⟩
    split at h
    · next v hv =>
      cases h
      exact ⟨v, hv, rfl⟩
    · cases h
  · rintro ⟨v, hv, e⟩
    refine ⟨q.1, List.mem_range.mpr (List.getElem?_eq_some_iff.mp hv).1, ?_⟩
    rw [hv]
    show some (q.1, tp_cv ad v) = some q
    rw [← e]
theorem tp_Lh_has {ad : Nat → Nat} {n : Nat} {als : Array Slot} {ls : tp_Ls} (h : tp_Lh ad n als ls) : lv_has als n (tp_pr ad ls) := ⟨h.1, h.2.1, fun q hq => by
  obtain ⟨v, hv, e⟩ := tp_pr_mem.mp hq
  rw [e]
  exact h.2.2 _ _ hv⟩
def tp_k1 (ls : tp_Ls) : Nat → tp_Ls
  | 0 => ls
  | j + 1 => match ls[j]? with
    | some (some (.long _)) => ls.set j none
    | some (some (.double _)) => ls.set j none
    | _ => ls
def tp_s1 (ls : tp_Ls) (i : Nat) (v : Value) : tp_Ls := (tp_k1 ls i).set i (some v)
def tp_s2 (ls : tp_Ls) (i : Nat) (v : Value) : tp_Ls := ((tp_k1 ls i).set i (some v)).set (i + 1) none
theorem tp_set_none {ls : tp_Ls} {j i : Nat} {w : Value} (h : (ls.set j none)[i]? = some (some w)) : i ≠ j ∧ ls[i]? = some (some w) := by
  by_cases e : i = j
  · subst e
    by_cases hl : i < ls.length
    · rw [List.getElem?_set_self hl] at h; cases h
    · rw [List.getElem?_eq_none (by simpa using hl)] at h; cases h
  · rw [List.getElem?_set_ne (fun q => e q.symm)] at h
    exact ⟨e, h⟩
theorem tp_k1_at {ls : tp_Ls} {i j : Nat} {w : Value} (h : (tp_k1 ls i)[j]? = some (some w)) : ls[j]? = some (some w) ∧ ¬ (j + 1 = i ∧ w.category = 2) := by
  cases i with
  | zero => exact ⟨h, fun q => by omega⟩
  | succ k =>
    simp only [tp_k1] at h
    split at h
    · obtain ⟨a, b⟩ := tp_set_none h
      exact ⟨b, fun q => a (by omega)⟩
    · obtain ⟨a, b⟩ := tp_set_none h
      exact ⟨b, fun q => a (by omega)⟩
    · next h1 h2 =>
      refine ⟨h, fun q => ?_⟩
      have hj : j = k := by omega
      subst hj
      cases w with
      | long x => exact h1 x h
      | double x => exact h2 x h
      | _ => simp [Value.category] at q
theorem tp_set_some {ls : tp_Ls} {j i : Nat} {v w : Value} (h : (ls.set j (some v))[i]? = some (some w)) : (i = j ∧ w = v) ∨ (i ≠ j ∧ ls[i]? = some (some w)) := by
  by_cases e : i = j
  · subst e
    by_cases hl : i < ls.length
    · rw [List.getElem?_set_self hl] at h; cases h; exact Or.inl ⟨rfl, rfl⟩
    · rw [List.getElem?_eq_none (by simpa using hl)] at h; cases h
  · rw [List.getElem?_set_ne (fun q => e q.symm)] at h
    exact Or.inr ⟨e, h⟩
theorem tp_Lh_s1 {ad : Nat → Nat} {n i : Nat} {als : Array Slot} {ls : tp_Ls} {v : Value} (h : lv_has als n ((i, tp_cv ad v) :: (tp_pr ad ls).filter (fun q => !(q.1 == i) && !(q.1 + 1 == i && q.2.category == 2)))) : tp_Lh ad n als (tp_s1 ls i v) := by
  refine ⟨h.1, h.2.1, fun j w hj => ?_⟩
  rcases tp_set_some hj with ⟨rfl, rfl⟩ | ⟨hne, hj⟩
  · exact h.2.2 _ List.mem_cons_self
  · obtain ⟨h1, h2⟩ := tp_k1_at hj
    refine h.2.2 (j, tp_cv ad w) (List.mem_cons_of_mem _ (List.mem_filter.mpr ⟨tp_pr_mem.mpr ⟨w, h1, rfl⟩, ?_⟩))
    simp only [tp_cv_cat, Bool.and_eq_true, Bool.not_eq_true', beq_eq_false_iff_ne, ne_eq, Bool.and_eq_false_iff]
    refine ⟨hne, ?_⟩
    by_cases q : j + 1 = i
    · exact Or.inr (fun z => h2 ⟨q, z⟩)
    · exact Or.inl q
theorem tp_Lh_s2 {ad : Nat → Nat} {n i : Nat} {als : Array Slot} {ls : tp_Ls} {v : Value} (h : lv_has als n ((i, tp_cv ad v) :: (tp_pr ad ls).filter (fun q => !(q.1 == i) && (!(q.1 == i + 1) && !(q.1 + 1 == i && q.2.category == 2))))) : tp_Lh ad n als (tp_s2 ls i v) := by
  refine ⟨h.1, h.2.1, fun j w hj => ?_⟩
  obtain ⟨hn2, hj⟩ := tp_set_none hj
  rcases tp_set_some hj with ⟨rfl, rfl⟩ | ⟨hne, hj⟩
  · exact h.2.2 _ List.mem_cons_self
  · obtain ⟨h1, h2⟩ := tp_k1_at hj
    refine h.2.2 (j, tp_cv ad w) (List.mem_cons_of_mem _ (List.mem_filter.mpr ⟨tp_pr_mem.mpr ⟨w, h1, rfl⟩, ?_⟩))
    simp only [tp_cv_cat, Bool.and_eq_true, Bool.not_eq_true', beq_eq_false_iff_ne, ne_eq, Bool.and_eq_false_iff]
    refine ⟨hne, hn2, ?_⟩
    by_cases q : j + 1 = i
    · exact Or.inr (fun z => h2 ⟨q, z⟩)
    · exact Or.inl q
/-- fewer locals -/
theorem tp_W_ls {sh : List tp_E} {M : tp_M} {pc : Nat} {ls ls' : tp_Ls} {st : List Value} {σ : tp_S} {Q : tp_Q} (h : ∀ (i : Nat) (v : Value), ls'[i]? = some (some v) → ls[i]? = some (some v)) (k : tp_W sh M pc ls' st σ Q) : tp_W sh M pc ls st σ Q :=
  fun l G p e s m args below meth c A H locs als hA hP hS hl => k l G p e s m args below meth c A H locs als hA hP hS ⟨hl.1, hl.2.1, fun i v hv => hl.2.2 i v (h i v hv)⟩
/-- another end -/
theorem tp_W_mono {sh : List tp_E} {M : tp_M} {pc : Nat} {ls : tp_Ls} {st : List Value} {σ : tp_S} {Q Q' : tp_Q} (h : ∀ r τ, Q r τ → Q' r τ) (k : tp_W sh M pc ls st σ Q) : tp_W sh M pc ls st σ Q' := by
  intro l G p e s m args below meth c A H locs als hA hP hS hl T hT X
  obtain ⟨t, a, o, b1, b2, ⟨⟨r, τ, c1, c2, c3⟩, c4⟩, b4⟩ := k l G p e s m args below meth c A H locs als hA hP hS hl T hT X
  exact ⟨t, a, o, b1, b2, ⟨⟨r, τ, c1, h r τ c2, c3⟩, c4⟩, b4⟩
section TPR
variable {sh : List tp_E} {M : tp_M} {pc pc' : Nat} {ls ls' : tp_Ls} {st st' : List Value} {σ τ : tp_S} {Q : tp_Q}
theorem tp_pure (h : ∀ {p : Program} {l : Launch} {e : Env} {R : Room} {s : State} {m : MethodId} {args : Array Value} {below : List Frame} {meth : Method} {c : Code} {H : Heap} {locs : List Loc} {cells slots : Nat} {Q' : State → Prop} {als : Array Slot} {ad : Nat → Nat}, p.tables.exec = Jvm.exec → c.code = tp_b M → W p l e R s m args below meth c H locs cells slots Q' (F0 m pc' als (st'.map (tp_cv ad))) → W p l e R s m args below meth c H locs cells slots Q' (F0 m pc als (st.map (tp_cv ad)))) (k : tp_W sh M pc' ls st' σ Q) : tp_W sh M pc ls st σ Q :=
  fun l G p e s m args below meth c A H locs als hA hP hS hl => h hA.1 hA.2.1 (k l G p e s m args below meth c A H locs als hA hP hS hl)
theorem tp_r_iload {i : Nat} {x : Int32} (hv : ls[i]? = some (some (.int x))) (hd : decode (tp_b M) pc = .ok (.iload i, 2)) (k : tp_W sh M (pc + 2) ls (.int x :: st) σ Q) : tp_W sh M pc ls st σ Q :=
  fun l G p e s m args below meth c A H locs als hA hP hS hl => lv_iload hA.1 hA.2.1 hd (hl.2.2 _ _ hv) (k l G p e s m args below meth c A H locs als hA hP hS hl)
theorem tp_r_iload_n {i : Fin 4} {x : Int32} (hv : ls[i.val]? = some (some (.int x))) (hd : decode (tp_b M) pc = .ok (.iload_n i, 1)) (k : tp_W sh M (pc + 1) ls (.int x :: st) σ Q) : tp_W sh M pc ls st σ Q :=
  fun l G p e s m args below meth c A H locs als hA hP hS hl => lv_iload_n hA.1 hA.2.1 hd rfl (hl.2.2 _ _ hv) (k l G p e s m args below meth c A H locs als hA hP hS hl)
theorem tp_r_lload {i : Nat} {x : Int64} (hv : ls[i]? = some (some (.long x))) (hd : decode (tp_b M) pc = .ok (.lload i, 2)) (k : tp_W sh M (pc + 2) ls (.long x :: st) σ Q) : tp_W sh M pc ls st σ Q :=
  fun l G p e s m args below meth c A H locs als hA hP hS hl => lv_lload hA.1 hA.2.1 hd (hl.2.2 _ _ hv) (k l G p e s m args below meth c A H locs als hA hP hS hl)
theorem tp_r_lload_n {i : Fin 4} {x : Int64} (hv : ls[i.val]? = some (some (.long x))) (hd : decode (tp_b M) pc = .ok (.lload_n i, 1)) (k : tp_W sh M (pc + 1) ls (.long x :: st) σ Q) : tp_W sh M pc ls st σ Q :=
  fun l G p e s m args below meth c A H locs als hA hP hS hl => lv_lload_n hA.1 hA.2.1 hd rfl (hl.2.2 _ _ hv) (k l G p e s m args below meth c A H locs als hA hP hS hl)
theorem tp_r_aload {i : Nat} {x : Nat} (hv : ls[i]? = some (some (.ref x))) (hd : decode (tp_b M) pc = .ok (.aload i, 2)) (k : tp_W sh M (pc + 2) ls (.ref x :: st) σ Q) : tp_W sh M pc ls st σ Q :=
  fun l G p e s m args below meth c A H locs als hA hP hS hl => lv_aload hA.1 hA.2.1 hd (hl.2.2 _ _ hv) (k l G p e s m args below meth c A H locs als hA hP hS hl)
theorem tp_r_aload_n {i : Fin 4} {x : Nat} (hv : ls[i.val]? = some (some (.ref x))) (hd : decode (tp_b M) pc = .ok (.aload_n i, 1)) (k : tp_W sh M (pc + 1) ls (.ref x :: st) σ Q) : tp_W sh M pc ls st σ Q :=
  fun l G p e s m args below meth c A H locs als hA hP hS hl => lv_aload_n hA.1 hA.2.1 hd rfl (hl.2.2 _ _ hv) (k l G p e s m args below meth c A H locs als hA hP hS hl)
theorem tp_r_istore {i : Nat} {x : Int32} (hi : i < tp_ml M) (hd : decode (tp_b M) pc = .ok (.istore i, 2)) (k : tp_W sh M (pc + 2) (tp_s1 ls i (.int x)) st σ Q) : tp_W sh M pc ls (.int x :: st) σ Q :=
  fun l G p e s m args below meth c A H locs als hA hP hS hl => lv_istore hA.1 hA.2.1 hd (tp_Lh_has hl) hi rfl (fun als' h' => k l G p e s m args below meth c A H locs als' hA hP hS (tp_Lh_s1 (v := .int x) h'))
theorem tp_r_istore_n {i : Fin 4} {x : Int32} (hi : i.val < tp_ml M) (hd : decode (tp_b M) pc = .ok (.istore_n i, 1)) (k : tp_W sh M (pc + 1) (tp_s1 ls i.val (.int x)) st σ Q) : tp_W sh M pc ls (.int x :: st) σ Q :=
  fun l G p e s m args below meth c A H locs als hA hP hS hl => lv_istore_n hA.1 hA.2.1 hd rfl (tp_Lh_has hl) hi rfl (fun als' h' => k l G p e s m args below meth c A H locs als' hA hP hS (tp_Lh_s1 (v := .int x) h'))
theorem tp_r_astore {i : Nat} {x : Nat} (hi : i < tp_ml M) (hd : decode (tp_b M) pc = .ok (.astore i, 2)) (k : tp_W sh M (pc + 2) (tp_s1 ls i (.ref x)) st σ Q) : tp_W sh M pc ls (.ref x :: st) σ Q :=
  fun l G p e s m args below meth c A H locs als hA hP hS hl => lv_astore hA.1 hA.2.1 hd (tp_Lh_has hl) hi rfl (fun als' h' => k l G p e s m args below meth c A H locs als' hA hP hS (tp_Lh_s1 (v := .ref x) h'))
theorem tp_r_astore_n {i : Fin 4} {x : Nat} (hi : i.val < tp_ml M) (hd : decode (tp_b M) pc = .ok (.astore_n i, 1)) (k : tp_W sh M (pc + 1) (tp_s1 ls i.val (.ref x)) st σ Q) : tp_W sh M pc ls (.ref x :: st) σ Q :=
  fun l G p e s m args below meth c A H locs als hA hP hS hl => lv_astore_n hA.1 hA.2.1 hd rfl (tp_Lh_has hl) hi rfl (fun als' h' => k l G p e s m args below meth c A H locs als' hA hP hS (tp_Lh_s1 (v := .ref x) h'))
theorem tp_r_lstore {i : Nat} {x : Int64} (hi : i + 1 < tp_ml M) (hd : decode (tp_b M) pc = .ok (.lstore i, 2)) (k : tp_W sh M (pc + 2) (tp_s2 ls i (.long x)) st σ Q) : tp_W sh M pc ls (.long x :: st) σ Q :=
  fun l G p e s m args below meth c A H locs als hA hP hS hl => lv_lstore hA.1 hA.2.1 hd (tp_Lh_has hl) hi rfl (fun als' h' => k l G p e s m args below meth c A H locs als' hA hP hS (tp_Lh_s2 (v := .long x) h'))
theorem tp_r_lstore_n {i : Fin 4} {x : Int64} (hi : i.val + 1 < tp_ml M) (hd : decode (tp_b M) pc = .ok (.lstore_n i, 1)) (k : tp_W sh M (pc + 1) (tp_s2 ls i.val (.long x)) st σ Q) : tp_W sh M pc ls (.long x :: st) σ Q :=
  fun l G p e s m args below meth c A H locs als hA hP hS hl => lv_lstore_n hA.1 hA.2.1 hd rfl (tp_Lh_has hl) hi rfl (fun als' h' => k l G p e s m args below meth c A H locs als' hA hP hS (tp_Lh_s2 (v := .long x) h'))
theorem tp_r_iinc {i : Nat} {n : Int} {x v : Int32} (hi : i < tp_ml M) (hv : ls[i]? = some (some (.int x))) (hn : Int32.ofInt n = v) (hd : decode (tp_b M) pc = .ok (.iinc i n, 3)) (k : tp_W sh M (pc + 3) (tp_s1 ls i (.int (x + v))) st σ Q) : tp_W sh M pc ls st σ Q :=
  fun l G p e s m args below meth c A H locs als hA hP hS hl => by
    have hm : (i, Value.int x) ∈ tp_pr G.2.1 ls := tp_pr_mem.mpr ⟨.int x, hv, rfl⟩
    obtain ⟨k0, hk0⟩ := List.getElem?_of_mem hm
    exact lv_iinc hA.1 hA.2.1 hd (tp_Lh_has hl) hk0 (by rw [hn]) hi rfl (fun als' h' => k l G p e s m args below meth c A H locs als' hA hP hS (tp_Lh_s1 (v := .int (x + v)) h'))
end TPR
