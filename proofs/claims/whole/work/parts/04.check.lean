/-- the links of fields: class, place in its pool, field -/
def tp_flT : List (Nat × Nat × Nat) := [(0, 9, 0), (0, 15, 1), (0, 18, 2), (0, 21, 4), (0, 29, 3), (1, 11, 4), (1, 15, 5), (1, 19, 0), (1, 23, 1), (1, 27, 2), (1, 31, 3), (2, 9, 1), (2, 15, 2), (2, 18, 0), (3, 11, 1), (3, 15, 2), (3, 18, 3), (3, 21, 4), (3, 24, 5), (3, 27, 0), (3, 31, 6), (3, 35, 7), (3, 38, 8), (4, 11, 1), (4, 15, 2), (4, 18, 3), (4, 21, 0), (4, 29, 4), (4, 33, 7), (4, 36, 5), (4, 39, 6), (5, 9, 0), (5, 21, 1), (6, 11, 2), (6, 15, 3), (6, 18, 4), (6, 21, 5), (6, 24, 0), (6, 28, 1), (6, 43, 6), (6, 47, 7), (7, 12, 0), (7, 21, 1), (7, 28, 2), (7, 37, 3), (7, 46, 4), (7, 55, 5), (7, 62, 6), (7, 66, 7), (8, 7, 1), (8, 13, 2), (8, 16, 3), (8, 19, 6), (8, 22, 10), (8, 26, 11), (8, 29, 12), (8, 32, 13), (8, 35, 14), (8, 38, 15), (8, 41, 17), (8, 44, 18), (8, 47, 20), (8, 50, 21), (8, 53, 22), (8, 56, 23), (8, 59, 24), (8, 62, 26), (8, 65, 29), (8, 68, 0), (8, 72, 5), (8, 76, 4), (8, 79, 8), (8, 82, 7), (8, 101, 16), (8, 104, 9), (8, 121, 31), (8, 131, 19), (8, 147, 25), (8, 184, 28), (8, 187, 27), (8, 190, 30)]
def tp_flq (e : Nat × Nat × Nat) : Bool := match tp_cl[e.1]? with
  | some q => decide (Cond.fieldLink q.1 e.2.1 q.1 (q.2.1 e.2.2).2.1 (q.2.1 e.2.2).2.2.1 ∈ tables_1)
  | none => false
set_option maxRecDepth 100000 in
theorem tp_flT_ok : tp_flT.all tp_flq = true := by decide +kernel
/-! what is read beside an instruction is what the instruction says -/
def tp_sd (M : tp_M) (pc : Nat) (N : tp_N) (len : Nat) : Bool := match N.1 with
  | .iconst n => decide (Int32.ofInt n = N.2.1) && decide (len = 1)
  | .bipush n => decide ((Int8.ofInt n).toInt32 = N.2.1) && decide (len = 2)
  | .sipush n => decide ((Int16.ofInt n).toInt32 = N.2.1) && decide (len = 3)
  | .ldc _ => decide (len = 2)
  | .ldc2_w _ => decide (len = 3)
  | .iload _ | .lload _ | .aload _ => decide (len = 2)
  | .istore k | .lstore k | .astore k => decide (len = 2) && decide (k + 1 < tp_ml M + 1)
  | .istore_n k | .lstore_n k | .astore_n k => decide (len = 1) && decide (k.val < tp_ml M)
  | .iinc k n => decide (Int32.ofInt n = N.2.1) && decide (k < tp_ml M) && decide (len = 3)
  | .ifCond _ off => decide ((pc : Int) + off = (N.2.2.1 : Int)) && decide (len = 3)
  | .if_icmp _ off => decide ((pc : Int) + off = (N.2.2.1 : Int)) && decide (len = 3)
  | .goto off => decide ((pc : Int) + off = (N.2.2.1 : Int)) && decide (len = 3)
  | .getfield idx => (match tp_cl[tp_o M]? with
    | some q => decide ((tp_y M).cls = q.1) && decide (N.2.2.1 < q.2.2) && decide ((q.2.1 N.2.2.1).1 = q.1) && decide ((tp_o M, idx, N.2.2.1) ∈ tp_flT)
    | none => false) && decide (len = 3)
  | .putfield idx => (match tp_cl[tp_o M]? with
    | some q => decide ((tp_y M).cls = q.1) && decide (N.2.2.1 < q.2.2) && decide ((q.2.1 N.2.2.1).1 = q.1) && decide ((q.2.1 N.2.2.1).2.2.2 = false) && decide ((q.2.1 N.2.2.1).2.2.1 = (if N.2.2.2 = [] then "I" else "Z")) && decide ((tp_o M, idx, N.2.2.1) ∈ tp_flT)
    | none => false) && decide (len = 3)
  | .invokevirtual _ | .invokestatic _ => decide (len = 3)
  | .tableswitch d lo hi offs => decide ((pc : Int) + d = (N.2.2.1 : Int)) && decide (N.2.2.2.map (fun q => q.1.toInt) = (List.range offs.size).map (fun j : Nat => lo + (j : Int))) && decide (N.2.2.2.map (fun q => (q.2 : Int)) = offs.toList.map (fun o => (pc : Int) + o)) && decide (hi = lo + (offs.size : Int) - 1)
  | .lookupswitch d ps => decide ((pc : Int) + d = (N.2.2.1 : Int)) && decide (N.2.2.2.map (fun q => q.1.toInt) = ps.toList.map (fun q => q.1)) && decide (N.2.2.2.map (fun q => (q.2 : Int)) = ps.toList.map (fun q => (pc : Int) + q.2)) && decide ((ps.toList.zip (ps.toList.drop 1)).all (fun (a, next) => a.1 < next.1) = true)
  | _ => decide (len = 1)
def tp_chk (M : tp_M) (pc : Nat) : Bool := match tp_c M pc with
  | none => true
  | some N => match decode (tp_b M) pc with
    | .ok (i, len) => decide (i = N.1) && tp_sd M pc N len
    | .error _ => false
def tp_good (M : tp_M) : Bool := (List.range (tp_n M)).all (tp_chk M) && decide (Cond.code (tp_y M) (tp_b M) (tp_ml M) (tp_rt M) ∈ tables_1) && decide (plainName (tp_y M).cls = true)
theorem tp_good_at {M : tp_M} (h : tp_good M = true) {pc : Nat} {N : tp_N} (hi : tp_in M pc = some N) : ∃ len, decode (tp_b M) pc = .ok (N.1, len) ∧ tp_sd M pc N len = true := by
  unfold tp_good at h
  simp only [Bool.and_eq_true] at h
  unfold tp_in at hi
  cases hb : Nat.blt pc (tp_n M) with
  | false => rw [hb] at hi; cases hi
  | true =>
    rw [hb] at hi
    have hlt : pc < tp_n M := by simpa [Nat.blt_eq] using hb
    have h1 := List.all_eq_true.mp h.1.1 pc (List.mem_range.mpr hlt)
    unfold tp_chk at h1
    have hi' : tp_c M pc = some N := hi
    rw [hi'] at h1
    cases hd : decode (tp_b M) pc with
    | error e => simp [hd] at h1
    | ok q =>
      obtain ⟨i, len⟩ := q
      simp only [hd, Bool.and_eq_true, decide_eq_true_eq] at h1
      exact ⟨len, by rw [h1.1], h1.2⟩
