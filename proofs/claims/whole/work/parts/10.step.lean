/-! one instruction of the pure machine, as what must hold before it -/
def tp_Qi (K : Int32 → tp_S → Prop) : tp_Q := fun r τ => match r with
  | some (.int x) => K x τ
  | _ => False
def tp_Qv (K : tp_S → Prop) : tp_Q := fun r τ => match r with
  | none => K τ
  | some _ => False
def tp_i1 (st : List Value) (k : Int32 → List Value → Prop) : Prop := match st with
  | .int x :: r => k x r
  | _ => False
def tp_i2 (st : List Value) (k : Int32 → Int32 → List Value → Prop) : Prop := match st with
  | .int y :: .int x :: r => k x y r
  | _ => False
def tp_l1 (st : List Value) (k : Int64 → List Value → Prop) : Prop := match st with
  | .long x :: r => k x r
  | _ => False
def tp_l2 (st : List Value) (k : Int64 → Int64 → List Value → Prop) : Prop := match st with
  | .long y :: .long x :: r => k x y r
  | _ => False
def tp_li (st : List Value) (k : Int64 → Int32 → List Value → Prop) : Prop := match st with
  | .int y :: .long x :: r => k x y r
  | _ => False
def tp_c1 (st : List Value) (k : Value → List Value → Prop) : Prop := match st with
  | v :: r => (match v.category with
    | 1 => k v r
    | _ => False)
  | _ => False
def tp_r1 (st : List Value) (k : Nat → List Value → Prop) : Prop := match st with
  | .ref a :: r => k a r
  | _ => False
def tp_li0 (ls : tp_Ls) (i : Nat) (k : Int32 → Prop) : Prop := match ls[i]? with
  | some (some (.int x)) => k x
  | _ => False
def tp_ll0 (ls : tp_Ls) (i : Nat) (k : Int64 → Prop) : Prop := match ls[i]? with
  | some (some (.long x)) => k x
  | _ => False
def tp_lr0 (ls : tp_Ls) (i : Nat) (k : Nat → Prop) : Prop := match ls[i]? with
  | some (some (.ref x)) => k x
  | _ => False
def tp_ar (sh : List tp_E) (a kind : Nat) (k : Nat → Prop) : Prop := match sh[a]? with
  | some (.inr e) => (match Nat.beq e.1 kind with
    | true => k e.2
    | false => False)
  | _ => False
def tp_ob (sh : List tp_E) (a o : Nat) (k : List (Option Nat) → Prop) : Prop := match sh[a]? with
  | some (.inl e) => (match Nat.beq e.1 o with
    | true => k e.2
    | false => False)
  | _ => False
def tp_sw (x : Int32) (K : Nat → Prop) (d : Nat) : List (Int32 × Nat) → Prop
  | [] => K d
  | (v, t) :: r => (x = v → K t) ∧ (¬ x = v → tp_sw x K d r)
def tp_if (b : Bool) (k : Prop) : Prop := match b with
  | true => k
  | false => False
def tp_call (sh : List tp_E) (M M' : tp_M) (vs r : List Value) (σ : tp_S) (K : List Value → tp_S → Prop) : Prop :=
  tp_if (Nat.ble (tp_f M' + 1) (tp_f M) && (Nat.ble (8 + (tp_ml M' + 11) + tp_w M') (tp_w M) && (Nat.ble (r.map fun v => v.category).sum 8 && Nat.ble (tp_words vs) (tp_ml M')))) (match tp_rt M' with
    | none => tp_W sh M' 0 (tp_en (tp_ml M') vs) [] σ (tp_Qv fun τ => K r τ)
    | some _ => tp_W sh M' 0 (tp_en (tp_ml M') vs) [] σ (tp_Qi fun x τ => K (.int x :: r) τ))
def tp_step (sh : List tp_E) (M : tp_M) (Q : tp_Q) (N : tp_N) (pc : Nat) (ls : tp_Ls) (st : List Value) (σ : tp_S) (K : Nat → tp_Ls → List Value → tp_S → Prop) : Prop := match N.1 with
  | .iconst _ => K (pc + 1) ls (.int N.2.1 :: st) σ
  | .bipush _ => K (pc + 2) ls (.int N.2.1 :: st) σ
  | .sipush _ => K (pc + 3) ls (.int N.2.1 :: st) σ
  | .lconst n => K (pc + 1) ls (.long (match n with
    | 0 => 0
    | 1 => 1) :: st) σ
  | .ldc idx => tp_if (Nat.beq (tp_o M) 1 && Nat.beq idx 51) (K (pc + 2) ls (.int 238002 :: st) σ)
  | .ldc2_w idx => tp_if (Nat.beq (tp_o M) 9) (match idx with
    | 314 => K (pc + 3) ls (.long 6148914691236517205 :: st) σ
    | 316 => K (pc + 3) ls (.long 3689348814741910323 :: st) σ
    | 318 => K (pc + 3) ls (.long 1085102592571150095 :: st) σ
    | _ => False)
  | .iload i => tp_li0 ls i fun x => K (pc + 2) ls (.int x :: st) σ
  | .iload_n i => tp_li0 ls i.val fun x => K (pc + 1) ls (.int x :: st) σ
  | .lload i => tp_ll0 ls i fun x => K (pc + 2) ls (.long x :: st) σ
  | .lload_n i => tp_ll0 ls i.val fun x => K (pc + 1) ls (.long x :: st) σ
  | .aload i => tp_lr0 ls i fun x => K (pc + 2) ls (.ref x :: st) σ
  | .aload_n i => tp_lr0 ls i.val fun x => K (pc + 1) ls (.ref x :: st) σ
  | .istore i => tp_i1 st fun x r => K (pc + 2) (tp_s1 ls i (.int x)) r σ
  | .istore_n i => tp_i1 st fun x r => K (pc + 1) (tp_s1 ls i.val (.int x)) r σ
  | .lstore i => tp_if (Nat.blt (i + 1) (tp_ml M)) (tp_l1 st fun x r => K (pc + 2) (tp_s2 ls i (.long x)) r σ)
  | .lstore_n i => tp_if (Nat.blt (i.val + 1) (tp_ml M)) (tp_l1 st fun x r => K (pc + 1) (tp_s2 ls i.val (.long x)) r σ)
  | .astore i => tp_r1 st fun x r => K (pc + 2) (tp_s1 ls i (.ref x)) r σ
  | .astore_n i => tp_r1 st fun x r => K (pc + 1) (tp_s1 ls i.val (.ref x)) r σ
  | .iinc i _ => tp_li0 ls i fun x => K (pc + 3) (tp_s1 ls i (.int (x + N.2.1))) st σ
  | .iadd => tp_i2 st fun x y r => K (pc + 1) ls (.int (x + y) :: r) σ
  | .isub => tp_i2 st fun x y r => K (pc + 1) ls (.int (x - y) :: r) σ
  | .imul => tp_i2 st fun x y r => K (pc + 1) ls (.int (x * y) :: r) σ
  | .idiv => tp_i2 st fun x y r => ¬ y = 0 ∧ K (pc + 1) ls (.int (x / y) :: r) σ
  | .irem => tp_i2 st fun x y r => ¬ y = 0 ∧ K (pc + 1) ls (.int (x - x / y * y) :: r) σ
  | .iand => tp_i2 st fun x y r => K (pc + 1) ls (.int (x &&& y) :: r) σ
  | .ior => tp_i2 st fun x y r => K (pc + 1) ls (.int (x ||| y) :: r) σ
  | .ishl => tp_i2 st fun x y r => K (pc + 1) ls (.int (x <<< (y &&& 31)) :: r) σ
  | .ishr => tp_i2 st fun x y r => K (pc + 1) ls (.int (x >>> (y &&& 31)) :: r) σ
  | .iushr => tp_i2 st fun x y r => K (pc + 1) ls (.int (x.toUInt32 >>> (y.toUInt32 &&& Int32.toUInt32 31)).toInt32 :: r) σ
  | .ladd => tp_l2 st fun x y r => K (pc + 1) ls (.long (x + y) :: r) σ
  | .lsub => tp_l2 st fun x y r => K (pc + 1) ls (.long (x - y) :: r) σ
  | .land => tp_l2 st fun x y r => K (pc + 1) ls (.long (x &&& y) :: r) σ
  | .lor => tp_l2 st fun x y r => K (pc + 1) ls (.long (x ||| y) :: r) σ
  | .lushr => tp_li st fun x y r => K (pc + 1) ls (.long (x.toUInt64 >>> (y.toInt64.toUInt64 &&& Int64.toUInt64 63)).toInt64 :: r) σ
  | .lshl => tp_li st fun x y r => K (pc + 1) ls (.long (x <<< (y.toInt64 &&& 63)) :: r) σ
  | .lcmp => tp_l2 st fun x y r => K (pc + 1) ls (.int (lg_cmp x y) :: r) σ
  | .l2i => tp_l1 st fun x r => K (pc + 1) ls (.int x.toInt32 :: r) σ
  | .i2l => tp_i1 st fun x r => K (pc + 1) ls (.long x.toInt64 :: r) σ
  | .dup => tp_c1 st fun v r => K (pc + 1) ls (v :: v :: r) σ
  | .dup2 => tp_c1 st fun v r => tp_c1 r fun w r => K (pc + 1) ls (v :: w :: v :: w :: r) σ
  | .pop => tp_c1 st fun _ r => K (pc + 1) ls r σ
  | .getfield _ => tp_r1 st fun a r => tp_ob sh a (tp_o M) fun fs => match fs[N.2.2.1]? with
    | some (some b) => K (pc + 3) ls (.ref b :: r) σ
    | some none => K (pc + 3) ls (.int (σ.1 a N.2.2.1) :: r) σ
    | none => False
  | .putfield _ => tp_i1 st fun x r => tp_r1 r fun a r => tp_ob sh a (tp_o M) fun fs => match fs[N.2.2.1]? with
    | some none => (match N.2.2.2 with
      | [] => K (pc + 3) ls r (tp_si σ a N.2.2.1 x)
      | _ :: _ => (x = 0 ∨ x = 1) ∧ K (pc + 3) ls r (tp_si σ a N.2.2.1 x))
    | _ => False
  | .iaload => tp_i1 st fun i r => tp_r1 r fun a r => tp_ar sh a 0 fun n => vp_in i n ∧ K (pc + 1) ls (.int (σ.1 a i.toNatClampNeg) :: r) σ
  | .baload => tp_i1 st fun i r => tp_r1 r fun a r => tp_ar sh a 1 fun n => vp_in i n ∧ K (pc + 1) ls (.int (σ.1 a i.toNatClampNeg) :: r) σ
  | .laload => tp_i1 st fun i r => tp_r1 r fun a r => tp_ar sh a 2 fun n => vp_in i n ∧ K (pc + 1) ls (.long (σ.2 a i.toNatClampNeg) :: r) σ
  | .iastore => tp_i2 st fun i x r => tp_r1 r fun a r => tp_ar sh a 0 fun n => vp_in i n ∧ K (pc + 1) ls r (tp_si σ a i.toNatClampNeg x)
  | .bastore => tp_i2 st fun i x r => tp_r1 r fun a r => tp_ar sh a 1 fun n => vp_in i n ∧ (x = 0 ∨ x = 1) ∧ K (pc + 1) ls r (tp_si σ a i.toNatClampNeg x)
  | .lastore => tp_l1 st fun x r => tp_i1 r fun i r => tp_r1 r fun a r => tp_ar sh a 2 fun n => vp_in i n ∧ K (pc + 1) ls r (tp_sl σ a i.toNatClampNeg x)
  | .arraylength => tp_r1 st fun a r => match sh[a]? with
    | some (.inr e) => tp_if (Nat.blt e.1 3) (K (pc + 1) ls (.int (nI e.2) :: r) σ)
    | _ => False
  | .goto _ => K N.2.2.1 ls st σ
  | .ifCond c _ => tp_i1 st fun x r => (match c with
    | .eq => (x = 0 → K N.2.2.1 ls r σ) ∧ (¬ x = 0 → K (pc + 3) ls r σ)
    | .ne => (¬ x = 0 → K N.2.2.1 ls r σ) ∧ (x = 0 → K (pc + 3) ls r σ)
    | .lt => (x < 0 → K N.2.2.1 ls r σ) ∧ (¬ x < 0 → K (pc + 3) ls r σ)
    | .ge => (0 ≤ x → K N.2.2.1 ls r σ) ∧ (¬ 0 ≤ x → K (pc + 3) ls r σ)
    | .gt => (0 < x → K N.2.2.1 ls r σ) ∧ (¬ 0 < x → K (pc + 3) ls r σ)
    | .le => (x ≤ 0 → K N.2.2.1 ls r σ) ∧ (¬ x ≤ 0 → K (pc + 3) ls r σ))
  | .if_icmp c _ => tp_i2 st fun x y r => (match c with
    | .eq => (x = y → K N.2.2.1 ls r σ) ∧ (¬ x = y → K (pc + 3) ls r σ)
    | .ne => (¬ x = y → K N.2.2.1 ls r σ) ∧ (x = y → K (pc + 3) ls r σ)
    | .lt => (x < y → K N.2.2.1 ls r σ) ∧ (¬ x < y → K (pc + 3) ls r σ)
    | .ge => (y ≤ x → K N.2.2.1 ls r σ) ∧ (¬ y ≤ x → K (pc + 3) ls r σ)
    | .gt => (y < x → K N.2.2.1 ls r σ) ∧ (¬ y < x → K (pc + 3) ls r σ)
    | .le => (x ≤ y → K N.2.2.1 ls r σ) ∧ (¬ x ≤ y → K (pc + 3) ls r σ))
  | .tableswitch _ _ _ _ => tp_i1 st fun x r => tp_sw x (fun t => K t ls r σ) N.2.2.1 N.2.2.2
  | .lookupswitch _ _ => tp_i1 st fun x r => tp_sw x (fun t => K t ls r σ) N.2.2.1 N.2.2.2
  | .ireturn => tp_i1 st fun x r => (match r with
    | [] => (match tp_rt M with
      | some .int => Q (some (.int x)) σ
      | some .boolean => (x = 0 ∨ x = 1) ∧ Q (some (.int x)) σ
      | _ => False)
    | _ => False)
  | .return_ => (match st with
    | [] => (match tp_rt M with
      | none => Q none σ
      | _ => False)
    | _ => False)
  | .invokevirtual idx => tp_r1 (st.drop N.2.2.1) fun a r => match sh[a]? with
    | some (.inl e) => (match (tp_cvT (tp_o M)).find? (fun c => Nat.beq c.1 idx && (Nat.beq c.2.1 e.1 && Nat.beq c.2.2.1 N.2.2.1)) with
      | some c => tp_call sh M c.2.2.2.2 (.ref a :: (st.take N.2.2.1).reverse) r σ (fun st' τ => K (pc + 3) ls st' τ)
      | none => False)
    | _ => False
  | .invokestatic idx => (match tp_mx (tp_o M) idx with
    | true => tp_if (Nat.ble 1 (tp_f M) && Nat.ble ((st.map fun v => v.category).sum + 13) (tp_w M)) (tp_i2 st fun x y r => K (pc + 3) ls (.int (if x < y then y else x) :: r) σ)
    | false => (match tp_ac (tp_o M) idx with
      | true => tp_if (Nat.ble 1 (tp_f M) && Nat.ble ((st.map fun v => v.category).sum + (nativeFrameWords "java/lang/System" "arraycopy" 5 + 11)) (tp_w M)) (tp_i2 st fun dp n r => tp_r1 r fun a r => tp_i1 r fun sp r => tp_r1 r fun a0 r => tp_ar sh a0 2 fun n0 => tp_ar sh a 2 fun n1 => ¬ sp < 0 ∧ ¬ dp < 0 ∧ ¬ n < 0 ∧ sp.toNatClampNeg + n.toNatClampNeg ≤ n0 ∧ dp.toNatClampNeg + n.toNatClampNeg ≤ n1 ∧ K (pc + 3) ls r (tp_sL σ a (va_cpy (σ.2 a0) (σ.2 a) sp.toNatClampNeg dp.toNatClampNeg n.toNatClampNeg)))
      | false => (match (tp_csT (tp_o M)).find? (fun c => Nat.beq c.1 idx && Nat.beq c.2.1 N.2.2.1) with
        | some c => tp_if (Nat.ble N.2.2.1 st.length) (tp_call sh M c.2.2.2 (st.take N.2.2.1).reverse (st.drop N.2.2.1) σ (fun st' τ => K (pc + 3) ls st' τ))
        | none => False)))
  | _ => False
/-! what they say -/
theorem tp_i1_e {st : List Value} {k : Int32 → List Value → Prop} (h : tp_i1 st k) : ∃ x r, st = .int x :: r ∧ k x r := by
  unfold tp_i1 at h; split at h
  · exact ⟨_, _, rfl, h⟩
  · exact h.elim
theorem tp_i2_e {st : List Value} {k : Int32 → Int32 → List Value → Prop} (h : tp_i2 st k) : ∃ x y r, st = .int y :: .int x :: r ∧ k x y r := by
  unfold tp_i2 at h; split at h
  · exact ⟨_, _, _, rfl, h⟩
  · exact h.elim
theorem tp_l1_e {st : List Value} {k : Int64 → List Value → Prop} (h : tp_l1 st k) : ∃ x r, st = .long x :: r ∧ k x r := by
  unfold tp_l1 at h; split at h
  · exact ⟨_, _, rfl, h⟩
  · exact h.elim
theorem tp_l2_e {st : List Value} {k : Int64 → Int64 → List Value → Prop} (h : tp_l2 st k) : ∃ x y r, st = .long y :: .long x :: r ∧ k x y r := by
  unfold tp_l2 at h; split at h
  · exact ⟨_, _, _, rfl, h⟩
  · exact h.elim
theorem tp_li_e {st : List Value} {k : Int64 → Int32 → List Value → Prop} (h : tp_li st k) : ∃ x y r, st = .int y :: .long x :: r ∧ k x y r := by
  unfold tp_li at h; split at h
  · exact ⟨_, _, _, rfl, h⟩
  · exact h.elim
theorem tp_c1_e {st : List Value} {k : Value → List Value → Prop} (h : tp_c1 st k) : ∃ v r, st = v :: r ∧ v.category = 1 ∧ k v r := by
  unfold tp_c1 at h; split at h
  · split at h
    · next h1 => exact ⟨_, _, rfl, h1, h⟩
    · exact h.elim
  · exact h.elim
theorem tp_r1_e {st : List Value} {k : Nat → List Value → Prop} (h : tp_r1 st k) : ∃ a r, st = .ref a :: r ∧ k a r := by
  unfold tp_r1 at h; split at h
  · exact ⟨_, _, rfl, h⟩
  · exact h.elim
theorem tp_li0_e {ls : tp_Ls} {i : Nat} {k : Int32 → Prop} (h : tp_li0 ls i k) : ∃ x, ls[i]? = some (some (.int x)) ∧ k x := by
  unfold tp_li0 at h; split at h
  · next h1 => exact ⟨_, h1, h⟩
  · exact h.elim
theorem tp_ll0_e {ls : tp_Ls} {i : Nat} {k : Int64 → Prop} (h : tp_ll0 ls i k) : ∃ x, ls[i]? = some (some (.long x)) ∧ k x := by
  unfold tp_ll0 at h; split at h
  · next h1 => exact ⟨_, h1, h⟩
  · exact h.elim
theorem tp_lr0_e {ls : tp_Ls} {i : Nat} {k : Nat → Prop} (h : tp_lr0 ls i k) : ∃ x, ls[i]? = some (some (.ref x)) ∧ k x := by
  unfold tp_lr0 at h; split at h
  · next h1 => exact ⟨_, h1, h⟩
  · exact h.elim
theorem tp_ar_e {sh : List tp_E} {a kind : Nat} {k : Nat → Prop} (h : tp_ar sh a kind k) : ∃ n, sh[a]? = some (.inr (kind, n)) ∧ k n := by
  unfold tp_ar at h; split at h
  · next e he =>
    split at h
    · next hb =>
      have : e.1 = kind := Nat.eq_of_beq_eq_true hb
      exact ⟨e.2, by rw [he, ← this], h⟩
    · exact h.elim
  · exact h.elim
theorem tp_ob_e {sh : List tp_E} {a o : Nat} {k : List (Option Nat) → Prop} (h : tp_ob sh a o k) : ∃ fs, sh[a]? = some (.inl (o, fs)) ∧ k fs := by
  unfold tp_ob at h; split at h
  · next e he =>
    split at h
    · next hb =>
      have : e.1 = o := Nat.eq_of_beq_eq_true hb
      exact ⟨e.2, by rw [he, ← this], h⟩
    · exact h.elim
  · exact h.elim
theorem tp_if_e {b : Bool} {k : Prop} (h : tp_if b k) : b = true ∧ k := by
  unfold tp_if at h; split at h
  · exact ⟨rfl, h⟩
  · exact h.elim
theorem tp_call_e {sh : List tp_E} {M M' : tp_M} {vs r : List Value} {σ : tp_S} {pc : Nat} {ls : tp_Ls} {Q : tp_Q} {K : List Value → tp_S → Prop} (hK : ∀ st' τ, K st' τ → tp_W sh M pc ls st' τ Q) (h : tp_call sh M M' vs r σ K) : tp_room M M' ∧ (r.map fun v => v.category).sum ≤ 8 ∧ tp_words vs ≤ tp_ml M' ∧ tp_W sh M' 0 (tp_en (tp_ml M') vs) [] σ (fun res τ => tp_W sh M pc ls (res.toList ++ r) τ Q) := by
  unfold tp_call at h
  obtain ⟨hb, h'⟩ := tp_if_e h; clear h; have h := h'; clear h'
  simp only [Bool.and_eq_true, Nat.ble_eq] at hb
  refine ⟨⟨hb.1, hb.2.1⟩, hb.2.2.1, hb.2.2.2, ?_⟩
  split at h
  · refine tp_W_mono (fun res τ hr => ?_) h
    cases res with
    | none => exact hK _ _ hr
    | some v => exact hr.elim
  · refine tp_W_mono (fun res τ hr => ?_) h
    cases res with
    | none => exact hr.elim
    | some v => cases v with
      | int x => exact hK _ _ hr
      | _ => exact hr.elim
theorem tp_cv_at {o idx ci n : Nat} {c : Nat × Nat × Nat × Nat × tp_M} (h : (tp_cvT o).find? (fun c => Nat.beq c.1 idx && (Nat.beq c.2.1 ci && Nat.beq c.2.2.1 n)) = some c) : c.1 = idx ∧ c.2.1 = ci ∧ c.2.2.1 = n ∧ tp_cvq o c = true ∧ tp_good c.2.2.2.2 = true := by
  have hm := List.mem_of_find?_eq_some h
  have hp := List.find?_some h
  simp only [Bool.and_eq_true] at hp
  exact ⟨Nat.eq_of_beq_eq_true hp.1, Nat.eq_of_beq_eq_true hp.2.1, Nat.eq_of_beq_eq_true hp.2.2, List.all_eq_true.mp (tp_cvT_q o) c hm, tp_cvT_g o c hm⟩
theorem tp_cs_at {o idx n : Nat} {c : Nat × Nat × Nat × tp_M} (h : (tp_csT o).find? (fun c => Nat.beq c.1 idx && Nat.beq c.2.1 n) = some c) : c.1 = idx ∧ c.2.1 = n ∧ tp_csq o c = true ∧ tp_good c.2.2.2 = true := by
  have hm := List.mem_of_find?_eq_some h
  have hp := List.find?_some h
  simp only [Bool.and_eq_true] at hp
  exact ⟨Nat.eq_of_beq_eq_true hp.1, Nat.eq_of_beq_eq_true hp.2, List.all_eq_true.mp (tp_csT_q o) c hm, tp_csT_g o c hm⟩
theorem tp_in4_e {w : Cond} (h : tp_in4 w = true) : w ∈ tp_Ts := by
  simp only [tp_in4, Bool.and_eq_true, decide_eq_true_eq] at h
  exact tp_Ts_mem h.1 h.2
theorem tp_sw_e {x : Int32} {K : Nat → Prop} {d : Nat} {l : List (Int32 × Nat)} (h : tp_sw x K d l) : (∃ (j : Nat) (v : Int32) (t : Nat), l[j]? = some (v, t) ∧ x = v ∧ (∀ (i : Nat), i < j → ∀ q : Int32 × Nat, l[i]? = some q → ¬ x = q.1) ∧ K t) ∨ ((∀ q ∈ l, ¬ x = q.1) ∧ K d) := by
  induction l with
  | nil => exact Or.inr ⟨fun q hq => absurd hq List.not_mem_nil, h⟩
  | cons a l ih =>
    obtain ⟨v, t⟩ := a
    obtain ⟨h1, h2⟩ := h
    by_cases hx : x = v
    · exact Or.inl ⟨0, v, t, rfl, hx, fun i hi => by omega, h1 hx⟩
    · rcases ih (h2 hx) with ⟨j, v', t', e1, e2, e3, e4⟩ | ⟨e1, e2⟩
      · refine Or.inl ⟨j + 1, v', t', e1, e2, fun i hi q hq => ?_, e4⟩
        cases i with
        | zero =>
          have : (v, t) = q := by simpa using hq
          rw [← this]; exact hx
        | succ i => exact e3 i (by omega) q (by simpa using hq)
      · refine Or.inr ⟨fun q hq => ?_, e2⟩
        rcases List.mem_cons.mp hq with rfl | hq
        · exact hx
        · exact e1 q hq
theorem tp_pI : parseFieldDescriptor "I" = some .int := by decide +kernel
theorem tp_pZ : parseFieldDescriptor "Z" = some .boolean := by decide +kernel
section TPS
variable {sh : List tp_E} {M : tp_M} {pc : Nat} {ls : tp_Ls} {st : List Value} {σ : tp_S} {Q : tp_Q} {K : Nat → tp_Ls → List Value → tp_S → Prop}
theorem tp_x_getfield {idx k : Nat} {v : Int32} {sw : List (Int32 × Nat)} {len : Nat} (hd : decode (tp_b M) pc = .ok (.getfield idx, len)) (hs : tp_sd M pc (.getfield idx, v, k, sw) len = true) (hK : ∀ pc' ls' st' σ', K pc' ls' st' σ' → tp_W sh M pc' ls' st' σ' Q) (h : tp_step sh M Q (.getfield idx, v, k, sw) pc ls st σ K) : tp_W sh M pc ls st σ Q := by
  dsimp only [tp_step] at h
  obtain ⟨a, r, e0, h'⟩ := tp_r1_e h; clear h; subst e0; have h := h'; clear h'
  obtain ⟨fs, ha, h'⟩ := tp_ob_e h; clear h; have h := h'; clear h'
  dsimp only [tp_sd] at hs
  cases hq : tp_cl[tp_o M]? with
  | none => rw [hq] at hs; simp at hs
  | some q =>
    simp only [hq, Bool.and_eq_true, decide_eq_true_eq] at hs
    obtain ⟨⟨⟨⟨h1, h2⟩, h3⟩, h4⟩, rfl⟩ := hs
    split at h
    · next b hb => exact tp_r_getR hq h1 h2 h4 h3 ha hb hd (hK _ _ _ _ h)
    · next hb => exact tp_r_getI hq h1 h2 h4 h3 ha hb hd (hK _ _ _ _ h)
    · exact h.elim
theorem tp_x_putfield {idx k : Nat} {v : Int32} {sw : List (Int32 × Nat)} {len : Nat} (hd : decode (tp_b M) pc = .ok (.putfield idx, len)) (hs : tp_sd M pc (.putfield idx, v, k, sw) len = true) (hK : ∀ pc' ls' st' σ', K pc' ls' st' σ' → tp_W sh M pc' ls' st' σ' Q) (h : tp_step sh M Q (.putfield idx, v, k, sw) pc ls st σ K) : tp_W sh M pc ls st σ Q := by
  dsimp only [tp_step] at h
  obtain ⟨x, r, e0, h'⟩ := tp_i1_e h; clear h; subst e0; have h := h'; clear h'
  obtain ⟨a, r, e0, h'⟩ := tp_r1_e h; clear h; subst e0; have h := h'; clear h'
  obtain ⟨fs, ha, h'⟩ := tp_ob_e h; clear h; have h := h'; clear h'
  dsimp only [tp_sd] at hs
  cases hq : tp_cl[tp_o M]? with
  | none => rw [hq] at hs; simp at hs
  | some q =>
    simp only [hq, Bool.and_eq_true, decide_eq_true_eq] at hs
    obtain ⟨⟨⟨⟨⟨⟨h1, h2⟩, h3⟩, h5⟩, h6⟩, h4⟩, rfl⟩ := hs
    split at h
    · next hb =>
      cases sw with
      | nil => exact tp_r_putI (ty := .int) hq h1 h2 h4 h3 h5 (by rw [h6, if_pos rfl]; exact tp_pI) rfl rfl ha hb hd (hK _ _ _ _ h)
      | cons s0 s1 =>
        obtain ⟨hz, h⟩ := h
        refine tp_r_putI (ty := .boolean) hq h1 h2 h4 h3 h5 (by rw [h6, if_neg (by simp)]; exact tp_pZ) ?_ ?_ ha hb hd (hK _ _ _ _ h)
        · rcases hz with rfl | rfl <;> rfl
        · rcases hz with rfl | rfl <;> rfl
    · exact h.elim
theorem tp_x_invV {idx n : Nat} {v : Int32} {sw : List (Int32 × Nat)} (ho : (tp_y M).cls = tp_cn (tp_o M)) (hd : decode (tp_b M) pc = .ok (.invokevirtual idx, 3)) (hK : ∀ pc' ls' st' σ', K pc' ls' st' σ' → tp_W sh M pc' ls' st' σ' Q) (h : tp_step sh M Q (.invokevirtual idx, v, n, sw) pc ls st σ K) : tp_W sh M pc ls st σ Q := by
  dsimp only [tp_step] at h
  obtain ⟨a, r, hdr, h'⟩ := tp_r1_e h; clear h; have h := h'; clear h'
  split at h
  · next e ha =>
    split at h
    · next c hc =>
      obtain ⟨e1, e2, e3, hq, hg⟩ := tp_cv_at hc
      obtain ⟨hR, hst, hw, h'⟩ := tp_call_e (hK _ _) h; clear h; have h := h'; clear h'
      have hlen : n < st.length := by
        rcases Nat.lt_or_ge n st.length with z | z
        · exact z
        · rw [List.drop_eq_nil_of_le z] at hdr; cases hdr
      have hst0 : st = ((st.take n).reverse).reverse ++ .ref a :: r := by rw [List.reverse_reverse, ← hdr, List.take_append_drop]
      have hAl : ((st.take n).reverse).length = n := by simp; omega
      rw [hst0]
      generalize (st.take n).reverse = As at h hw hAl
      obtain ⟨ci, fs⟩ := e
      dsimp only at e2
      subst e2
      unfold tp_cvq at hq
      cases hcl : tp_cl[c.2.1]? with
      | none => rw [hcl] at hq; cases hq
      | some q =>
        rw [hcl] at hq
        dsimp only at hq
        split at hq
        · simp only [Bool.and_eq_true, decide_eq_true_eq] at hq
          obtain ⟨⟨⟨⟨⟨g1, g2⟩, g3⟩, g4⟩, g5⟩, g6⟩ := hq
          refine tp_r_invV (n := n) hg hcl ha g1 ?_ (by rw [← e3]; exact g6) hAl hR hst hw hd h
          intro w hw
          simp only [List.mem_cons, List.mem_nil_iff, or_false] at hw
          rcases hw with rfl | rfl | rfl | rfl
          · rw [ho, ← e1]; exact tp_Ts_mem g2.1 g2.2
          · exact tp_Ts_mem g3.1 g3.2
          · exact tp_Ts_mem g4.1 g4.2
          · exact tp_Ts_mem g5.1 g5.2
        · simp only [Bool.and_eq_true, decide_eq_true_eq] at hq
          obtain ⟨⟨⟨⟨⟨⟨g1, g2⟩, g3⟩, g4⟩, g5⟩, g6⟩, g7⟩ := hq
          refine tp_r_invU (n := n) (x := ⟨R_Ta, (tp_y c.2.2.2.2).name, (tp_y c.2.2.2.2).desc⟩) hg hcl ha ?_ g6 (by rw [← e3]; exact g7) hAl hR hst hw hd h
          intro w hw
          simp only [List.mem_cons, List.mem_nil_iff, or_false] at hw
          rcases hw with rfl | rfl | rfl | rfl | rfl
          · rw [ho, ← e1]; exact tp_Ts_mem g1.1 g1.2
          · exact tp_Ts_mem g2.1 g2.2
          · exact tp_Ts_mem g3.1 g3.2
          · exact tp_Ts_mem g4.1 g4.2
          · exact tp_Ts_mem g5.1 g5.2
    · exact h.elim
  · exact h.elim
theorem tp_x_invS {idx n : Nat} {v : Int32} {sw : List (Int32 × Nat)} (ho : (tp_y M).cls = tp_cn (tp_o M)) (hd : decode (tp_b M) pc = .ok (.invokestatic idx, 3)) (hK : ∀ pc' ls' st' σ', K pc' ls' st' σ' → tp_W sh M pc' ls' st' σ' Q) (h : tp_step sh M Q (.invokestatic idx, v, n, sw) pc ls st σ K) : tp_W sh M pc ls st σ Q := by
  dsimp only [tp_step] at h
  split at h
  · next hm =>
    obtain ⟨hb, h'⟩ := tp_if_e h; clear h; have h := h'; clear h'
    obtain ⟨x, y, r, e0, h'⟩ := tp_i2_e h; clear h; subst e0; have h := h'; clear h'
    simp only [Bool.and_eq_true, Nat.ble_eq, tp_mx] at hb hm
    have e1 := Nat.eq_of_beq_eq_true hm.1
    have e2 := Nat.eq_of_beq_eq_true hm.2
    refine tp_r_max (fun w hw => ?_) hb.1 (by have := hb.2; simp only [List.map_cons, List.sum_cons] at this; omega) hd (hK _ _ _ _ h)
    rw [ho, e1, e2] at hw
    exact tp_in4_e (List.all_eq_true.mp tp_mx_q w hw)
  · split at h
    · next hm =>
      obtain ⟨hb, h'⟩ := tp_if_e h; clear h; have h := h'; clear h'
      obtain ⟨dp, n0, r, e0, h'⟩ := tp_i2_e h; clear h; subst e0; have h := h'; clear h'
      obtain ⟨a, r, e0, h'⟩ := tp_r1_e h; clear h; subst e0; have h := h'; clear h'
      obtain ⟨sp, r, e0, h'⟩ := tp_i1_e h; clear h; subst e0; have h := h'; clear h'
      obtain ⟨a0, r, e0, h'⟩ := tp_r1_e h; clear h; subst e0; have h := h'; clear h'
      obtain ⟨l0, ha0, h'⟩ := tp_ar_e h; clear h; have h := h'; clear h'
      obtain ⟨l1, ha1, h'⟩ := tp_ar_e h; clear h; have h := h'; clear h'
      obtain ⟨g1, g2, g3, g4, g5, h⟩ := h
      simp only [Bool.and_eq_true, Nat.ble_eq, tp_ac] at hb hm
      have e1 := Nat.eq_of_beq_eq_true hm.1
      have e2 := Nat.eq_of_beq_eq_true hm.2
      refine tp_r_copy (fun w hw => ?_) ha0 ha1 g1 g2 g3 g4 g5 hb.1 (by have := hb.2; simp only [List.map_cons, List.sum_cons] at this; omega) hd (hK _ _ _ _ h)
      rw [ho, e1, e2] at hw
      exact tp_in4_e (List.all_eq_true.mp tp_ac_q w hw)
    · split at h
      · next c hc =>
        obtain ⟨hb, h'⟩ := tp_if_e h; clear h; have h := h'; clear h'
        obtain ⟨e1, e3, hq, hg⟩ := tp_cs_at hc
        obtain ⟨hR, hst, hw, h'⟩ := tp_call_e (hK _ _) h; clear h; have h := h'; clear h'
        have hlen : n ≤ st.length := Nat.le_of_ble_eq_true hb
        have hst0 : st = ((st.take n).reverse).reverse ++ st.drop n := by rw [List.reverse_reverse, List.take_append_drop]
        have hAl : ((st.take n).reverse).length = n := by simp; omega
        rw [hst0]
        generalize (st.take n).reverse = As at h hw hAl
        generalize st.drop n = r at h hst
        unfold tp_csq at hq
        simp only [Bool.and_eq_true, decide_eq_true_eq] at hq
        obtain ⟨⟨⟨g1, g2⟩, g3⟩, g4⟩ := hq
        split at g4
        · refine tp_r_invS (n := n) hg (fun w hw => ?_) (by rw [← e3]; exact g3) hAl hR hst hw hd h
          simp only [List.mem_cons, List.mem_nil_iff, or_false] at hw
          rcases hw with rfl | rfl | rfl
          · rw [ho, ← e1]; exact tp_in4_e g4
          · exact tp_Ts_mem g1.1 g1.2
          · exact tp_Ts_mem g2.1 g2.2
        · refine tp_r_invN (n := n) (host := R_Tp) hg (fun w hw => ?_) (by rw [ho, ← e1]; exact of_decide_eq_true g4) (by rw [← e3]; exact g3) hAl hR hst hw hd h
          simp only [List.mem_cons, List.mem_nil_iff, or_false] at hw
          rcases hw with rfl | rfl
          · exact tp_Ts_mem g1.1 g1.2
          · exact tp_Ts_mem g2.1 g2.2
      · exact h.elim
set_option maxRecDepth 100000 in
theorem tp_ldc_in : Cond.constant R_La 51 238002 ∈ tp_Ts := tp_in4_e (by decide +kernel)
set_option maxRecDepth 100000 in
theorem tp_ldc_1 : Cond.constantLong R_JL 314 6148914691236517205 ∈ tp_Ts := tp_in4_e (by decide +kernel)
set_option maxRecDepth 100000 in
theorem tp_ldc_2 : Cond.constantLong R_JL 316 3689348814741910323 ∈ tp_Ts := tp_in4_e (by decide +kernel)
set_option maxRecDepth 100000 in
theorem tp_ldc_3 : Cond.constantLong R_JL 318 1085102592571150095 ∈ tp_Ts := tp_in4_e (by decide +kernel)
theorem tp_br {pcT pcF : Nat} {st' : List Value} {c1 c2 : Prop} (h : ∀ {p : Program} {l : Launch} {e : Env} {R : Room} {s : State} {m : MethodId} {args : Array Value} {below : List Frame} {meth : Method} {c : Code} {H : Heap} {locs : List Loc} {cells slots : Nat} {Q' : State → Prop} {als : Array Slot} {ad : Nat → Nat}, p.tables.exec = Jvm.exec → c.code = tp_b M → (c1 → W p l e R s m args below meth c H locs cells slots Q' (F0 m pcT als (st'.map (tp_cv ad)))) → (c2 → W p l e R s m args below meth c H locs cells slots Q' (F0 m pcF als (st'.map (tp_cv ad)))) → W p l e R s m args below meth c H locs cells slots Q' (F0 m pc als (st.map (tp_cv ad)))) (k1 : c1 → tp_W sh M pcT ls st' σ Q) (k2 : c2 → tp_W sh M pcF ls st' σ Q) : tp_W sh M pc ls st σ Q :=
  fun l G p e s m args below meth c A H locs als hA hP hS hl => h hA.1 hA.2.1 (fun z => k1 z l G p e s m args below meth c A H locs als hA hP hS hl) (fun z => k2 z l G p e s m args below meth c A H locs als hA hP hS hl)
theorem tp_x_lookup {d : Int} {ps : Array (Int × Int)} {v : Int32} {t len : Nat} {sw : List (Int32 × Nat)} (hd : decode (tp_b M) pc = .ok (.lookupswitch d ps, len)) (hs : tp_sd M pc (.lookupswitch d ps, v, t, sw) len = true) (hK : ∀ pc' ls' st' σ', K pc' ls' st' σ' → tp_W sh M pc' ls' st' σ' Q) (h : tp_step sh M Q (.lookupswitch d ps, v, t, sw) pc ls st σ K) : tp_W sh M pc ls st σ Q := by
  dsimp only [tp_step] at h
  obtain ⟨x, r, e0, h'⟩ := tp_i1_e h; clear h; subst e0; have h := h'; clear h'
  simp only [tp_sd, Bool.and_eq_true, decide_eq_true_eq] at hs
  obtain ⟨⟨⟨h1, h2⟩, h3⟩, h4⟩ := hs
  have key : ∀ (l : List (Int × Int)) (sw : List (Int32 × Nat)), sw.map (fun q => q.1.toInt) = l.map (fun q => q.1) → sw.map (fun q => (q.2 : Int)) = l.map (fun q => (pc : Int) + q.2) → tp_sw x (fun t => K t ls r σ) t sw → ∃ tg : Nat, (pc : Int) + Op.lookupswitch.offset l d x.toInt = (tg : Int) ∧ K tg ls r σ := by
    intro l
    induction l with
    | nil =>
      intro sw g1 g2 g3
      have : sw = [] := by simpa using g1
      subst this
      exact ⟨t, h1, g3⟩
    | cons a l ih =>
      intro sw g1 g2 g3
      cases sw with
      | nil => simp at g1
      | cons b sw =>
        obtain ⟨bv, bt⟩ := b
        obtain ⟨a1, a2⟩ := a
        simp only [List.map_cons, List.cons.injEq] at g1 g2
        obtain ⟨k1, k2⟩ := g3
        rw [Op.lookupswitch.offset_cons]
        by_cases hx : x = bv
        · refine ⟨bt, ?_, k1 hx⟩
          rw [if_pos (by rw [hx]; exact g1.1.symm)]
          exact g2.1.symm
        · rw [if_neg (fun q => hx (Int32.toInt_inj.mp (by rw [g1.1]; exact q.symm)))]
          exact ih sw g1.2 g2.2 (k2 hx)
  obtain ⟨tg, e1, e2⟩ := key ps.toList sw h2 h3 h
  exact tp_pure (fun hx hb k => lv_lookup hx hb hd h4 rfl e1 k) (hK _ _ _ _ e2)
theorem tp_x_table {d lo hi : Int} {offs : Array Int} {v : Int32} {t len : Nat} {sw : List (Int32 × Nat)} (hd : decode (tp_b M) pc = .ok (.tableswitch d lo hi offs, len)) (hs : tp_sd M pc (.tableswitch d lo hi offs, v, t, sw) len = true) (hK : ∀ pc' ls' st' σ', K pc' ls' st' σ' → tp_W sh M pc' ls' st' σ' Q) (h : tp_step sh M Q (.tableswitch d lo hi offs, v, t, sw) pc ls st σ K) : tp_W sh M pc ls st σ Q := by
  dsimp only [tp_step] at h
  obtain ⟨x, r, e0, h'⟩ := tp_i1_e h; clear h; subst e0; have h := h'; clear h'
  simp only [tp_sd, Bool.and_eq_true, decide_eq_true_eq] at hs
  obtain ⟨⟨⟨h1, h2⟩, h3⟩, h4⟩ := hs
  have hl : sw.length = offs.size := by
    have := congrArg List.length h2
    simpa using this
  rcases tp_sw_e h with ⟨j, v', t', e1, e2, e3, e4⟩ | ⟨e1, e2⟩
  · have hj : j < offs.size := by rw [← hl]; exact (List.getElem?_eq_some_iff.mp e1).1
    have q1 : x.toInt = lo + (j : Int) := by
      have := congrArg (fun l => l[j]?) h2
      simp only [List.getElem?_map, e1, Option.map_some, List.getElem?_range hj] at this
      rw [e2]; exact Option.some.inj this
    have q2 : ((t' : Nat) : Int) = (pc : Int) + offs[j] := by
      have := congrArg (fun l => l[j]?) h3
      simp only [List.getElem?_map, e1, Option.map_some] at this
      rw [Array.getElem?_toList, Array.getElem?_eq_getElem hj] at this
      exact Option.some.inj this
    exact tp_pure (fun hx hb k => lv_tableIn (off := offs[j]) hx hb hd (by omega) (by omega) (by rw [show (x.toInt - lo).toNat = j by omega]; exact Array.getElem?_eq_getElem hj) q2.symm k) (hK _ _ _ _ e4)
  · refine tp_pure (fun hx hb k => lv_tableOut hx hb hd ?_ h1 k) (hK _ _ _ _ e2)
    by_cases c1 : x.toInt < lo
    · exact Or.inl c1
    · refine Or.inr ?_
      by_cases c2 : hi < x.toInt
      · exact c2
      · exfalso
        have hj : (x.toInt - lo).toNat < offs.size := by omega
        have hj2 : (x.toInt - lo).toNat < sw.length := by omega
        have := congrArg (fun l => l[(x.toInt - lo).toNat]?) h2
        simp only [List.getElem?_map, List.getElem?_eq_getElem hj2, Option.map_some, List.getElem?_range hj] at this
        have q := Option.some.inj this
        exact e1 _ (List.getElem_mem hj2) (Int32.toInt_inj.mp (by rw [q]; omega))
/-- what the pure machine does, the bytecode does -/
theorem tp_step_ok {N : tp_N} (hg : tp_good M = true) (ho : (tp_y M).cls = tp_cn (tp_o M)) (hi : tp_in M pc = some N) (hK : ∀ pc' ls' st' σ', K pc' ls' st' σ' → tp_W sh M pc' ls' st' σ' Q) (h : tp_step sh M Q N pc ls st σ K) : tp_W sh M pc ls st σ Q := by
  obtain ⟨len, hd, hs⟩ := tp_good_at hg hi
  obtain ⟨i, v, t, sw⟩ := N
  dsimp only at hd
  cases i with
  | iconst n =>
    simp only [tp_sd, Bool.and_eq_true, decide_eq_true_eq] at hs
    obtain ⟨h1, rfl⟩ := hs
    exact tp_pure (fun hx hb k => lv_iconst hx hb hd h1 k) (hK _ _ _ _ h)
  | bipush n =>
    simp only [tp_sd, Bool.and_eq_true, decide_eq_true_eq] at hs
    obtain ⟨h1, rfl⟩ := hs
    exact tp_pure (fun hx hb k => lv_bipush hx hb hd h1 k) (hK _ _ _ _ h)
  | sipush n =>
    simp only [tp_sd, Bool.and_eq_true, decide_eq_true_eq] at hs
    obtain ⟨h1, rfl⟩ := hs
    exact tp_pure (fun hx hb k => lv_sipush hx hb hd h1 k) (hK _ _ _ _ h)
  | lconst n =>
    simp only [tp_sd, Bool.and_eq_true, decide_eq_true_eq] at hs
    subst hs
    dsimp only [tp_step] at h
    match n, hd, h with
    | 0, hd, h => exact tp_pure (fun hx hb k => lv_lconst (v := 0) hx hb hd rfl k) (hK _ _ _ _ h)
    | 1, hd, h => exact tp_pure (fun hx hb k => lv_lconst (v := 1) hx hb hd rfl k) (hK _ _ _ _ h)
  | ldc idx =>
    simp only [tp_sd, Bool.and_eq_true, decide_eq_true_eq] at hs
    subst hs
    dsimp only [tp_step] at h
    obtain ⟨hb, h'⟩ := tp_if_e h; clear h; have h := h'; clear h'
    simp only [Bool.and_eq_true] at hb
    have e1 := Nat.eq_of_beq_eq_true hb.1
    have e2 := Nat.eq_of_beq_eq_true hb.2
    subst e2
    have k := hK _ _ _ _ h
    intro l G p e s m args below meth c A H locs als hA hP hS hl
    exact lv_ldc (own := R_La) hA.1 hA.2.1 (by have := hA.2.2.2.2.1; rw [ho, e1] at this; exact this) (hA.2.2.2.2.2.1 _ tp_ldc_in) hd (k l G p e s m args below meth c A H locs als hA hP hS hl)
  | ldc2_w idx =>
    simp only [tp_sd, Bool.and_eq_true, decide_eq_true_eq] at hs
    subst hs
    dsimp only [tp_step] at h
    obtain ⟨hb, h'⟩ := tp_if_e h; clear h; have h := h'; clear h'
    have e1 := Nat.eq_of_beq_eq_true hb
    split at h
    · have k := hK _ _ _ _ h
      intro l G p e s m args below meth c A H locs als hA hP hS hl
      exact lv_ldc2 (own := R_JL) hA.1 hA.2.1 (by have := hA.2.2.2.2.1; rw [ho, e1] at this; exact this) (hA.2.2.2.2.2.1 _ tp_ldc_1) hd (k l G p e s m args below meth c A H locs als hA hP hS hl)
    · have k := hK _ _ _ _ h
      intro l G p e s m args below meth c A H locs als hA hP hS hl
      exact lv_ldc2 (own := R_JL) hA.1 hA.2.1 (by have := hA.2.2.2.2.1; rw [ho, e1] at this; exact this) (hA.2.2.2.2.2.1 _ tp_ldc_2) hd (k l G p e s m args below meth c A H locs als hA hP hS hl)
    · have k := hK _ _ _ _ h
      intro l G p e s m args below meth c A H locs als hA hP hS hl
      exact lv_ldc2 (own := R_JL) hA.1 hA.2.1 (by have := hA.2.2.2.2.1; rw [ho, e1] at this; exact this) (hA.2.2.2.2.2.1 _ tp_ldc_3) hd (k l G p e s m args below meth c A H locs als hA hP hS hl)
    · exact h.elim
  | iload i =>
    simp only [tp_sd, Bool.and_eq_true, decide_eq_true_eq] at hs
    subst hs
    obtain ⟨x, hv, h'⟩ := tp_li0_e h; clear h; have h := h'; clear h'
    exact tp_r_iload hv hd (hK _ _ _ _ h)
  | iload_n i =>
    simp only [tp_sd, Bool.and_eq_true, decide_eq_true_eq] at hs
    subst hs
    obtain ⟨x, hv, h'⟩ := tp_li0_e h; clear h; have h := h'; clear h'
    exact tp_r_iload_n hv hd (hK _ _ _ _ h)
  | lload i =>
    simp only [tp_sd, Bool.and_eq_true, decide_eq_true_eq] at hs
    subst hs
    obtain ⟨x, hv, h'⟩ := tp_ll0_e h; clear h; have h := h'; clear h'
    exact tp_r_lload hv hd (hK _ _ _ _ h)
  | lload_n i =>
    simp only [tp_sd, Bool.and_eq_true, decide_eq_true_eq] at hs
    subst hs
    obtain ⟨x, hv, h'⟩ := tp_ll0_e h; clear h; have h := h'; clear h'
    exact tp_r_lload_n hv hd (hK _ _ _ _ h)
  | aload i =>
    simp only [tp_sd, Bool.and_eq_true, decide_eq_true_eq] at hs
    subst hs
    obtain ⟨x, hv, h'⟩ := tp_lr0_e h; clear h; have h := h'; clear h'
    exact tp_r_aload hv hd (hK _ _ _ _ h)
  | aload_n i =>
    simp only [tp_sd, Bool.and_eq_true, decide_eq_true_eq] at hs
    subst hs
    obtain ⟨x, hv, h'⟩ := tp_lr0_e h; clear h; have h := h'; clear h'
    exact tp_r_aload_n hv hd (hK _ _ _ _ h)
  | istore i =>
    simp only [tp_sd, Bool.and_eq_true, decide_eq_true_eq] at hs
    obtain ⟨rfl, h1⟩ := hs
    obtain ⟨x, r, e0, h'⟩ := tp_i1_e h; clear h; subst e0; have h := h'; clear h'
    exact tp_r_istore (by omega) hd (hK _ _ _ _ h)
  | istore_n i =>
    simp only [tp_sd, Bool.and_eq_true, decide_eq_true_eq] at hs
    obtain ⟨rfl, h1⟩ := hs
    obtain ⟨x, r, e0, h'⟩ := tp_i1_e h; clear h; subst e0; have h := h'; clear h'
    exact tp_r_istore_n h1 hd (hK _ _ _ _ h)
  | astore i =>
    simp only [tp_sd, Bool.and_eq_true, decide_eq_true_eq] at hs
    obtain ⟨rfl, h1⟩ := hs
    obtain ⟨x, r, e0, h'⟩ := tp_r1_e h; clear h; subst e0; have h := h'; clear h'
    exact tp_r_astore (by omega) hd (hK _ _ _ _ h)
  | astore_n i =>
    simp only [tp_sd, Bool.and_eq_true, decide_eq_true_eq] at hs
    obtain ⟨rfl, h1⟩ := hs
    obtain ⟨x, r, e0, h'⟩ := tp_r1_e h; clear h; subst e0; have h := h'; clear h'
    exact tp_r_astore_n h1 hd (hK _ _ _ _ h)
  | lstore i =>
    simp only [tp_sd, Bool.and_eq_true, decide_eq_true_eq] at hs
    obtain ⟨rfl, h1⟩ := hs
    obtain ⟨hb, h'⟩ := tp_if_e h; clear h; have h := h'; clear h'
    obtain ⟨x, r, e0, h'⟩ := tp_l1_e h; clear h; subst e0; have h := h'; clear h'
    exact tp_r_lstore (by simpa [Nat.blt_eq] using hb) hd (hK _ _ _ _ h)
  | lstore_n i =>
    simp only [tp_sd, Bool.and_eq_true, decide_eq_true_eq] at hs
    obtain ⟨rfl, h1⟩ := hs
    obtain ⟨hb, h'⟩ := tp_if_e h; clear h; have h := h'; clear h'
    obtain ⟨x, r, e0, h'⟩ := tp_l1_e h; clear h; subst e0; have h := h'; clear h'
    exact tp_r_lstore_n (by simpa [Nat.blt_eq] using hb) hd (hK _ _ _ _ h)
  | iinc i n =>
    simp only [tp_sd, Bool.and_eq_true, decide_eq_true_eq] at hs
    obtain ⟨⟨h1, h2⟩, rfl⟩ := hs
    obtain ⟨x, hv, h'⟩ := tp_li0_e h; clear h; have h := h'; clear h'
    exact tp_r_iinc h2 hv h1 hd (hK _ _ _ _ h)
  | iadd =>
    simp only [tp_sd, Bool.and_eq_true, decide_eq_true_eq] at hs
    subst hs
    obtain ⟨x, y, r, e0, h'⟩ := tp_i2_e h; clear h; subst e0; have h := h'; clear h'
    exact tp_pure (fun hx hb k => lv_iadd hx hb hd k) (hK _ _ _ _ h)
  | isub =>
    simp only [tp_sd, Bool.and_eq_true, decide_eq_true_eq] at hs
    subst hs
    obtain ⟨x, y, r, e0, h'⟩ := tp_i2_e h; clear h; subst e0; have h := h'; clear h'
    exact tp_pure (fun hx hb k => lv_isub hx hb hd k) (hK _ _ _ _ h)
  | imul =>
    simp only [tp_sd, Bool.and_eq_true, decide_eq_true_eq] at hs
    subst hs
    obtain ⟨x, y, r, e0, h'⟩ := tp_i2_e h; clear h; subst e0; have h := h'; clear h'
    exact tp_pure (fun hx hb k => lv_imul hx hb hd k) (hK _ _ _ _ h)
  | iand =>
    simp only [tp_sd, Bool.and_eq_true, decide_eq_true_eq] at hs
    subst hs
    obtain ⟨x, y, r, e0, h'⟩ := tp_i2_e h; clear h; subst e0; have h := h'; clear h'
    exact tp_pure (fun hx hb k => lv_iand hx hb hd k) (hK _ _ _ _ h)
  | ior =>
    simp only [tp_sd, Bool.and_eq_true, decide_eq_true_eq] at hs
    subst hs
    obtain ⟨x, y, r, e0, h'⟩ := tp_i2_e h; clear h; subst e0; have h := h'; clear h'
    exact tp_pure (fun hx hb k => lv_ior hx hb hd k) (hK _ _ _ _ h)
  | ishl =>
    simp only [tp_sd, Bool.and_eq_true, decide_eq_true_eq] at hs
    subst hs
    obtain ⟨x, y, r, e0, h'⟩ := tp_i2_e h; clear h; subst e0; have h := h'; clear h'
    exact tp_pure (fun hx hb k => lv_ishl hx hb hd k) (hK _ _ _ _ h)
  | ishr =>
    simp only [tp_sd, Bool.and_eq_true, decide_eq_true_eq] at hs
    subst hs
    obtain ⟨x, y, r, e0, h'⟩ := tp_i2_e h; clear h; subst e0; have h := h'; clear h'
    exact tp_pure (fun hx hb k => lv_ishr hx hb hd k) (hK _ _ _ _ h)
  | idiv =>
    simp only [tp_sd, Bool.and_eq_true, decide_eq_true_eq] at hs
    subst hs
    obtain ⟨x, y, r, e0, h1, h'⟩ := tp_i2_e h; clear h; subst e0; have h := h'; clear h'
    exact tp_pure (fun hx hb k => lv_idiv hx hb hd h1 k) (hK _ _ _ _ h)
  | irem =>
    simp only [tp_sd, Bool.and_eq_true, decide_eq_true_eq] at hs
    subst hs
    obtain ⟨x, y, r, e0, h1, h'⟩ := tp_i2_e h; clear h; subst e0; have h := h'; clear h'
    exact tp_pure (fun hx hb k => lv_irem hx hb hd h1 k) (hK _ _ _ _ h)
  | iushr =>
    simp only [tp_sd, Bool.and_eq_true, decide_eq_true_eq] at hs
    subst hs
    obtain ⟨x, y, r, e0, h'⟩ := tp_i2_e h; clear h; subst e0; have h := h'; clear h'
    exact tp_pure (fun hx hb k => lv_iushr hx hb hd rfl k) (hK _ _ _ _ h)
  | ladd =>
    simp only [tp_sd, Bool.and_eq_true, decide_eq_true_eq] at hs
    subst hs
    obtain ⟨x, y, r, e0, h'⟩ := tp_l2_e h; clear h; subst e0; have h := h'; clear h'
    exact tp_pure (fun hx hb k => lv_ladd hx hb hd k) (hK _ _ _ _ h)
  | lsub =>
    simp only [tp_sd, Bool.and_eq_true, decide_eq_true_eq] at hs
    subst hs
    obtain ⟨x, y, r, e0, h'⟩ := tp_l2_e h; clear h; subst e0; have h := h'; clear h'
    exact tp_pure (fun hx hb k => lv_lsub hx hb hd k) (hK _ _ _ _ h)
  | land =>
    simp only [tp_sd, Bool.and_eq_true, decide_eq_true_eq] at hs
    subst hs
    obtain ⟨x, y, r, e0, h'⟩ := tp_l2_e h; clear h; subst e0; have h := h'; clear h'
    exact tp_pure (fun hx hb k => lv_land hx hb hd k) (hK _ _ _ _ h)
  | lor =>
    simp only [tp_sd, Bool.and_eq_true, decide_eq_true_eq] at hs
    subst hs
    obtain ⟨x, y, r, e0, h'⟩ := tp_l2_e h; clear h; subst e0; have h := h'; clear h'
    exact tp_pure (fun hx hb k => lv_lor hx hb hd k) (hK _ _ _ _ h)
  | lushr =>
    simp only [tp_sd, Bool.and_eq_true, decide_eq_true_eq] at hs
    subst hs
    obtain ⟨x, y, r, e0, h'⟩ := tp_li_e h; clear h; subst e0; have h := h'; clear h'
    exact tp_pure (fun hx hb k => lv_lushr hx hb hd rfl k) (hK _ _ _ _ h)
  | lshl =>
    simp only [tp_sd, Bool.and_eq_true, decide_eq_true_eq] at hs
    subst hs
    obtain ⟨x, y, r, e0, h'⟩ := tp_li_e h; clear h; subst e0; have h := h'; clear h'
    exact tp_pure (fun hx hb k => lv_lshl hx hb hd rfl k) (hK _ _ _ _ h)
  | lcmp =>
    simp only [tp_sd, Bool.and_eq_true, decide_eq_true_eq] at hs
    subst hs
    obtain ⟨x, y, r, e0, h'⟩ := tp_l2_e h; clear h; subst e0; have h := h'; clear h'
    exact tp_pure (fun hx hb k => W.lcmp hx hb hd k) (hK _ _ _ _ h)
  | l2i =>
    simp only [tp_sd, Bool.and_eq_true, decide_eq_true_eq] at hs
    subst hs
    obtain ⟨x, r, e0, h'⟩ := tp_l1_e h; clear h; subst e0; have h := h'; clear h'
    exact tp_pure (fun hx hb k => lv_l2i hx hb hd rfl k) (hK _ _ _ _ h)
  | i2l =>
    simp only [tp_sd, Bool.and_eq_true, decide_eq_true_eq] at hs
    subst hs
    obtain ⟨x, r, e0, h'⟩ := tp_i1_e h; clear h; subst e0; have h := h'; clear h'
    exact tp_pure (fun hx hb k => lv_i2l hx hb hd rfl k) (hK _ _ _ _ h)
  | dup =>
    simp only [tp_sd, Bool.and_eq_true, decide_eq_true_eq] at hs
    subst hs
    obtain ⟨w, r, e0, hw, h'⟩ := tp_c1_e h; clear h; subst e0; have h := h'; clear h'
    exact tp_pure (fun hx hb k => lv_dup hx hb hd (by rw [tp_cv_cat]; exact hw) k) (hK _ _ _ _ h)
  | pop =>
    simp only [tp_sd, Bool.and_eq_true, decide_eq_true_eq] at hs
    subst hs
    obtain ⟨w, r, e0, hw, h'⟩ := tp_c1_e h; clear h; subst e0; have h := h'; clear h'
    exact tp_pure (fun hx hb k => lv_pop hx hb hd (by rw [tp_cv_cat]; exact hw) k) (hK _ _ _ _ h)
  | dup2 =>
    simp only [tp_sd, Bool.and_eq_true, decide_eq_true_eq] at hs
    subst hs
    obtain ⟨w, r, e0, hw, h'⟩ := tp_c1_e h; clear h; subst e0; have h := h'; clear h'
    obtain ⟨w2, r, e0, hw2, h'⟩ := tp_c1_e h; clear h; subst e0; have h := h'; clear h'
    exact tp_pure (fun hx hb k => lv_dup2_11 hx hb hd (by rw [tp_cv_cat]; exact hw) (by rw [tp_cv_cat]; exact hw2) k) (hK _ _ _ _ h)
  | getfield idx =>
    exact tp_x_getfield hd hs hK h
  | putfield idx =>
    exact tp_x_putfield hd hs hK h
  | invokevirtual idx =>
    simp only [tp_sd, Bool.and_eq_true, decide_eq_true_eq] at hs
    subst hs
    exact tp_x_invV ho hd hK h
  | invokestatic idx =>
    simp only [tp_sd, Bool.and_eq_true, decide_eq_true_eq] at hs
    subst hs
    exact tp_x_invS ho hd hK h
  | iaload =>
    simp only [tp_sd, Bool.and_eq_true, decide_eq_true_eq] at hs
    subst hs
    obtain ⟨i, r, e0, h'⟩ := tp_i1_e h; clear h; subst e0; have h := h'; clear h'
    obtain ⟨a, r, e0, h'⟩ := tp_r1_e h; clear h; subst e0; have h := h'; clear h'
    obtain ⟨n, ha, h1, h'⟩ := tp_ar_e h; clear h; have h := h'; clear h'
    exact tp_r_iald ha h1 hd (hK _ _ _ _ h)
  | baload =>
    simp only [tp_sd, Bool.and_eq_true, decide_eq_true_eq] at hs
    subst hs
    obtain ⟨i, r, e0, h'⟩ := tp_i1_e h; clear h; subst e0; have h := h'; clear h'
    obtain ⟨a, r, e0, h'⟩ := tp_r1_e h; clear h; subst e0; have h := h'; clear h'
    obtain ⟨n, ha, h1, h'⟩ := tp_ar_e h; clear h; have h := h'; clear h'
    exact tp_r_zald ha h1 hd (hK _ _ _ _ h)
  | laload =>
    simp only [tp_sd, Bool.and_eq_true, decide_eq_true_eq] at hs
    subst hs
    obtain ⟨i, r, e0, h'⟩ := tp_i1_e h; clear h; subst e0; have h := h'; clear h'
    obtain ⟨a, r, e0, h'⟩ := tp_r1_e h; clear h; subst e0; have h := h'; clear h'
    obtain ⟨n, ha, h1, h'⟩ := tp_ar_e h; clear h; have h := h'; clear h'
    exact tp_r_lald ha h1 hd (hK _ _ _ _ h)
  | iastore =>
    simp only [tp_sd, Bool.and_eq_true, decide_eq_true_eq] at hs
    subst hs
    obtain ⟨i, x, r, e0, h'⟩ := tp_i2_e h; clear h; subst e0; have h := h'; clear h'
    obtain ⟨a, r, e0, h'⟩ := tp_r1_e h; clear h; subst e0; have h := h'; clear h'
    obtain ⟨n, ha, h1, h'⟩ := tp_ar_e h; clear h; have h := h'; clear h'
    exact tp_r_iast ha h1 hd (hK _ _ _ _ h)
  | bastore =>
    simp only [tp_sd, Bool.and_eq_true, decide_eq_true_eq] at hs
    subst hs
    obtain ⟨i, x, r, e0, h'⟩ := tp_i2_e h; clear h; subst e0; have h := h'; clear h'
    obtain ⟨a, r, e0, h'⟩ := tp_r1_e h; clear h; subst e0; have h := h'; clear h'
    obtain ⟨n, ha, h1, hz, h'⟩ := tp_ar_e h; clear h; have h := h'; clear h'
    exact tp_r_zast ha h1 hz hd (hK _ _ _ _ h)
  | lastore =>
    simp only [tp_sd, Bool.and_eq_true, decide_eq_true_eq] at hs
    subst hs
    obtain ⟨x, r, e0, h'⟩ := tp_l1_e h; clear h; subst e0; have h := h'; clear h'
    obtain ⟨i, r, e0, h'⟩ := tp_i1_e h; clear h; subst e0; have h := h'; clear h'
    obtain ⟨a, r, e0, h'⟩ := tp_r1_e h; clear h; subst e0; have h := h'; clear h'
    obtain ⟨n, ha, h1, h'⟩ := tp_ar_e h; clear h; have h := h'; clear h'
    exact tp_r_last ha h1 hd (hK _ _ _ _ h)
  | arraylength =>
    simp only [tp_sd, Bool.and_eq_true, decide_eq_true_eq] at hs
    subst hs
    obtain ⟨a, r, e0, h'⟩ := tp_r1_e h; clear h; subst e0; have h := h'; clear h'
    split at h
    · next e ha =>
      obtain ⟨hb, h'⟩ := tp_if_e h; clear h; have h := h'; clear h'
      exact tp_r_alen (by simpa [Nat.blt_eq] using hb) ha hd (hK _ _ _ _ h)
    · exact h.elim
  | goto off =>
    simp only [tp_sd, Bool.and_eq_true, decide_eq_true_eq] at hs
    obtain ⟨h1, rfl⟩ := hs
    exact tp_pure (fun hx hb k => lv_goto hx hb hd h1 k) (hK _ _ _ _ h)
  | ifCond c off =>
    simp only [tp_sd, Bool.and_eq_true, decide_eq_true_eq] at hs
    obtain ⟨h1, rfl⟩ := hs
    cases c with
    | eq =>
      obtain ⟨x, r, rfl, hT, hF⟩ := tp_i1_e h
      exact tp_br (fun hx hb kt kf => lv_if_eq hx hb hd h1 kt kf) (fun z => hK _ _ _ _ (hT z)) (fun z => hK _ _ _ _ (hF z))
    | ne =>
      obtain ⟨x, r, rfl, hT, hF⟩ := tp_i1_e h
      exact tp_br (fun hx hb kt kf => lv_if_ne hx hb hd h1 kt kf) (fun z => hK _ _ _ _ (hT z)) (fun z => hK _ _ _ _ (hF z))
    | lt =>
      obtain ⟨x, r, rfl, hT, hF⟩ := tp_i1_e h
      exact tp_br (fun hx hb kt kf => lv_if_lt hx hb hd h1 kt kf) (fun z => hK _ _ _ _ (hT z)) (fun z => hK _ _ _ _ (hF z))
    | ge =>
      obtain ⟨x, r, rfl, hT, hF⟩ := tp_i1_e h
      exact tp_br (fun hx hb kt kf => lv_if_ge hx hb hd h1 kt kf) (fun z => hK _ _ _ _ (hT z)) (fun z => hK _ _ _ _ (hF z))
    | gt =>
      obtain ⟨x, r, rfl, hT, hF⟩ := tp_i1_e h
      exact tp_br (fun hx hb kt kf => lv_if_gt hx hb hd h1 kt kf) (fun z => hK _ _ _ _ (hT z)) (fun z => hK _ _ _ _ (hF z))
    | le =>
      obtain ⟨x, r, rfl, hT, hF⟩ := tp_i1_e h
      exact tp_br (fun hx hb kt kf => lv_if_le hx hb hd h1 kt kf) (fun z => hK _ _ _ _ (hT z)) (fun z => hK _ _ _ _ (hF z))
  | if_icmp c off =>
    simp only [tp_sd, Bool.and_eq_true, decide_eq_true_eq] at hs
    obtain ⟨h1, rfl⟩ := hs
    cases c with
    | eq =>
      obtain ⟨x, y, r, rfl, hT, hF⟩ := tp_i2_e h
      exact tp_br (fun hx hb kt kf => lv_icmp_eq hx hb hd h1 kt kf) (fun z => hK _ _ _ _ (hT z)) (fun z => hK _ _ _ _ (hF z))
    | ne =>
      obtain ⟨x, y, r, rfl, hT, hF⟩ := tp_i2_e h
      exact tp_br (fun hx hb kt kf => lv_icmp_ne hx hb hd h1 kt kf) (fun z => hK _ _ _ _ (hT z)) (fun z => hK _ _ _ _ (hF z))
    | lt =>
      obtain ⟨x, y, r, rfl, hT, hF⟩ := tp_i2_e h
      exact tp_br (fun hx hb kt kf => lv_icmp_lt hx hb hd h1 kt kf) (fun z => hK _ _ _ _ (hT z)) (fun z => hK _ _ _ _ (hF z))
    | ge =>
      obtain ⟨x, y, r, rfl, hT, hF⟩ := tp_i2_e h
      exact tp_br (fun hx hb kt kf => lv_icmp_ge hx hb hd h1 kt kf) (fun z => hK _ _ _ _ (hT z)) (fun z => hK _ _ _ _ (hF z))
    | gt =>
      obtain ⟨x, y, r, rfl, hT, hF⟩ := tp_i2_e h
      exact tp_br (fun hx hb kt kf => lv_icmp_gt hx hb hd h1 kt kf) (fun z => hK _ _ _ _ (hT z)) (fun z => hK _ _ _ _ (hF z))
    | le =>
      obtain ⟨x, y, r, rfl, hT, hF⟩ := tp_i2_e h
      exact tp_br (fun hx hb kt kf => lv_icmp_le hx hb hd h1 kt kf) (fun z => hK _ _ _ _ (hT z)) (fun z => hK _ _ _ _ (hF z))
  | tableswitch d lo hi offs =>
    exact tp_x_table hd hs hK h
  | lookupswitch d ps =>
    exact tp_x_lookup hd hs hK h
  | ireturn =>
    simp only [tp_sd, Bool.and_eq_true, decide_eq_true_eq] at hs
    subst hs
    obtain ⟨x, r, e0, h'⟩ := tp_i1_e h; clear h; subst e0; have h := h'; clear h'
    split at h
    · split at h
      · next hr => exact tp_r_ireturn hr rfl hd h
      · next hr =>
        obtain ⟨hz, h⟩ := h
        exact tp_r_ireturn hr (by rcases hz with rfl | rfl <;> rfl) hd h
      · exact h.elim
    · exact h.elim
  | return_ =>
    simp only [tp_sd, Bool.and_eq_true, decide_eq_true_eq] at hs
    subst hs
    dsimp only [tp_step] at h
    split at h
    · split at h
      · next hr => exact tp_r_return hr hd h
      · exact h.elim
    · exact h.elim
  | _ => exact h.elim
def tp_mask : List Bool → tp_Ls → tp_Ls
  | b :: bs, v :: vs => (match b with
    | true => v
    | false => none) :: tp_mask bs vs
  | _, _ => []
theorem tp_mask_at : ∀ (bs : List Bool) (ls : tp_Ls) (i : Nat) (v : Value), (tp_mask bs ls)[i]? = some (some v) → ls[i]? = some (some v)
  | [], ls, i, v, h => by simp [tp_mask] at h
  | b :: bs, [], i, v, h => by simp [tp_mask] at h
  | b :: bs, w :: ws, 0, v, h => by
    cases b with
    | true => simpa [tp_mask] using h
    | false => simp [tp_mask] at h
  | b :: bs, w :: ws, i + 1, v, h => by
    have : (tp_mask bs ws)[i]? = some (some v) := by simpa [tp_mask] using h
    simpa using tp_mask_at bs ws i v this
def tp_look (pc : Nat) : List (Nat × List Bool) → Option (List Bool)
  | [] => none
  | e :: l => (match Nat.beq e.1 pc with
    | true => some e.2
    | false => tp_look pc l)
/-- the walk up to the stops -/
def tp_wp (sh : List tp_E) (M : tp_M) (sp : List (Nat × List Bool)) (Q : tp_Q) : Nat → Nat → tp_Ls → List Value → tp_S → Prop
  | 0, pc, ls, st, σ => tp_W sh M pc ls st σ Q
  | n + 1, pc, ls, st, σ => (match tp_in M pc with
    | none => False
    | some N => tp_step sh M Q N pc ls st σ (fun pc' ls' st' σ' => match tp_look pc' sp with
      | some mm => tp_W sh M pc' (tp_mask mm ls') st' σ' Q
      | none => tp_wp sh M sp Q n pc' ls' st' σ'))
theorem tp_wp_ok (hg : tp_good M = true) (ho : (tp_y M).cls = tp_cn (tp_o M)) (sp : List (Nat × List Bool)) : ∀ (n pc : Nat) (ls : tp_Ls) (st : List Value) (σ : tp_S), tp_wp sh M sp Q n pc ls st σ → tp_W sh M pc ls st σ Q := by
  intro n
  induction n with
  | zero => intro pc ls st σ h; exact h
  | succ n ih =>
    intro pc ls st σ h
    simp only [tp_wp] at h
    cases hi : tp_in M pc with
    | none => rw [hi] at h; exact h.elim
    | some N =>
      rw [hi] at h
      refine tp_step_ok hg ho hi (fun pc' ls' st' σ' h' => ?_) h
      split at h'
      · exact tp_W_ls (fun i v hv => tp_mask_at _ _ i v hv) h'
      · exact ih _ _ _ _ h'
/-- a method that has been read -/
def tp_OK (M : tp_M) : Prop := tp_good M = true ∧ (tp_y M).cls = tp_cn (tp_o M)
theorem tp_go (ok : tp_OK M) (n : Nat) (sp : List (Nat × List Bool)) (h : tp_wp sh M sp Q n pc ls st σ) : tp_W sh M pc ls st σ Q := tp_wp_ok ok.1 ok.2 sp n pc ls st σ h
end TPS
