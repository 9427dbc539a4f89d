def shC : List tp_E := [.inl (7, [some 1, some 5, some 8, some 10, some 15, some 18, some 24, none]), .inl (0, [some 2, some 3, some 4, none, none]), .inr (0, 24), .inr (0, 25), .inr (0, 170), .inl (2, [some 1, some 6, some 7]), .inr (0, 8), .inr (0, 170), .inl (5, [some 9, none]), .inr (0, 2200), .inl (6, [some 1, some 8, some 11, some 12, some 13, some 14, none, none]), .inr (2, 300), .inr (2, 66), .inr (2, 24), .inr (2, 3), .inl (1, [some 1, some 5, some 10, some 8, some 16, some 17]), .inr (2, 4300), .inr (1, 100), .inl (3, [some 8, some 19, some 20, some 21, some 22, some 23, none, none, none]), .inr (0, 108), .inr (0, 108), .inr (0, 108), .inr (0, 2200), .inr (0, 100), .inl (4, [some 1, some 25, some 26, some 27, none, none, none, none]), .inr (0, 100), .inr (0, 2001), .inr (0, 2000)]
def shM : List tp_E := [.inl (8, [none, some 1, some 2, some 3, none, none, some 4, none, none, none, some 5, some 6, some 7, some 8, some 9, some 10, none, some 11, some 12, none, some 13, some 14, some 15, some 16, some 17, none, some 18, none, none, some 19, none, none]), .inr (0, 25), .inr (0, 150), .inr (0, 25), .inr (0, 101), .inr (1, 8), .inr (0, 8), .inr (1, 20000), .inr (1, 20000), .inr (0, 20000), .inr (0, 2800), .inr (1, 200), .inr (0, 1400), .inr (0, 108), .inr (0, 108), .inr (0, 108), .inr (0, 6000), .inr (0, 6000), .inr (0, 2001), .inr (0, 2102)]
set_option maxRecDepth 100000 in
theorem bk_Gr_openRule_0 {σ : tp_S} {K : Int32 → tp_S → Prop} (x1 : Int32) (h : (¬ (σ.1 1 4) = 0 →
      K (-1 : Int32) σ) ∧
    ((σ.1 1 4) = 0 →
      tp_W shC m_Tp_isKind 0 [some (.int x1)] [] σ (tp_Qi fun r1 σ1 => (r1 = 0 →
        K (-1 : Int32) σ1) ∧
      (¬ r1 = 0 →
        ((σ1.1 1 3) < (nI 24) →
          ((nI 1) = 0 ∨ (nI 1) = 1) ∧ vp_in (σ1.1 1 3) 24 ∧ vp_in (σ1.1 1 3) 25 ∧ vp_in ((σ1.1 1 3) * (nI 7)) 170 ∧ K (σ1.1 1 3) (tp_si (tp_si (tp_si (tp_si σ1 1 4 (nI 1)) 2 (σ1.1 1 3).toNatClampNeg x1) 3 (σ1.1 1 3).toNatClampNeg (nI 0)) 4 ((σ1.1 1 3) * (nI 7)).toNatClampNeg (-1 : Int32))) ∧
        (¬ (σ1.1 1 3) < (nI 24) →
          K (-1 : Int32) σ1))))) : tp_W shC m_Gr_openRule 0 [some (.ref 1), some (.int x1)] [] σ (tp_Qi K) := tp_go ⟨ok_Gr_openRule, rfl⟩ 40 [] h
set_option maxRecDepth 100000 in
theorem bk_Gr_extendRule_0 {σ : tp_S} {K : Int32 → tp_S → Prop} (x1 : Int32) (h : ((σ.1 1 4) = 0 →
      K (-1 : Int32) σ) ∧
    (¬ (σ.1 1 4) = 0 →
      (x1 = (-1 : Int32) →
        K (-1 : Int32) σ) ∧
      (¬ x1 = (-1 : Int32) →
        (x1 = 0 →
          K (-1 : Int32) σ) ∧
        (¬ x1 = 0 →
          vp_in (σ.1 1 3) 25 ∧ ((σ.1 3 (σ.1 1 3).toNatClampNeg) < (nI 6) →
            vp_in (σ.1 1 3) 25 ∧ vp_in (((σ.1 1 3) * (nI 7)) + (σ.1 3 (σ.1 1 3).toNatClampNeg)) 170 ∧ vp_in ((((σ.1 1 3) * (nI 7)) + (σ.1 3 (σ.1 1 3).toNatClampNeg)) + (nI 1)) 170 ∧ vp_in (σ.1 1 3) 25 ∧ vp_in (σ.1 1 3) 25 ∧ vp_in (σ.1 1 3) 25 ∧ K ((tp_si (tp_si (tp_si σ 4 (((σ.1 1 3) * (nI 7)) + (σ.1 3 (σ.1 1 3).toNatClampNeg)).toNatClampNeg x1) 4 ((((σ.1 1 3) * (nI 7)) + (σ.1 3 (σ.1 1 3).toNatClampNeg)) + (nI 1)).toNatClampNeg (-1 : Int32)) 3 (σ.1 1 3).toNatClampNeg ((σ.1 3 (σ.1 1 3).toNatClampNeg) + (nI 1))).1 3 (σ.1 1 3).toNatClampNeg) (tp_si (tp_si (tp_si σ 4 (((σ.1 1 3) * (nI 7)) + (σ.1 3 (σ.1 1 3).toNatClampNeg)).toNatClampNeg x1) 4 ((((σ.1 1 3) * (nI 7)) + (σ.1 3 (σ.1 1 3).toNatClampNeg)) + (nI 1)).toNatClampNeg (-1 : Int32)) 3 (σ.1 1 3).toNatClampNeg ((σ.1 3 (σ.1 1 3).toNatClampNeg) + (nI 1)))) ∧
          (¬ (σ.1 3 (σ.1 1 3).toNatClampNeg) < (nI 6) →
            K (-1 : Int32) σ))))) : tp_W shC m_Gr_extendRule 0 [some (.ref 1), some (.int x1), none] [] σ (tp_Qi K) := tp_go ⟨ok_Gr_extendRule, rfl⟩ 57 [] h
set_option maxRecDepth 100000 in
theorem bk_Gr_closeRule_0 {σ : tp_S} {K : Int32 → tp_S → Prop}  (h : (¬ (σ.1 1 4) = 0 →
      ((nI 0) = 0 ∨ (nI 0) = 1) ∧ ((nI 1) = 0 ∨ (nI 1) = 1) ∧ K (nI 1) (tp_si (tp_si σ 1 4 (nI 0)) 1 3 ((σ.1 1 3) + (nI 1)))) ∧
    ((σ.1 1 4) = 0 →
      ((nI 0) = 0 ∨ (nI 0) = 1) ∧ K (nI 0) σ)) : tp_W shC m_Gr_closeRule 0 [some (.ref 1)] [] σ (tp_Qi K) := tp_go ⟨ok_Gr_closeRule, rfl⟩ 18 [] h
set_option maxRecDepth 100000 in
theorem bk_Gr_forgetRules_0 {σ : tp_S} {K : Int32 → tp_S → Prop}  (h : ((σ.1 1 4) = 0 →
      ((nI 0) = 0 ∨ (nI 0) = 1) ∧ K (σ.1 1 3) (tp_si (tp_si σ 1 4 (nI 0)) 1 3 (nI 0))) ∧
    (¬ (σ.1 1 4) = 0 →
      ((nI 0) = 0 ∨ (nI 0) = 1) ∧ K ((σ.1 1 3) + (nI 1)) (tp_si (tp_si σ 1 4 (nI 0)) 1 3 (nI 0)))) : tp_W shC m_Gr_forgetRules 0 [some (.ref 1), none] [] σ (tp_Qi K) := tp_go ⟨ok_Gr_forgetRules, rfl⟩ 21 [] h
set_option maxRecDepth 100000 in
theorem bk_Op_find_0 {σ : tp_S} {K : tp_S → Prop}  (h : tp_W shC m_JA_fillI 0 [some (.ref 6), some (.int (nI 0)), none, none] [] σ (tp_Qv fun σ1 => tp_W shC m_Op_find 12 [some (.ref 5), some (.int (nI 1)), some (.int (nI 0))] [] σ1 (tp_Qv K))) : tp_W shC m_Op_find 0 [some (.ref 5), none, none] [] σ (tp_Qv K) := tp_go ⟨ok_Op_find, rfl⟩ 36 [(12, [true, true, true]), (35, [true, false, true])] h
set_option maxRecDepth 100000 in
theorem bk_Op_find_12 {σ : tp_S} {K : tp_S → Prop} (x1 : Int32) (x2 : Int32) (h : (x1 = 0 →
      tp_W shC m_Op_find 35 [some (.ref 5), none, some (.int (nI 0))] [] σ (tp_Qv K)) ∧
    (¬ x1 = 0 →
      ((nI 121) ≤ x2 →
        tp_W shC m_Op_find 35 [some (.ref 5), none, some (.int (nI 0))] [] σ (tp_Qv K)) ∧
      (¬ (nI 121) ≤ x2 →
        tp_W shC m_Op_widenKinds 0 [some (.ref 5), none, none, none, none] [] σ (tp_Qi fun r1 σ1 => tp_W shC m_Op_find 12 [some (.ref 5), some (.int r1), some (.int (x2 + (nI 1)))] [] σ1 (tp_Qv K))))) : tp_W shC m_Op_find 12 [some (.ref 5), some (.int x1), some (.int x2)] [] σ (tp_Qv K) := tp_go ⟨ok_Op_find, rfl⟩ 36 [(12, [true, true, true]), (35, [true, false, true])] h
set_option maxRecDepth 100000 in
theorem bk_Op_find_35 {σ : tp_S} {K : tp_S → Prop} (x2 : Int32) (h : tp_W shC m_Gr_rules 0 [some (.ref 1)] [] σ (tp_Qi fun r1 σ1 => (r1 ≤ x2 →
      tp_W shC m_Op_findRests 0 [some (.ref 5), some (.int (nI 24)), none] [] σ1 (tp_Qv fun σ2 => K σ2)) ∧
    (¬ r1 ≤ x2 →
      tp_W shC m_Op_findRests 0 [some (.ref 5), some (.int x2), none] [] σ1 (tp_Qv fun σ3 => tp_W shC m_Op_find 35 [some (.ref 5), none, some (.int (x2 + (nI 1)))] [] σ3 (tp_Qv K))))) : tp_W shC m_Op_find 35 [some (.ref 5), none, some (.int x2)] [] σ (tp_Qv K) := tp_go ⟨ok_Op_find, rfl⟩ 36 [(12, [true, true, true]), (35, [true, false, true])] h
set_option maxRecDepth 100000 in
theorem bk_JA_fillI_6_0 {σ : tp_S} {K : tp_S → Prop} (x1 : Int32) (h : tp_W shC m_JA_fillI 5 [some (.ref 6), some (.int x1), some (.int (nI 0)), some (.int (nI 8))] [] σ (tp_Qv K)) : tp_W shC m_JA_fillI 0 [some (.ref 6), some (.int x1), none, none] [] σ (tp_Qv K) := tp_go ⟨ok_JA_fillI, rfl⟩ 17 [(5, [true, true, true, true])] h
set_option maxRecDepth 100000 in
theorem bk_JA_fillI_6_5 {σ : tp_S} {K : tp_S → Prop} (x1 : Int32) (x2 : Int32) (x3 : Int32) (h : (x3 ≤ x2 →
      K σ) ∧
    (¬ x3 ≤ x2 →
      vp_in x2 8 ∧ tp_W shC m_JA_fillI 5 [some (.ref 6), some (.int x1), some (.int (x2 + (nI 1))), some (.int x3)] [] (tp_si σ 6 x2.toNatClampNeg x1) (tp_Qv K))) : tp_W shC m_JA_fillI 5 [some (.ref 6), some (.int x1), some (.int x2), some (.int x3)] [] σ (tp_Qv K) := tp_go ⟨ok_JA_fillI, rfl⟩ 17 [(5, [true, true, true, true])] h
set_option maxRecDepth 100000 in
theorem bk_JA_fillI_9_0 {σ : tp_S} {K : tp_S → Prop} (x1 : Int32) (h : tp_W shC m_JA_fillI 5 [some (.ref 9), some (.int x1), some (.int (nI 0)), some (.int (nI 2200))] [] σ (tp_Qv K)) : tp_W shC m_JA_fillI 0 [some (.ref 9), some (.int x1), none, none] [] σ (tp_Qv K) := tp_go ⟨ok_JA_fillI, rfl⟩ 17 [(5, [true, true, true, true])] h
set_option maxRecDepth 100000 in
theorem bk_JA_fillI_9_5 {σ : tp_S} {K : tp_S → Prop} (x1 : Int32) (x2 : Int32) (x3 : Int32) (h : (x3 ≤ x2 →
      K σ) ∧
    (¬ x3 ≤ x2 →
      vp_in x2 2200 ∧ tp_W shC m_JA_fillI 5 [some (.ref 9), some (.int x1), some (.int (x2 + (nI 1))), some (.int x3)] [] (tp_si σ 9 x2.toNatClampNeg x1) (tp_Qv K))) : tp_W shC m_JA_fillI 5 [some (.ref 9), some (.int x1), some (.int x2), some (.int x3)] [] σ (tp_Qv K) := tp_go ⟨ok_JA_fillI, rfl⟩ 17 [(5, [true, true, true, true])] h
set_option maxRecDepth 100000 in
theorem bk_JA_fillI_21_0 {σ : tp_S} {K : tp_S → Prop} (x1 : Int32) (h : tp_W shC m_JA_fillI 5 [some (.ref 21), some (.int x1), some (.int (nI 0)), some (.int (nI 108))] [] σ (tp_Qv K)) : tp_W shC m_JA_fillI 0 [some (.ref 21), some (.int x1), none, none] [] σ (tp_Qv K) := tp_go ⟨ok_JA_fillI, rfl⟩ 17 [(5, [true, true, true, true])] h
set_option maxRecDepth 100000 in
theorem bk_JA_fillI_21_5 {σ : tp_S} {K : tp_S → Prop} (x1 : Int32) (x2 : Int32) (x3 : Int32) (h : (x3 ≤ x2 →
      K σ) ∧
    (¬ x3 ≤ x2 →
      vp_in x2 108 ∧ tp_W shC m_JA_fillI 5 [some (.ref 21), some (.int x1), some (.int (x2 + (nI 1))), some (.int x3)] [] (tp_si σ 21 x2.toNatClampNeg x1) (tp_Qv K))) : tp_W shC m_JA_fillI 5 [some (.ref 21), some (.int x1), some (.int x2), some (.int x3)] [] σ (tp_Qv K) := tp_go ⟨ok_JA_fillI, rfl⟩ 17 [(5, [true, true, true, true])] h
set_option maxRecDepth 100000 in
theorem bk_JA_fillI_22_0 {σ : tp_S} {K : tp_S → Prop} (x1 : Int32) (h : tp_W shC m_JA_fillI 5 [some (.ref 22), some (.int x1), some (.int (nI 0)), some (.int (nI 2200))] [] σ (tp_Qv K)) : tp_W shC m_JA_fillI 0 [some (.ref 22), some (.int x1), none, none] [] σ (tp_Qv K) := tp_go ⟨ok_JA_fillI, rfl⟩ 17 [(5, [true, true, true, true])] h
set_option maxRecDepth 100000 in
theorem bk_JA_fillI_22_5 {σ : tp_S} {K : tp_S → Prop} (x1 : Int32) (x2 : Int32) (x3 : Int32) (h : (x3 ≤ x2 →
      K σ) ∧
    (¬ x3 ≤ x2 →
      vp_in x2 2200 ∧ tp_W shC m_JA_fillI 5 [some (.ref 22), some (.int x1), some (.int (x2 + (nI 1))), some (.int x3)] [] (tp_si σ 22 x2.toNatClampNeg x1) (tp_Qv K))) : tp_W shC m_JA_fillI 5 [some (.ref 22), some (.int x1), some (.int x2), some (.int x3)] [] σ (tp_Qv K) := tp_go ⟨ok_JA_fillI, rfl⟩ 17 [(5, [true, true, true, true])] h
set_option maxRecDepth 100000 in
theorem bk_JA_fillI_23_0 {σ : tp_S} {K : tp_S → Prop} (x1 : Int32) (h : tp_W shC m_JA_fillI 5 [some (.ref 23), some (.int x1), some (.int (nI 0)), some (.int (nI 100))] [] σ (tp_Qv K)) : tp_W shC m_JA_fillI 0 [some (.ref 23), some (.int x1), none, none] [] σ (tp_Qv K) := tp_go ⟨ok_JA_fillI, rfl⟩ 17 [(5, [true, true, true, true])] h
set_option maxRecDepth 100000 in
theorem bk_JA_fillI_23_5 {σ : tp_S} {K : tp_S → Prop} (x1 : Int32) (x2 : Int32) (x3 : Int32) (h : (x3 ≤ x2 →
      K σ) ∧
    (¬ x3 ≤ x2 →
      vp_in x2 100 ∧ tp_W shC m_JA_fillI 5 [some (.ref 23), some (.int x1), some (.int (x2 + (nI 1))), some (.int x3)] [] (tp_si σ 23 x2.toNatClampNeg x1) (tp_Qv K))) : tp_W shC m_JA_fillI 5 [some (.ref 23), some (.int x1), some (.int x2), some (.int x3)] [] σ (tp_Qv K) := tp_go ⟨ok_JA_fillI, rfl⟩ 17 [(5, [true, true, true, true])] h
set_option maxRecDepth 100000 in
theorem bk_Op_widenKinds_0 {σ : tp_S} {K : Int32 → tp_S → Prop}  (h : tp_W shC m_Op_widenKinds 4 [some (.ref 5), some (.int (nI 0)), some (.int (nI 0)), none, none] [] σ (tp_Qi K)) : tp_W shC m_Op_widenKinds 0 [some (.ref 5), none, none, none, none] [] σ (tp_Qi K) := tp_go ⟨ok_Op_widenKinds, rfl⟩ 47 [(4, [true, true, true, false, false])] h
set_option maxRecDepth 100000 in
theorem bk_Op_widenKinds_4 {σ : tp_S} {K : Int32 → tp_S → Prop} (x1 : Int32) (x2 : Int32) (h : tp_W shC m_Gr_rules 0 [some (.ref 1)] [] σ (tp_Qi fun r1 σ1 => (r1 ≤ x2 →
      (x1 = 0 ∨ x1 = 1) ∧ K x1 σ1) ∧
    (¬ r1 ≤ x2 →
      tp_W shC m_Gr_kindOf 0 [some (.ref 1), some (.int x2)] [] σ1 (tp_Qi fun r2 σ2 => vp_in r2 8 ∧ tp_W shC m_Op_ofRow 0 [some (.ref 5), some (.int x2), some (.int (nI 0)), none, none, none, none] [] σ2 (tp_Qi fun r3 σ3 => (¬ x1 = 0 →
        vp_in r2 8 ∧ tp_W shC m_Op_widenKinds 4 [some (.ref 5), some (.int (nI 1)), some (.int (x2 + (nI 1))), none, none] [] (tp_si σ3 6 r2.toNatClampNeg ((σ2.1 6 r2.toNatClampNeg) ||| r3)) (tp_Qi K)) ∧
      (x1 = 0 →
        vp_in r2 8 ∧ (((σ2.1 6 r2.toNatClampNeg) ||| r3) = (σ3.1 6 r2.toNatClampNeg) →
          vp_in r2 8 ∧ tp_W shC m_Op_widenKinds 4 [some (.ref 5), some (.int (nI 0)), some (.int (x2 + (nI 1))), none, none] [] (tp_si σ3 6 r2.toNatClampNeg ((σ2.1 6 r2.toNatClampNeg) ||| r3)) (tp_Qi K)) ∧
        (¬ ((σ2.1 6 r2.toNatClampNeg) ||| r3) = (σ3.1 6 r2.toNatClampNeg) →
          vp_in r2 8 ∧ tp_W shC m_Op_widenKinds 4 [some (.ref 5), some (.int (nI 1)), some (.int (x2 + (nI 1))), none, none] [] (tp_si σ3 6 r2.toNatClampNeg ((σ2.1 6 r2.toNatClampNeg) ||| r3)) (tp_Qi K)))))))) : tp_W shC m_Op_widenKinds 4 [some (.ref 5), some (.int x1), some (.int x2), none, none] [] σ (tp_Qi K) := tp_go ⟨ok_Op_widenKinds, rfl⟩ 47 [(4, [true, true, true, false, false])] h
set_option maxRecDepth 100000 in
theorem bk_Gr_rules_0 {σ : tp_S} {K : Int32 → tp_S → Prop}  (h : K (σ.1 1 3) σ) : tp_W shC m_Gr_rules 0 [some (.ref 1)] [] σ (tp_Qi K) := tp_go ⟨ok_Gr_rules, rfl⟩ 5 [] h
set_option maxRecDepth 100000 in
theorem bk_Gr_kindOf_0 {σ : tp_S} {K : Int32 → tp_S → Prop} (x1 : Int32) (h : vp_in x1 24 ∧ K (σ.1 2 x1.toNatClampNeg) σ) : tp_W shC m_Gr_kindOf 0 [some (.ref 1), some (.int x1)] [] σ (tp_Qi K) := tp_go ⟨ok_Gr_kindOf, rfl⟩ 7 [] h
set_option maxRecDepth 100000 in
theorem bk_Op_ofRow_0 {σ : tp_S} {K : Int32 → tp_S → Prop} (x1 : Int32) (x2 : Int32) (h : tp_W shC m_Op_ofRow 5 [some (.ref 5), some (.int x1), none, some (.int (nI 0)), some (.int x2), none, none] [] σ (tp_Qi K)) : tp_W shC m_Op_ofRow 0 [some (.ref 5), some (.int x1), some (.int x2), none, none, none, none] [] σ (tp_Qi K) := tp_go ⟨ok_Op_ofRow, rfl⟩ 53 [(5, [true, true, false, true, true, false, false])] h
set_option maxRecDepth 100000 in
theorem bk_Op_ofRow_5 {σ : tp_S} {K : Int32 → tp_S → Prop} (x1 : Int32) (x3 : Int32) (x4 : Int32) (h : tp_W shC m_Gr_lengthOf 0 [some (.ref 1), some (.int x1)] [] σ (tp_Qi fun r1 σ1 => (r1 ≤ x4 →
      K (x3 ||| (nI 16384)) σ1) ∧
    (¬ r1 ≤ x4 →
      tp_W shC m_Gr_columnAt 0 [some (.ref 1), some (.int ((x1 * (nI 7)) + x4))] [] σ1 (tp_Qi fun r2 σ2 => ((nI 14) ≤ r2 →
        vp_in (r2 - (nI 14)) 8 ∧ (¬ ((σ2.1 6 (r2 - (nI 14)).toNatClampNeg) &&& (nI 16384)) = 0 →
          tp_W shC m_Op_ofRow 5 [some (.ref 5), some (.int x1), none, some (.int (x3 ||| ((σ2.1 6 (r2 - (nI 14)).toNatClampNeg) &&& (nI 16383)))), some (.int (x4 + (nI 1))), none, none] [] σ2 (tp_Qi K)) ∧
        (((σ2.1 6 (r2 - (nI 14)).toNatClampNeg) &&& (nI 16384)) = 0 →
          K (x3 ||| ((σ2.1 6 (r2 - (nI 14)).toNatClampNeg) &&& (nI 16383))) σ2)) ∧
      (¬ (nI 14) ≤ r2 →
        (¬ (((nI 1) <<< (r2 &&& 31)) &&& (nI 16384)) = 0 →
          tp_W shC m_Op_ofRow 5 [some (.ref 5), some (.int x1), none, some (.int (x3 ||| (((nI 1) <<< (r2 &&& 31)) &&& (nI 16383)))), some (.int (x4 + (nI 1))), none, none] [] σ2 (tp_Qi K)) ∧
        ((((nI 1) <<< (r2 &&& 31)) &&& (nI 16384)) = 0 →
          K (x3 ||| (((nI 1) <<< (r2 &&& 31)) &&& (nI 16383))) σ2)))))) : tp_W shC m_Op_ofRow 5 [some (.ref 5), some (.int x1), none, some (.int x3), some (.int x4), none, none] [] σ (tp_Qi K) := tp_go ⟨ok_Op_ofRow, rfl⟩ 53 [(5, [true, true, false, true, true, false, false])] h
set_option maxRecDepth 100000 in
theorem bk_Gr_lengthOf_0 {σ : tp_S} {K : Int32 → tp_S → Prop} (x1 : Int32) (h : vp_in x1 25 ∧ K (σ.1 3 x1.toNatClampNeg) σ) : tp_W shC m_Gr_lengthOf 0 [some (.ref 1), some (.int x1)] [] σ (tp_Qi K) := tp_go ⟨ok_Gr_lengthOf, rfl⟩ 7 [] h
set_option maxRecDepth 100000 in
theorem bk_Gr_columnAt_0 {σ : tp_S} {K : Int32 → tp_S → Prop} (x1 : Int32) (h : vp_in x1 170 ∧ K (σ.1 4 x1.toNatClampNeg) σ) : tp_W shC m_Gr_columnAt 0 [some (.ref 1), some (.int x1)] [] σ (tp_Qi K) := tp_go ⟨ok_Gr_columnAt, rfl⟩ 7 [] h
set_option maxRecDepth 100000 in
theorem bk_Op_findRests_0 {σ : tp_S} {K : tp_S → Prop} (x1 : Int32) (h : tp_W shC m_Op_findRests 2 [some (.ref 5), some (.int x1), some (.int (nI 0))] [] σ (tp_Qv K)) : tp_W shC m_Op_findRests 0 [some (.ref 5), some (.int x1), none] [] σ (tp_Qv K) := tp_go ⟨ok_Op_findRests, rfl⟩ 27 [(2, [true, true, true])] h
set_option maxRecDepth 100000 in
theorem bk_Op_findRests_2 {σ : tp_S} {K : tp_S → Prop} (x1 : Int32) (x2 : Int32) (h : tp_W shC m_Gr_lengthOf 0 [some (.ref 1), some (.int x1)] [] σ (tp_Qi fun r1 σ1 => (r1 ≤ x2 →
      K σ1) ∧
    (¬ r1 ≤ x2 →
      tp_W shC m_Op_ofRow 0 [some (.ref 5), some (.int x1), some (.int (x2 + (nI 1))), none, none, none, none] [] σ1 (tp_Qi fun r2 σ2 => vp_in ((x1 * (nI 7)) + x2) 170 ∧ tp_W shC m_Op_findRests 2 [some (.ref 5), some (.int x1), some (.int (x2 + (nI 1)))] [] (tp_si σ2 7 ((x1 * (nI 7)) + x2).toNatClampNeg r2) (tp_Qv K))))) : tp_W shC m_Op_findRests 2 [some (.ref 5), some (.int x1), some (.int x2)] [] σ (tp_Qv K) := tp_go ⟨ok_Op_findRests, rfl⟩ 27 [(2, [true, true, true])] h
set_option maxRecDepth 100000 in
theorem bk_JA_fillL_11_0 {σ : tp_S} {K : tp_S → Prop} (x1 : Int64) (h : tp_W shC m_JA_fillL 6 [some (.ref 11), some (.long x1), none, some (.int (nI 0)), some (.int (nI 300))] [] σ (tp_Qv K)) : tp_W shC m_JA_fillL 0 [some (.ref 11), some (.long x1), none, none, none] [] σ (tp_Qv K) := tp_go ⟨ok_JA_fillL, rfl⟩ 17 [(6, [true, true, false, true, true])] h
set_option maxRecDepth 100000 in
theorem bk_JA_fillL_11_6 {σ : tp_S} {K : tp_S → Prop} (x1 : Int64) (x3 : Int32) (x4 : Int32) (h : (x4 ≤ x3 →
      K σ) ∧
    (¬ x4 ≤ x3 →
      vp_in x3 300 ∧ tp_W shC m_JA_fillL 6 [some (.ref 11), some (.long x1), none, some (.int (x3 + (nI 1))), some (.int x4)] [] (tp_sl σ 11 x3.toNatClampNeg x1) (tp_Qv K))) : tp_W shC m_JA_fillL 6 [some (.ref 11), some (.long x1), none, some (.int x3), some (.int x4)] [] σ (tp_Qv K) := tp_go ⟨ok_JA_fillL, rfl⟩ 17 [(6, [true, true, false, true, true])] h
set_option maxRecDepth 100000 in
theorem bk_JA_fillL_12_0 {σ : tp_S} {K : tp_S → Prop} (x1 : Int64) (h : tp_W shC m_JA_fillL 6 [some (.ref 12), some (.long x1), none, some (.int (nI 0)), some (.int (nI 66))] [] σ (tp_Qv K)) : tp_W shC m_JA_fillL 0 [some (.ref 12), some (.long x1), none, none, none] [] σ (tp_Qv K) := tp_go ⟨ok_JA_fillL, rfl⟩ 17 [(6, [true, true, false, true, true])] h
set_option maxRecDepth 100000 in
theorem bk_JA_fillL_12_6 {σ : tp_S} {K : tp_S → Prop} (x1 : Int64) (x3 : Int32) (x4 : Int32) (h : (x4 ≤ x3 →
      K σ) ∧
    (¬ x4 ≤ x3 →
      vp_in x3 66 ∧ tp_W shC m_JA_fillL 6 [some (.ref 12), some (.long x1), none, some (.int (x3 + (nI 1))), some (.int x4)] [] (tp_sl σ 12 x3.toNatClampNeg x1) (tp_Qv K))) : tp_W shC m_JA_fillL 6 [some (.ref 12), some (.long x1), none, some (.int x3), some (.int x4)] [] σ (tp_Qv K) := tp_go ⟨ok_JA_fillL, rfl⟩ 17 [(6, [true, true, false, true, true])] h
set_option maxRecDepth 100000 in
theorem bk_JA_fillL_13_0 {σ : tp_S} {K : tp_S → Prop} (x1 : Int64) (h : tp_W shC m_JA_fillL 6 [some (.ref 13), some (.long x1), none, some (.int (nI 0)), some (.int (nI 24))] [] σ (tp_Qv K)) : tp_W shC m_JA_fillL 0 [some (.ref 13), some (.long x1), none, none, none] [] σ (tp_Qv K) := tp_go ⟨ok_JA_fillL, rfl⟩ 17 [(6, [true, true, false, true, true])] h
set_option maxRecDepth 100000 in
theorem bk_JA_fillL_13_6 {σ : tp_S} {K : tp_S → Prop} (x1 : Int64) (x3 : Int32) (x4 : Int32) (h : (x4 ≤ x3 →
      K σ) ∧
    (¬ x4 ≤ x3 →
      vp_in x3 24 ∧ tp_W shC m_JA_fillL 6 [some (.ref 13), some (.long x1), none, some (.int (x3 + (nI 1))), some (.int x4)] [] (tp_sl σ 13 x3.toNatClampNeg x1) (tp_Qv K))) : tp_W shC m_JA_fillL 6 [some (.ref 13), some (.long x1), none, some (.int x3), some (.int x4)] [] σ (tp_Qv K) := tp_go ⟨ok_JA_fillL, rfl⟩ 17 [(6, [true, true, false, true, true])] h
set_option maxRecDepth 100000 in
theorem bk_JA_fillL_14_0 {σ : tp_S} {K : tp_S → Prop} (x1 : Int64) (h : tp_W shC m_JA_fillL 6 [some (.ref 14), some (.long x1), none, some (.int (nI 0)), some (.int (nI 3))] [] σ (tp_Qv K)) : tp_W shC m_JA_fillL 0 [some (.ref 14), some (.long x1), none, none, none] [] σ (tp_Qv K) := tp_go ⟨ok_JA_fillL, rfl⟩ 17 [(6, [true, true, false, true, true])] h
set_option maxRecDepth 100000 in
theorem bk_JA_fillL_14_6 {σ : tp_S} {K : tp_S → Prop} (x1 : Int64) (x3 : Int32) (x4 : Int32) (h : (x4 ≤ x3 →
      K σ) ∧
    (¬ x4 ≤ x3 →
      vp_in x3 3 ∧ tp_W shC m_JA_fillL 6 [some (.ref 14), some (.long x1), none, some (.int (x3 + (nI 1))), some (.int x4)] [] (tp_sl σ 14 x3.toNatClampNeg x1) (tp_Qv K))) : tp_W shC m_JA_fillL 6 [some (.ref 14), some (.long x1), none, some (.int x3), some (.int x4)] [] σ (tp_Qv K) := tp_go ⟨ok_JA_fillL, rfl⟩ 17 [(6, [true, true, false, true, true])] h
set_option maxRecDepth 100000 in
theorem bk_JA_fillL_16_0 {σ : tp_S} {K : tp_S → Prop} (x1 : Int64) (h : tp_W shC m_JA_fillL 6 [some (.ref 16), some (.long x1), none, some (.int (nI 0)), some (.int (nI 4300))] [] σ (tp_Qv K)) : tp_W shC m_JA_fillL 0 [some (.ref 16), some (.long x1), none, none, none] [] σ (tp_Qv K) := tp_go ⟨ok_JA_fillL, rfl⟩ 17 [(6, [true, true, false, true, true])] h
set_option maxRecDepth 100000 in
theorem bk_JA_fillL_16_6 {σ : tp_S} {K : tp_S → Prop} (x1 : Int64) (x3 : Int32) (x4 : Int32) (h : (x4 ≤ x3 →
      K σ) ∧
    (¬ x4 ≤ x3 →
      vp_in x3 4300 ∧ tp_W shC m_JA_fillL 6 [some (.ref 16), some (.long x1), none, some (.int (x3 + (nI 1))), some (.int x4)] [] (tp_sl σ 16 x3.toNatClampNeg x1) (tp_Qv K))) : tp_W shC m_JA_fillL 6 [some (.ref 16), some (.long x1), none, some (.int x3), some (.int x4)] [] σ (tp_Qv K) := tp_go ⟨ok_JA_fillL, rfl⟩ 17 [(6, [true, true, false, true, true])] h
set_option maxRecDepth 100000 in
theorem bk_Pl_forgetMoves_0 {σ : tp_S} {K : tp_S → Prop}  (h : tp_W shC m_JA_fillI 0 [some (.ref 9), some (.int (nI 0)), none, none] [] σ (tp_Qv fun σ1 => K (tp_si σ1 8 1 (nI 0)))) : tp_W shC m_Pl_forgetMoves 0 [some (.ref 8)] [] σ (tp_Qv K) := tp_go ⟨ok_Pl_forgetMoves, rfl⟩ 10 [] h
set_option maxRecDepth 100000 in
theorem bk_Pl_addLead_0 {σ : tp_S} {K : tp_S → Prop} (x1 : Int32) (x2 : Int32) (x3 : Int32) (h : vp_in ((x1 * (nI 22)) + x2) 2200 ∧ K (tp_si σ 9 ((x1 * (nI 22)) + x2).toNatClampNeg ((nI 1000) + x3))) : tp_W shC m_Pl_addLead 0 [some (.ref 8), some (.int x1), some (.int x2), some (.int x3)] [] σ (tp_Qv K) := tp_go ⟨ok_Pl_addLead, rfl⟩ 14 [] h
set_option maxRecDepth 100000 in
theorem bk_Pl_leadAt_0 {σ : tp_S} {K : Int32 → tp_S → Prop} (x1 : Int32) (x2 : Int32) (h : vp_in ((x1 * (nI 22)) + x2) 2200 ∧ ((σ.1 9 ((x1 * (nI 22)) + x2).toNatClampNeg) < (nI 1000) →
      K (-1 : Int32) σ) ∧
    (¬ (σ.1 9 ((x1 * (nI 22)) + x2).toNatClampNeg) < (nI 1000) →
      ((nI 2000) ≤ (σ.1 9 ((x1 * (nI 22)) + x2).toNatClampNeg) →
        K (-1 : Int32) σ) ∧
      (¬ (nI 2000) ≤ (σ.1 9 ((x1 * (nI 22)) + x2).toNatClampNeg) →
        K ((σ.1 9 ((x1 * (nI 22)) + x2).toNatClampNeg) - (nI 1000)) σ))) : tp_W shC m_Pl_leadAt 0 [some (.ref 8), some (.int x1), some (.int x2), none] [] σ (tp_Qi K) := tp_go ⟨ok_Pl_leadAt, rfl⟩ 23 [] h
set_option maxRecDepth 100000 in
theorem bk_Op_ofRest_0 {σ : tp_S} {K : Int32 → tp_S → Prop} (x1 : Int32) (h : vp_in x1 170 ∧ K (σ.1 7 x1.toNatClampNeg) σ) : tp_W shC m_Op_ofRest 0 [some (.ref 5), some (.int x1)] [] σ (tp_Qi K) := tp_go ⟨ok_Op_ofRest, rfl⟩ 7 [] h
set_option maxRecDepth 100000 in
theorem bk_Pl_addReductions_1_10_15_0 {σ : tp_S} {K : tp_S → Prop}  (h : tp_W shC m_Pl_addReductions 3 [some (.ref 8), some (.ref 1), some (.ref 10), some (.ref 15), some (.int (nI 0)), none, none] [] σ (tp_Qv K)) : tp_W shC m_Pl_addReductions 0 [some (.ref 8), some (.ref 1), some (.ref 10), some (.ref 15), none, none, none] [] σ (tp_Qv K) := tp_go ⟨ok_Pl_addReductions, rfl⟩ 54 [(3, [true, true, true, true, true, false, false]), (42, [true, true, true, true, true, true, false])] h
set_option maxRecDepth 100000 in
theorem bk_Pl_addReductions_1_10_15_3 {σ : tp_S} {K : tp_S → Prop} (x4 : Int32) (h : tp_W shC m_St_size 0 [some (.ref 10)] [] σ (tp_Qi fun r1 σ1 => (r1 ≤ x4 →
      K σ1) ∧
    (¬ r1 ≤ x4 →
      tp_W shC m_St_holds 0 [some (.ref 10), some (.int x4), some (.int (nI 169))] [] σ1 (tp_Qi fun r2 σ2 => (r2 = 0 →
        tp_W shC m_Pl_addReductions 42 [some (.ref 8), some (.ref 1), some (.ref 10), some (.ref 15), some (.int x4), some (.int (nI 0)), none] [] σ2 (tp_Qv K)) ∧
      (¬ r2 = 0 →
        vp_in ((x4 * (nI 22)) + (nI 0)) 2200 ∧ tp_W shC m_Pl_addReductions 42 [some (.ref 8), some (.ref 1), some (.ref 10), some (.ref 15), some (.int x4), some (.int (nI 0)), none] [] (tp_si σ2 9 ((x4 * (nI 22)) + (nI 0)).toNatClampNeg (nI 2000)) (tp_Qv K)))))) : tp_W shC m_Pl_addReductions 3 [some (.ref 8), some (.ref 1), some (.ref 10), some (.ref 15), some (.int x4), none, none] [] σ (tp_Qv K) := tp_go ⟨ok_Pl_addReductions, rfl⟩ 54 [(3, [true, true, true, true, true, false, false]), (42, [true, true, true, true, true, true, false])] h
set_option maxRecDepth 100000 in
theorem bk_Pl_addReductions_1_10_15_42 {σ : tp_S} {K : tp_S → Prop} (x4 : Int32) (x5 : Int32) (h : tp_W shC m_Gr_rules 0 [some (.ref 1)] [] σ (tp_Qi fun r1 σ1 => (r1 ≤ x5 →
      tp_W shC m_Pl_addReductions 3 [some (.ref 8), some (.ref 1), some (.ref 10), some (.ref 15), some (.int (x4 + (nI 1))), none, none] [] σ1 (tp_Qv K)) ∧
    (¬ r1 ≤ x5 →
      tp_W shC m_Gr_lengthOf 0 [some (.ref 1), some (.int x5)] [] σ1 (tp_Qi fun r2 σ2 => tp_W shC m_St_holds 0 [some (.ref 10), some (.int x4), some (.int ((x5 * (nI 7)) + r2))] [] σ2 (tp_Qi fun r3 σ3 => (r3 = 0 →
        tp_W shC m_Pl_addReductions 42 [some (.ref 8), some (.ref 1), some (.ref 10), some (.ref 15), some (.int x4), some (.int (x5 + (nI 1))), none] [] σ3 (tp_Qv K)) ∧
      (¬ r3 = 0 →
        tp_W shC m_La_setOf 0 [some (.ref 15), some (.int x4), some (.int ((x5 * (nI 7)) + r2))] [] σ3 (tp_Qi fun r4 σ4 => tp_W shC m_Pl_addReduction 0 [some (.ref 8), some (.int x4), some (.int x5), some (.int r4), none, none] [] σ4 (tp_Qv fun σ5 => tp_W shC m_Pl_addReductions 42 [some (.ref 8), some (.ref 1), some (.ref 10), some (.ref 15), some (.int x4), some (.int (x5 + (nI 1))), none] [] σ5 (tp_Qv K))))))))) : tp_W shC m_Pl_addReductions 42 [some (.ref 8), some (.ref 1), some (.ref 10), some (.ref 15), some (.int x4), some (.int x5), none] [] σ (tp_Qv K) := tp_go ⟨ok_Pl_addReductions, rfl⟩ 54 [(3, [true, true, true, true, true, false, false]), (42, [true, true, true, true, true, true, false])] h
set_option maxRecDepth 100000 in
theorem bk_Pl_addReduction_0 {σ : tp_S} {K : tp_S → Prop} (x1 : Int32) (x2 : Int32) (x3 : Int32) (h : tp_W shC m_Pl_addReduction 3 [some (.ref 8), some (.int x1), some (.int x2), some (.int x3), some (.int (nI 0)), none] [] σ (tp_Qv K)) : tp_W shC m_Pl_addReduction 0 [some (.ref 8), some (.int x1), some (.int x2), some (.int x3), none, none] [] σ (tp_Qv K) := tp_go ⟨ok_Pl_addReduction, rfl⟩ 41 [(3, [true, true, true, true, true, false])] h
set_option maxRecDepth 100000 in
theorem bk_Pl_addReduction_3 {σ : tp_S} {K : tp_S → Prop} (x1 : Int32) (x2 : Int32) (x3 : Int32) (x4 : Int32) (h : ((nI 14) ≤ x4 →
      K σ) ∧
    (¬ (nI 14) ≤ x4 →
      (((Int32.toUInt32 x3 >>> (Int32.toUInt32 x4 &&& Int32.toUInt32 31)).toInt32 &&& (nI 1)) = 0 →
        tp_W shC m_Pl_addReduction 3 [some (.ref 8), some (.int x1), some (.int x2), some (.int x3), some (.int (x4 + (nI 1))), none] [] σ (tp_Qv K)) ∧
      (¬ ((Int32.toUInt32 x3 >>> (Int32.toUInt32 x4 &&& Int32.toUInt32 31)).toInt32 &&& (nI 1)) = 0 →
        vp_in ((x1 * (nI 22)) + x4) 2200 ∧ (¬ (σ.1 9 ((x1 * (nI 22)) + x4).toNatClampNeg) = 0 →
          tp_W shC m_Pl_addReduction 3 [some (.ref 8), some (.int x1), some (.int x2), some (.int x3), some (.int (x4 + (nI 1))), none] [] (tp_si σ 8 1 ((σ.1 8 1) + (nI 1))) (tp_Qv K)) ∧
        ((σ.1 9 ((x1 * (nI 22)) + x4).toNatClampNeg) = 0 →
          vp_in ((x1 * (nI 22)) + x4) 2200 ∧ tp_W shC m_Pl_addReduction 3 [some (.ref 8), some (.int x1), some (.int x2), some (.int x3), some (.int (x4 + (nI 1))), none] [] (tp_si σ 9 ((x1 * (nI 22)) + x4).toNatClampNeg ((nI 3000) + x2)) (tp_Qv K))))) : tp_W shC m_Pl_addReduction 3 [some (.ref 8), some (.int x1), some (.int x2), some (.int x3), some (.int x4), none] [] σ (tp_Qv K) := tp_go ⟨ok_Pl_addReduction, rfl⟩ 41 [(3, [true, true, true, true, true, false])] h
set_option maxRecDepth 100000 in
theorem bk_Pl_moveOn_0 {σ : tp_S} {K : Int32 → tp_S → Prop} (x1 : Int32) (x2 : Int32) (h : vp_in ((x1 * (nI 22)) + x2) 2200 ∧ K (σ.1 9 ((x1 * (nI 22)) + x2).toNatClampNeg) σ) : tp_W shC m_Pl_moveOn 0 [some (.ref 8), some (.int x1), some (.int x2)] [] σ (tp_Qi K) := tp_go ⟨ok_Pl_moveOn, rfl⟩ 11 [] h
set_option maxRecDepth 100000 in
theorem bk_Op_emptyKinds_0 {σ : tp_S} {K : Int32 → tp_S → Prop}  (h : tp_W shC m_Op_emptyKinds 4 [some (.ref 5), some (.int (nI 0)), some (.int (nI 0))] [] σ (tp_Qi K)) : tp_W shC m_Op_emptyKinds 0 [some (.ref 5), none, none] [] σ (tp_Qi K) := tp_go ⟨ok_Op_emptyKinds, rfl⟩ 26 [(4, [true, true, true])] h
set_option maxRecDepth 100000 in
theorem bk_Op_emptyKinds_4 {σ : tp_S} {K : Int32 → tp_S → Prop} (x1 : Int32) (x2 : Int32) (h : ((nI 8) ≤ x2 →
      K x1 σ) ∧
    (¬ (nI 8) ≤ x2 →
      vp_in x2 8 ∧ (((σ.1 6 x2.toNatClampNeg) &&& (nI 16384)) = 0 →
        tp_W shC m_Op_emptyKinds 4 [some (.ref 5), some (.int x1), some (.int (x2 + (nI 1)))] [] σ (tp_Qi K)) ∧
      (¬ ((σ.1 6 x2.toNatClampNeg) &&& (nI 16384)) = 0 →
        tp_W shC m_Op_emptyKinds 4 [some (.ref 5), some (.int (x1 ||| ((nI 1) <<< (x2 &&& 31)))), some (.int (x2 + (nI 1)))] [] σ (tp_Qi K)))) : tp_W shC m_Op_emptyKinds 4 [some (.ref 5), some (.int x1), some (.int x2)] [] σ (tp_Qi K) := tp_go ⟨ok_Op_emptyKinds, rfl⟩ 26 [(4, [true, true, true])] h
set_option maxRecDepth 100000 in
theorem bk_Pl_clashes_0 {σ : tp_S} {K : Int32 → tp_S → Prop}  (h : K (σ.1 8 1) σ) : tp_W shC m_Pl_clashes 0 [some (.ref 8)] [] σ (tp_Qi K) := tp_go ⟨ok_Pl_clashes, rfl⟩ 5 [] h
set_option maxRecDepth 100000 in
theorem bk_Op_ofKind_0 {σ : tp_S} {K : Int32 → tp_S → Prop} (x1 : Int32) (h : vp_in x1 8 ∧ K (σ.1 6 x1.toNatClampNeg) σ) : tp_W shC m_Op_ofKind 0 [some (.ref 5), some (.int x1)] [] σ (tp_Qi K) := tp_go ⟨ok_Op_ofKind, rfl⟩ 7 [] h
set_option maxRecDepth 100000 in
theorem bk_JL_bitCount_0 {σ : tp_S} {K : Int32 → tp_S → Prop} (x0 : Int64) (h : tp_W shC m_JL_bitCount 10 [some (.long (x0 - ((Int64.toUInt64 x0 >>> ((Int32.toInt64 (nI 1)).toUInt64 &&& Int64.toUInt64 63)).toInt64 &&& (6148914691236517205 : Int64)))), none] [] σ (tp_Qi K)) : tp_W shC m_JL_bitCount 0 [some (.long x0), none] [] σ (tp_Qi K) := tp_go ⟨ok_JL_bitCount, rfl⟩ 51 [(10, [true, false]), (24, [true, false]), (34, [true, false]), (41, [true, false]), (48, [true, false]), (55, [true, false])] h
set_option maxRecDepth 100000 in
theorem bk_JL_bitCount_10 {σ : tp_S} {K : Int32 → tp_S → Prop} (x0 : Int64) (h : tp_W shC m_JL_bitCount 24 [some (.long ((x0 &&& (3689348814741910323 : Int64)) + ((Int64.toUInt64 x0 >>> ((Int32.toInt64 (nI 2)).toUInt64 &&& Int64.toUInt64 63)).toInt64 &&& (3689348814741910323 : Int64)))), none] [] σ (tp_Qi K)) : tp_W shC m_JL_bitCount 10 [some (.long x0), none] [] σ (tp_Qi K) := tp_go ⟨ok_JL_bitCount, rfl⟩ 51 [(10, [true, false]), (24, [true, false]), (34, [true, false]), (41, [true, false]), (48, [true, false]), (55, [true, false])] h
set_option maxRecDepth 100000 in
theorem bk_JL_bitCount_24 {σ : tp_S} {K : Int32 → tp_S → Prop} (x0 : Int64) (h : tp_W shC m_JL_bitCount 34 [some (.long ((x0 + (Int64.toUInt64 x0 >>> ((Int32.toInt64 (nI 4)).toUInt64 &&& Int64.toUInt64 63)).toInt64) &&& (1085102592571150095 : Int64))), none] [] σ (tp_Qi K)) : tp_W shC m_JL_bitCount 24 [some (.long x0), none] [] σ (tp_Qi K) := tp_go ⟨ok_JL_bitCount, rfl⟩ 51 [(10, [true, false]), (24, [true, false]), (34, [true, false]), (41, [true, false]), (48, [true, false]), (55, [true, false])] h
set_option maxRecDepth 100000 in
theorem bk_JL_bitCount_34 {σ : tp_S} {K : Int32 → tp_S → Prop} (x0 : Int64) (h : tp_W shC m_JL_bitCount 41 [some (.long (x0 + (Int64.toUInt64 x0 >>> ((Int32.toInt64 (nI 8)).toUInt64 &&& Int64.toUInt64 63)).toInt64)), none] [] σ (tp_Qi K)) : tp_W shC m_JL_bitCount 34 [some (.long x0), none] [] σ (tp_Qi K) := tp_go ⟨ok_JL_bitCount, rfl⟩ 51 [(10, [true, false]), (24, [true, false]), (34, [true, false]), (41, [true, false]), (48, [true, false]), (55, [true, false])] h
set_option maxRecDepth 100000 in
theorem bk_JL_bitCount_41 {σ : tp_S} {K : Int32 → tp_S → Prop} (x0 : Int64) (h : tp_W shC m_JL_bitCount 48 [some (.long (x0 + (Int64.toUInt64 x0 >>> ((Int32.toInt64 (nI 16)).toUInt64 &&& Int64.toUInt64 63)).toInt64)), none] [] σ (tp_Qi K)) : tp_W shC m_JL_bitCount 41 [some (.long x0), none] [] σ (tp_Qi K) := tp_go ⟨ok_JL_bitCount, rfl⟩ 51 [(10, [true, false]), (24, [true, false]), (34, [true, false]), (41, [true, false]), (48, [true, false]), (55, [true, false])] h
set_option maxRecDepth 100000 in
theorem bk_JL_bitCount_48 {σ : tp_S} {K : Int32 → tp_S → Prop} (x0 : Int64) (h : tp_W shC m_JL_bitCount 55 [some (.long (x0 + (Int64.toUInt64 x0 >>> ((Int32.toInt64 (nI 32)).toUInt64 &&& Int64.toUInt64 63)).toInt64)), none] [] σ (tp_Qi K)) : tp_W shC m_JL_bitCount 48 [some (.long x0), none] [] σ (tp_Qi K) := tp_go ⟨ok_JL_bitCount, rfl⟩ 51 [(10, [true, false]), (24, [true, false]), (34, [true, false]), (41, [true, false]), (48, [true, false]), (55, [true, false])] h
set_option maxRecDepth 100000 in
theorem bk_JL_bitCount_55 {σ : tp_S} {K : Int32 → tp_S → Prop} (x0 : Int64) (h : K ((Int64.toInt32 x0) &&& (nI 127)) σ) : tp_W shC m_JL_bitCount 55 [some (.long x0), none] [] σ (tp_Qi K) := tp_go ⟨ok_JL_bitCount, rfl⟩ 51 [(10, [true, false]), (24, [true, false]), (34, [true, false]), (41, [true, false]), (48, [true, false]), (55, [true, false])] h
set_option maxRecDepth 100000 in
theorem bk_Gr_hasRuleOf_0 {σ : tp_S} {K : Int32 → tp_S → Prop} (x1 : Int32) (h : tp_W shC m_Gr_hasRuleOf 2 [some (.ref 1), some (.int x1), some (.int (nI 0))] [] σ (tp_Qi K)) : tp_W shC m_Gr_hasRuleOf 0 [some (.ref 1), some (.int x1), none] [] σ (tp_Qi K) := tp_go ⟨ok_Gr_hasRuleOf, rfl⟩ 20 [(2, [true, true, true])] h
set_option maxRecDepth 100000 in
theorem bk_Gr_hasRuleOf_2 {σ : tp_S} {K : Int32 → tp_S → Prop} (x1 : Int32) (x2 : Int32) (h : ((σ.1 1 3) ≤ x2 →
      ((nI 0) = 0 ∨ (nI 0) = 1) ∧ K (nI 0) σ) ∧
    (¬ (σ.1 1 3) ≤ x2 →
      vp_in x2 24 ∧ (¬ (σ.1 2 x2.toNatClampNeg) = x1 →
        tp_W shC m_Gr_hasRuleOf 2 [some (.ref 1), some (.int x1), some (.int (x2 + (nI 1)))] [] σ (tp_Qi K)) ∧
      ((σ.1 2 x2.toNatClampNeg) = x1 →
        ((nI 1) = 0 ∨ (nI 1) = 1) ∧ K (nI 1) σ))) : tp_W shC m_Gr_hasRuleOf 2 [some (.ref 1), some (.int x1), some (.int x2)] [] σ (tp_Qi K) := tp_go ⟨ok_Gr_hasRuleOf, rfl⟩ 20 [(2, [true, true, true])] h
set_option maxRecDepth 100000 in
theorem bk_Pl_leadOf_0 {σ : tp_S} {K : Int32 → tp_S → Prop} (x1 : Int32) (x2 : Int32) (h : tp_W shC m_Pl_leadAt 0 [some (.ref 8), some (.int x1), some (.int ((nI 14) + x2)), none] [] σ (tp_Qi fun r1 σ1 => K r1 σ1)) : tp_W shC m_Pl_leadOf 0 [some (.ref 8), some (.int x1), some (.int x2)] [] σ (tp_Qi K) := tp_go ⟨ok_Pl_leadOf, rfl⟩ 9 [] h
