set_option maxRecDepth 100000 in
theorem bk_Ps_addToken_0 {σ : tp_S} {K : Int32 → tp_S → Prop} (x1 : Int32) (h : (x1 = 0 →
      K (-1 : Int32) σ) ∧
    (¬ x1 = 0 →
      tp_W shC m_Tp_isToken 0 [some (.int x1)] [] σ (tp_Qi fun r1 σ1 => (r1 = 0 →
        K (-1 : Int32) σ1) ∧
      (¬ r1 = 0 →
        ((σ1.1 24 4) < (nI 100) →
          vp_in (σ1.1 24 4) 100 ∧ K ((σ1.1 24 4) + (nI 1)) (tp_si (tp_si σ1 25 (σ1.1 24 4).toNatClampNeg x1) 24 4 ((σ1.1 24 4) + (nI 1)))) ∧
        (¬ (σ1.1 24 4) < (nI 100) →
          K (-1 : Int32) σ1))))) : tp_W shC m_Ps_addToken 0 [some (.ref 24), some (.int x1)] [] σ (tp_Qi K) := tp_go ⟨ok_Ps_addToken, rfl⟩ 28 [] h
set_option maxRecDepth 100000 in
theorem bk_Ps_forgetTokens_0 {σ : tp_S} {K : Int32 → tp_S → Prop}  (h : K (σ.1 24 4) (tp_si σ 24 4 (nI 0))) : tp_W shC m_Ps_forgetTokens 0 [some (.ref 24), none] [] σ (tp_Qi K) := tp_go ⟨ok_Ps_forgetTokens, rfl⟩ 10 [] h
set_option maxRecDepth 100000 in
theorem bk_Pk_pack_0 {σ : tp_S} {K : tp_S → Prop} (x1 : Int32) (h : tp_W shC m_JA_fillI 0 [some (.ref 22), some (.int (-1 : Int32)), none, none] [] (tp_si (tp_si (tp_si σ 18 6 x1) 18 7 (nI 0)) 18 8 (nI 0)) (tp_Qv fun σ1 => tp_W shC m_JA_fillI 0 [some (.ref 21), some (.int (-1 : Int32)), none, none] [] σ1 (tp_Qv fun σ2 => tp_W shC m_Pk_pack 35 [some (.ref 18), none, some (.int (nI 0)), some (.int (nI 0))] [] σ2 (tp_Qv K)))) : tp_W shC m_Pk_pack 0 [some (.ref 18), some (.int x1), none, none] [] σ (tp_Qv K) := tp_go ⟨ok_Pk_pack, rfl⟩ 68 [(35, [true, false, true, true]), (97, [true, false, false, true])] h
set_option maxRecDepth 100000 in
theorem bk_Pk_pack_35 {σ : tp_S} {K : tp_S → Prop} (x2 : Int32) (x3 : Int32) (h : ((nI 108) ≤ x3 →
      tp_W shC m_Pk_pack 97 [some (.ref 18), none, none, some (.int x2)] [] σ (tp_Qv K)) ∧
    (¬ (nI 108) ≤ x3 →
      tp_W shC m_Pk_mostCommon 0 [some (.ref 18), some (.int x3), none, none, none] [] σ (tp_Qi fun r1 σ1 => vp_in x3 108 ∧ tp_W shC m_Pk_findSpots 0 [some (.ref 18), some (.int x3), none, none, none] [] (tp_si σ1 19 x3.toNatClampNeg r1) (tp_Qi fun r2 σ2 => vp_in x3 108 ∧ vp_in x3 108 ∧ vp_in x3 108 ∧ tp_W shC m_Pk_pack 35 [some (.ref 18), none, some (.int (if x2 < ((tp_si σ2 20 x3.toNatClampNeg r2).1 20 x3.toNatClampNeg) then ((tp_si σ2 20 x3.toNatClampNeg r2).1 20 x3.toNatClampNeg) else x2)), some (.int (x3 + (nI 1)))] [] (tp_si (tp_si σ2 20 x3.toNatClampNeg r2) 18 7 ((σ2.1 18 7) + ((tp_si σ2 20 x3.toNatClampNeg r2).1 20 x3.toNatClampNeg))) (tp_Qv K))))) : tp_W shC m_Pk_pack 35 [some (.ref 18), none, some (.int x2), some (.int x3)] [] σ (tp_Qv K) := tp_go ⟨ok_Pk_pack, rfl⟩ 68 [(35, [true, false, true, true]), (97, [true, false, false, true])] h
set_option maxRecDepth 100000 in
theorem bk_Pk_pack_97 {σ : tp_S} {K : tp_S → Prop} (x3 : Int32) (h : (x3 ≤ 0 →
      K σ) ∧
    (¬ x3 ≤ 0 →
      tp_W shC m_Pk_seatRowsWith 0 [some (.ref 18), some (.int x3), none] [] σ (tp_Qv fun σ1 => tp_W shC m_Pk_pack 97 [some (.ref 18), none, none, some (.int (x3 + (-1 : Int32)))] [] σ1 (tp_Qv K)))) : tp_W shC m_Pk_pack 97 [some (.ref 18), none, none, some (.int x3)] [] σ (tp_Qv K) := tp_go ⟨ok_Pk_pack, rfl⟩ 68 [(35, [true, false, true, true]), (97, [true, false, false, true])] h
set_option maxRecDepth 100000 in
theorem bk_Pk_mostCommon_0 {σ : tp_S} {K : Int32 → tp_S → Prop} (x1 : Int32) (h : tp_W shC m_JA_fillI 0 [some (.ref 23), some (.int (nI 0)), none, none] [] σ (tp_Qv fun σ1 => tp_W shC m_Pk_widthOf 0 [some (.ref 18), some (.int x1)] [] σ1 (tp_Qi fun r2 σ2 => tp_W shC m_Pk_mostCommon 16 [some (.ref 18), some (.int x1), some (.int r2), some (.int (nI 0)), none] [] σ2 (tp_Qi K)))) : tp_W shC m_Pk_mostCommon 0 [some (.ref 18), some (.int x1), none, none, none] [] σ (tp_Qi K) := tp_go ⟨ok_Pk_mostCommon, rfl⟩ 62 [(16, [true, true, true, true, false]), (57, [true, false, false, true, true])] h
set_option maxRecDepth 100000 in
theorem bk_Pk_mostCommon_16 {σ : tp_S} {K : Int32 → tp_S → Prop} (x1 : Int32) (x2 : Int32) (x3 : Int32) (h : (x2 ≤ x3 →
      tp_W shC m_Pk_mostCommon 57 [some (.ref 18), none, none, some (.int (nI 0)), some (.int (nI 1))] [] σ (tp_Qi K)) ∧
    (¬ x2 ≤ x3 →
      tp_W shC m_Pk_choiceAt 0 [some (.ref 18), some (.int x1), some (.int x3), none] [] σ (tp_Qi fun r1 σ1 => (r1 = (-1 : Int32) →
        tp_W shC m_Pk_mostCommon 16 [some (.ref 18), some (.int x1), some (.int x2), some (.int (x3 + (nI 1))), none] [] σ1 (tp_Qi K)) ∧
      (¬ r1 = (-1 : Int32) →
        vp_in r1 100 ∧ vp_in r1 100 ∧ tp_W shC m_Pk_mostCommon 16 [some (.ref 18), some (.int x1), some (.int x2), some (.int (x3 + (nI 1))), none] [] (tp_si σ1 23 r1.toNatClampNeg ((σ1.1 23 r1.toNatClampNeg) + (nI 1))) (tp_Qi K))))) : tp_W shC m_Pk_mostCommon 16 [some (.ref 18), some (.int x1), some (.int x2), some (.int x3), none] [] σ (tp_Qi K) := tp_go ⟨ok_Pk_mostCommon, rfl⟩ 62 [(16, [true, true, true, true, false]), (57, [true, false, false, true, true])] h
set_option maxRecDepth 100000 in
theorem bk_Pk_mostCommon_57 {σ : tp_S} {K : Int32 → tp_S → Prop} (x3 : Int32) (x4 : Int32) (h : ((nI 100) ≤ x4 →
      vp_in x3 100 ∧ ((σ.1 23 x3.toNatClampNeg) ≤ 0 →
        K (-1 : Int32) σ) ∧
      (¬ (σ.1 23 x3.toNatClampNeg) ≤ 0 →
        K x3 σ)) ∧
    (¬ (nI 100) ≤ x4 →
      vp_in x4 100 ∧ vp_in x3 100 ∧ ((σ.1 23 x4.toNatClampNeg) ≤ (σ.1 23 x3.toNatClampNeg) →
        tp_W shC m_Pk_mostCommon 57 [some (.ref 18), none, none, some (.int x3), some (.int (x4 + (nI 1)))] [] σ (tp_Qi K)) ∧
      (¬ (σ.1 23 x4.toNatClampNeg) ≤ (σ.1 23 x3.toNatClampNeg) →
        tp_W shC m_Pk_mostCommon 57 [some (.ref 18), none, none, some (.int x4), some (.int (x4 + (nI 1)))] [] σ (tp_Qi K)))) : tp_W shC m_Pk_mostCommon 57 [some (.ref 18), none, none, some (.int x3), some (.int x4)] [] σ (tp_Qi K) := tp_go ⟨ok_Pk_mostCommon, rfl⟩ 62 [(16, [true, true, true, true, false]), (57, [true, false, false, true, true])] h
set_option maxRecDepth 100000 in
theorem bk_Pk_widthOf_0 {σ : tp_S} {K : Int32 → tp_S → Prop} (x1 : Int32) (h : tp_W shC m_Pk_isStateRow 0 [some (.int x1)] [] σ (tp_Qi fun r1 σ1 => (r1 = 0 →
      K (σ1.1 18 6) σ1) ∧
    (¬ r1 = 0 →
      ((σ1.1 18 6) ≤ x1 →
        K (nI 0) σ1) ∧
      (¬ (σ1.1 18 6) ≤ x1 →
        K (nI 14) σ1)))) : tp_W shC m_Pk_widthOf 0 [some (.ref 18), some (.int x1)] [] σ (tp_Qi K) := tp_go ⟨ok_Pk_widthOf, rfl⟩ 16 [] h
set_option maxRecDepth 100000 in
theorem bk_Pk_isStateRow_0 {σ : tp_S} {K : Int32 → tp_S → Prop} (x0 : Int32) (h : ((nI 100) ≤ x0 →
      ((nI 0) = 0 ∨ (nI 0) = 1) ∧ K (nI 0) σ) ∧
    (¬ (nI 100) ≤ x0 →
      ((nI 1) = 0 ∨ (nI 1) = 1) ∧ K (nI 1) σ)) : tp_W shC m_Pk_isStateRow 0 [some (.int x0)] [] σ (tp_Qi K) := tp_go ⟨ok_Pk_isStateRow, rfl⟩ 9 [] h
set_option maxRecDepth 100000 in
theorem bk_Pk_choiceAt_0 {σ : tp_S} {K : Int32 → tp_S → Prop} (x1 : Int32) (x2 : Int32) (h : tp_W shC m_Pk_isStateRow 0 [some (.int x1)] [] σ (tp_Qi fun r1 σ1 => (¬ r1 = 0 →
      tp_W shC m_Pl_moveOn 0 [some (.ref 8), some (.int x1), some (.int x2)] [] σ1 (tp_Qi fun r2 σ2 => (r2 < (nI 3000) →
        K (-1 : Int32) σ2) ∧
      (¬ r2 < (nI 3000) →
        K (r2 - (nI 3000)) σ2))) ∧
    (r1 = 0 →
      tp_W shC m_Pl_leadAt 0 [some (.ref 8), some (.int x2), some (.int (((nI 14) + x1) - (nI 100))), none] [] σ1 (tp_Qi fun r3 σ3 => K r3 σ3)))) : tp_W shC m_Pk_choiceAt 0 [some (.ref 18), some (.int x1), some (.int x2), none] [] σ (tp_Qi K) := tp_go ⟨ok_Pk_choiceAt, rfl⟩ 30 [] h
set_option maxRecDepth 100000 in
theorem bk_Pk_findSpots_0 {σ : tp_S} {K : Int32 → tp_S → Prop} (x1 : Int32) (h : tp_W shC m_Pk_widthOf 0 [some (.ref 18), some (.int x1)] [] σ (tp_Qi fun r1 σ1 => tp_W shC m_Pk_findSpots 11 [some (.ref 18), some (.int x1), some (.int (nI 0)), some (.int r1), some (.int (nI 0))] [] σ1 (tp_Qi K))) : tp_W shC m_Pk_findSpots 0 [some (.ref 18), some (.int x1), none, none, none] [] σ (tp_Qi K) := tp_go ⟨ok_Pk_findSpots, rfl⟩ 29 [(11, [true, true, true, true, true])] h
set_option maxRecDepth 100000 in
theorem bk_Pk_findSpots_11 {σ : tp_S} {K : Int32 → tp_S → Prop} (x1 : Int32) (x2 : Int32) (x3 : Int32) (x4 : Int32) (h : (x3 ≤ x4 →
      K x2 σ) ∧
    (¬ x3 ≤ x4 →
      tp_W shC m_Pk_entryOf 0 [some (.ref 18), some (.int x1), some (.int x4), none] [] σ (tp_Qi fun r1 σ1 => (r1 = (-1 : Int32) →
        tp_W shC m_Pk_findSpots 11 [some (.ref 18), some (.int x1), some (.int x2), some (.int x3), some (.int (x4 + (nI 1)))] [] σ1 (tp_Qi K)) ∧
      (¬ r1 = (-1 : Int32) →
        vp_in x2 100 ∧ tp_W shC m_Pk_findSpots 11 [some (.ref 18), some (.int x1), some (.int (x2 + (nI 1))), some (.int x3), some (.int (x4 + (nI 1)))] [] (tp_si σ1 23 x2.toNatClampNeg x4) (tp_Qi K))))) : tp_W shC m_Pk_findSpots 11 [some (.ref 18), some (.int x1), some (.int x2), some (.int x3), some (.int x4)] [] σ (tp_Qi K) := tp_go ⟨ok_Pk_findSpots, rfl⟩ 29 [(11, [true, true, true, true, true])] h
set_option maxRecDepth 100000 in
theorem bk_Pk_entryOf_0 {σ : tp_S} {K : Int32 → tp_S → Prop} (x1 : Int32) (x2 : Int32) (h : tp_W shC m_Pk_isStateRow 0 [some (.int x1)] [] σ (tp_Qi fun r1 σ1 => (¬ r1 = 0 →
      tp_W shC m_Pl_moveOn 0 [some (.ref 8), some (.int x1), some (.int x2)] [] σ1 (tp_Qi fun r2 σ2 => (r2 = 0 →
        K (-1 : Int32) σ2) ∧
      (¬ r2 = 0 →
        tp_W shC m_Pk_moveByDefault 0 [some (.ref 18), some (.int x1)] [] σ2 (tp_Qi fun r3 σ3 => (¬ r2 = r3 →
          K r2 σ3) ∧
        (r2 = r3 →
          K (-1 : Int32) σ3))))) ∧
    (r1 = 0 →
      tp_W shC m_Pl_leadAt 0 [some (.ref 8), some (.int x2), some (.int (((nI 14) + x1) - (nI 100))), none] [] σ1 (tp_Qi fun r4 σ4 => vp_in x1 108 ∧ (¬ r4 = (σ4.1 19 x1.toNatClampNeg) →
        K r4 σ4) ∧
      (r4 = (σ4.1 19 x1.toNatClampNeg) →
        K (-1 : Int32) σ4))))) : tp_W shC m_Pk_entryOf 0 [some (.ref 18), some (.int x1), some (.int x2), none] [] σ (tp_Qi K) := tp_go ⟨ok_Pk_entryOf, rfl⟩ 42 [] h
set_option maxRecDepth 100000 in
theorem bk_Pk_moveByDefault_0 {σ : tp_S} {K : Int32 → tp_S → Prop} (x1 : Int32) (h : vp_in x1 108 ∧ (¬ (σ.1 19 x1.toNatClampNeg) = (-1 : Int32) →
      vp_in x1 108 ∧ K ((nI 3000) + (σ.1 19 x1.toNatClampNeg)) σ) ∧
    ((σ.1 19 x1.toNatClampNeg) = (-1 : Int32) →
      K (nI 0) σ)) : tp_W shC m_Pk_moveByDefault 0 [some (.ref 18), some (.int x1)] [] σ (tp_Qi K) := tp_go ⟨ok_Pk_moveByDefault, rfl⟩ 17 [] h
set_option maxRecDepth 100000 in
theorem bk_Pk_seatRowsWith_0 {σ : tp_S} {K : tp_S → Prop} (x1 : Int32) (h : tp_W shC m_Pk_seatRowsWith 2 [some (.ref 18), some (.int x1), some (.int (nI 0))] [] σ (tp_Qv K)) : tp_W shC m_Pk_seatRowsWith 0 [some (.ref 18), some (.int x1), none] [] σ (tp_Qv K) := tp_go ⟨ok_Pk_seatRowsWith, rfl⟩ 26 [(2, [true, true, true])] h
set_option maxRecDepth 100000 in
theorem bk_Pk_seatRowsWith_2 {σ : tp_S} {K : tp_S → Prop} (x1 : Int32) (x2 : Int32) (h : ((nI 108) ≤ x2 →
      K σ) ∧
    (¬ (nI 108) ≤ x2 →
      vp_in x2 108 ∧ (¬ (σ.1 20 x2.toNatClampNeg) = x1 →
        tp_W shC m_Pk_seatRowsWith 2 [some (.ref 18), some (.int x1), some (.int (x2 + (nI 1)))] [] σ (tp_Qv K)) ∧
      ((σ.1 20 x2.toNatClampNeg) = x1 →
        tp_W shC m_Pk_findSpots 0 [some (.ref 18), some (.int x2), none, none, none] [] σ (tp_Qi fun r1 σ1 => tp_W shC m_Pk_leastBase 0 [some (.ref 18), some (.int x1), none] [] σ1 (tp_Qi fun r2 σ2 => tp_W shC m_Pk_seat 0 [some (.ref 18), some (.int x2), some (.int r2), none, none] [] σ2 (tp_Qv fun σ3 => tp_W shC m_Pk_seatRowsWith 2 [some (.ref 18), some (.int x1), some (.int (x2 + (nI 1)))] [] σ3 (tp_Qv K))))))) : tp_W shC m_Pk_seatRowsWith 2 [some (.ref 18), some (.int x1), some (.int x2)] [] σ (tp_Qv K) := tp_go ⟨ok_Pk_seatRowsWith, rfl⟩ 26 [(2, [true, true, true])] h
set_option maxRecDepth 100000 in
theorem bk_Pk_leastBase_0 {σ : tp_S} {K : Int32 → tp_S → Prop} (x1 : Int32) (h : tp_W shC m_Pk_leastBase 2 [some (.ref 18), some (.int x1), some (.int (nI 0))] [] σ (tp_Qi K)) : tp_W shC m_Pk_leastBase 0 [some (.ref 18), some (.int x1), none] [] σ (tp_Qi K) := tp_go ⟨ok_Pk_leastBase, rfl⟩ 20 [(2, [true, true, true])] h
set_option maxRecDepth 100000 in
theorem bk_Pk_leastBase_2 {σ : tp_S} {K : Int32 → tp_S → Prop} (x1 : Int32) (x2 : Int32) (h : ((σ.1 18 8) ≤ x2 →
      K (σ.1 18 8) σ) ∧
    (¬ (σ.1 18 8) ≤ x2 →
      tp_W shC m_Pk_allFree 0 [some (.ref 18), some (.int x2), some (.int x1), none] [] σ (tp_Qi fun r1 σ1 => (r1 = 0 →
        tp_W shC m_Pk_leastBase 2 [some (.ref 18), some (.int x1), some (.int (x2 + (nI 1)))] [] σ1 (tp_Qi K)) ∧
      (¬ r1 = 0 →
        K x2 σ1)))) : tp_W shC m_Pk_leastBase 2 [some (.ref 18), some (.int x1), some (.int x2)] [] σ (tp_Qi K) := tp_go ⟨ok_Pk_leastBase, rfl⟩ 20 [(2, [true, true, true])] h
set_option maxRecDepth 100000 in
theorem bk_Pk_allFree_0 {σ : tp_S} {K : Int32 → tp_S → Prop} (x1 : Int32) (x2 : Int32) (h : tp_W shC m_Pk_allFree 2 [some (.ref 18), some (.int x1), some (.int x2), some (.int (nI 0))] [] σ (tp_Qi K)) : tp_W shC m_Pk_allFree 0 [some (.ref 18), some (.int x1), some (.int x2), none] [] σ (tp_Qi K) := tp_go ⟨ok_Pk_allFree, rfl⟩ 24 [(2, [true, true, true, true])] h
set_option maxRecDepth 100000 in
theorem bk_Pk_allFree_2 {σ : tp_S} {K : Int32 → tp_S → Prop} (x1 : Int32) (x2 : Int32) (x3 : Int32) (h : (x2 ≤ x3 →
      ((nI 1) = 0 ∨ (nI 1) = 1) ∧ K (nI 1) σ) ∧
    (¬ x2 ≤ x3 →
      vp_in x3 100 ∧ vp_in (x1 + (σ.1 23 x3.toNatClampNeg)) 2200 ∧ ((σ.1 22 (x1 + (σ.1 23 x3.toNatClampNeg)).toNatClampNeg) = (-1 : Int32) →
        tp_W shC m_Pk_allFree 2 [some (.ref 18), some (.int x1), some (.int x2), some (.int (x3 + (nI 1)))] [] σ (tp_Qi K)) ∧
      (¬ (σ.1 22 (x1 + (σ.1 23 x3.toNatClampNeg)).toNatClampNeg) = (-1 : Int32) →
        ((nI 0) = 0 ∨ (nI 0) = 1) ∧ K (nI 0) σ))) : tp_W shC m_Pk_allFree 2 [some (.ref 18), some (.int x1), some (.int x2), some (.int x3)] [] σ (tp_Qi K) := tp_go ⟨ok_Pk_allFree, rfl⟩ 24 [(2, [true, true, true, true])] h
set_option maxRecDepth 100000 in
theorem bk_Pk_seat_0 {σ : tp_S} {K : tp_S → Prop} (x1 : Int32) (x2 : Int32) (h : vp_in x1 108 ∧ tp_W shC m_Pk_seat 9 [some (.ref 18), some (.int x1), some (.int x2), some (.int (nI 0)), none] [] (tp_si σ 21 x1.toNatClampNeg x2) (tp_Qv K)) : tp_W shC m_Pk_seat 0 [some (.ref 18), some (.int x1), some (.int x2), none, none] [] σ (tp_Qv K) := tp_go ⟨ok_Pk_seat, rfl⟩ 48 [(9, [true, true, true, true, false])] h
set_option maxRecDepth 100000 in
theorem bk_Pk_seat_9 {σ : tp_S} {K : tp_S → Prop} (x1 : Int32) (x2 : Int32) (x3 : Int32) (h : vp_in x1 108 ∧ ((σ.1 20 x1.toNatClampNeg) ≤ x3 →
      K σ) ∧
    (¬ (σ.1 20 x1.toNatClampNeg) ≤ x3 →
      vp_in x3 100 ∧ vp_in x3 100 ∧ tp_W shC m_Pk_entryOf 0 [some (.ref 18), some (.int x1), some (.int (σ.1 23 x3.toNatClampNeg)), none] [] σ (tp_Qi fun r1 σ1 => vp_in (x2 + (σ.1 23 x3.toNatClampNeg)) 2200 ∧ tp_W shC m_Pk_seat 9 [some (.ref 18), some (.int x1), some (.int x2), some (.int (x3 + (nI 1))), none] [] (tp_si (tp_si σ1 22 (x2 + (σ.1 23 x3.toNatClampNeg)).toNatClampNeg ((x1 <<< ((nI 12) &&& 31)) ||| r1)) 18 8 (if (σ1.1 18 8) < ((x2 + (σ.1 23 x3.toNatClampNeg)) + (nI 1)) then ((x2 + (σ.1 23 x3.toNatClampNeg)) + (nI 1)) else (σ1.1 18 8))) (tp_Qv K)))) : tp_W shC m_Pk_seat 9 [some (.ref 18), some (.int x1), some (.int x2), some (.int x3), none] [] σ (tp_Qv K) := tp_go ⟨ok_Pk_seat, rfl⟩ 48 [(9, [true, true, true, true, false])] h
set_option maxRecDepth 100000 in
theorem bk_Ps_tokens_0 {σ : tp_S} {K : Int32 → tp_S → Prop}  (h : K (σ.1 24 4) σ) : tp_W shC m_Ps_tokens 0 [some (.ref 24)] [] σ (tp_Qi K) := tp_go ⟨ok_Ps_tokens, rfl⟩ 5 [] h
set_option maxRecDepth 100000 in
theorem bk_Pk_entries_0 {σ : tp_S} {K : Int32 → tp_S → Prop}  (h : K (σ.1 18 7) σ) : tp_W shC m_Pk_entries 0 [some (.ref 18)] [] σ (tp_Qi K) := tp_go ⟨ok_Pk_entries, rfl⟩ 5 [] h
set_option maxRecDepth 100000 in
theorem bk_Pk_length_0 {σ : tp_S} {K : Int32 → tp_S → Prop}  (h : K (σ.1 18 8) σ) : tp_W shC m_Pk_length 0 [some (.ref 18)] [] σ (tp_Qi K) := tp_go ⟨ok_Pk_length, rfl⟩ 5 [] h
set_option maxRecDepth 100000 in
theorem bk_Pk_defaultOf_0 {σ : tp_S} {K : Int32 → tp_S → Prop} (x1 : Int32) (h : vp_in x1 108 ∧ K (σ.1 19 x1.toNatClampNeg) σ) : tp_W shC m_Pk_defaultOf 0 [some (.ref 18), some (.int x1)] [] σ (tp_Qi K) := tp_go ⟨ok_Pk_defaultOf, rfl⟩ 7 [] h
set_option maxRecDepth 100000 in
theorem bk_Pk_entriesOf_0 {σ : tp_S} {K : Int32 → tp_S → Prop} (x1 : Int32) (h : vp_in x1 108 ∧ K (σ.1 20 x1.toNatClampNeg) σ) : tp_W shC m_Pk_entriesOf 0 [some (.ref 18), some (.int x1)] [] σ (tp_Qi K) := tp_go ⟨ok_Pk_entriesOf, rfl⟩ 7 [] h
set_option maxRecDepth 100000 in
theorem bk_Pk_baseOf_0 {σ : tp_S} {K : Int32 → tp_S → Prop} (x1 : Int32) (h : vp_in x1 108 ∧ K (σ.1 21 x1.toNatClampNeg) σ) : tp_W shC m_Pk_baseOf 0 [some (.ref 18), some (.int x1)] [] σ (tp_Qi K) := tp_go ⟨ok_Pk_baseOf, rfl⟩ 7 [] h
set_option maxRecDepth 100000 in
theorem bk_Pk_ownerAt_0 {σ : tp_S} {K : Int32 → tp_S → Prop} (x1 : Int32) (h : tp_W shC m_Pk_isOwned 0 [some (.ref 18), some (.int x1)] [] σ (tp_Qi fun r1 σ1 => (r1 = 0 →
      K (-1 : Int32) σ1) ∧
    (¬ r1 = 0 →
      vp_in x1 2200 ∧ K ((σ1.1 22 x1.toNatClampNeg) >>> ((nI 12) &&& 31)) σ1))) : tp_W shC m_Pk_ownerAt 0 [some (.ref 18), some (.int x1)] [] σ (tp_Qi K) := tp_go ⟨ok_Pk_ownerAt, rfl⟩ 15 [] h
set_option maxRecDepth 100000 in
theorem bk_Pk_isOwned_0 {σ : tp_S} {K : Int32 → tp_S → Prop} (x1 : Int32) (h : (x1 < 0 →
      ((nI 0) = 0 ∨ (nI 0) = 1) ∧ K (nI 0) σ) ∧
    (¬ x1 < 0 →
      ((σ.1 18 8) ≤ x1 →
        ((nI 0) = 0 ∨ (nI 0) = 1) ∧ K (nI 0) σ) ∧
      (¬ (σ.1 18 8) ≤ x1 →
        vp_in x1 2200 ∧ ((σ.1 22 x1.toNatClampNeg) = (-1 : Int32) →
          ((nI 0) = 0 ∨ (nI 0) = 1) ∧ K (nI 0) σ) ∧
        (¬ (σ.1 22 x1.toNatClampNeg) = (-1 : Int32) →
          ((nI 1) = 0 ∨ (nI 1) = 1) ∧ K (nI 1) σ)))) : tp_W shC m_Pk_isOwned 0 [some (.ref 18), some (.int x1)] [] σ (tp_Qi K) := tp_go ⟨ok_Pk_isOwned, rfl⟩ 18 [] h
set_option maxRecDepth 100000 in
theorem bk_Pk_entryAt_0 {σ : tp_S} {K : Int32 → tp_S → Prop} (x1 : Int32) (h : tp_W shC m_Pk_isOwned 0 [some (.ref 18), some (.int x1)] [] σ (tp_Qi fun r1 σ1 => (r1 = 0 →
      K (-1 : Int32) σ1) ∧
    (¬ r1 = 0 →
      vp_in x1 2200 ∧ K ((σ1.1 22 x1.toNatClampNeg) &&& (nI 4095)) σ1))) : tp_W shC m_Pk_entryAt 0 [some (.ref 18), some (.int x1)] [] σ (tp_Qi K) := tp_go ⟨ok_Pk_entryAt, rfl⟩ 15 [] h
set_option maxRecDepth 100000 in
theorem bk_Ps_run_8_0 {σ : tp_S} {K : Int32 → tp_S → Prop}  (h : vp_in (nI 0) 2001 ∧ tp_W shC m_Ps_run 24 [some (.ref 24), some (.ref 8), some (.int (nI 0)), none] [] (tp_si (tp_si (tp_si (tp_si σ 24 5 (nI 0)) 24 7 (nI 0)) 24 6 (nI 1)) 26 (nI 0).toNatClampNeg (nI 0)) (tp_Qi K)) : tp_W shC m_Ps_run 0 [some (.ref 24), some (.ref 8), none, none] [] σ (tp_Qi K) := tp_go ⟨ok_Ps_run, rfl⟩ 56 [(24, [true, true, true, false])] h
set_option maxRecDepth 100000 in
theorem bk_Ps_run_8_24 {σ : tp_S} {K : Int32 → tp_S → Prop} (x2 : Int32) (h : ((nI 2000) < x2 →
      K (nI 2) σ) ∧
    (¬ (nI 2000) < x2 →
      vp_in ((σ.1 24 6) - (nI 1)) 2001 ∧ tp_W shC m_Ps_nextToken 0 [some (.ref 24)] [] σ (tp_Qi fun r1 σ1 => tp_W shC m_Pl_moveOn 0 [some (.ref 8), some (.int (σ.1 26 ((σ.1 24 6) - (nI 1)).toNatClampNeg)), some (.int r1)] [] σ1 (tp_Qi fun r2 σ2 => (¬ r2 = (nI 2000) →
        (¬ r2 = 0 →
          ((nI 2000) ≤ x2 →
            tp_W shC m_Ps_run 24 [some (.ref 24), some (.ref 8), some (.int (x2 + (nI 1))), none] [] σ2 (tp_Qi K)) ∧
          (¬ (nI 2000) ≤ x2 →
            tp_W shC m_Ps_go 0 [some (.ref 24), some (.int r2), some (.ref 8)] [] σ2 (tp_Qi fun r3 σ3 => (¬ r3 = 0 →
              tp_W shC m_Ps_run 24 [some (.ref 24), some (.ref 8), some (.int (x2 + (nI 1))), none] [] σ3 (tp_Qi K)) ∧
            (r3 = 0 →
              K (nI 1) σ3)))) ∧
        (r2 = 0 →
          K (nI 1) σ2)) ∧
      (r2 = (nI 2000) →
        K (nI 0) σ2))))) : tp_W shC m_Ps_run 24 [some (.ref 24), some (.ref 8), some (.int x2), none] [] σ (tp_Qi K) := tp_go ⟨ok_Ps_run, rfl⟩ 56 [(24, [true, true, true, false])] h
set_option maxRecDepth 100000 in
theorem bk_Ps_run_18_0 {σ : tp_S} {K : Int32 → tp_S → Prop}  (h : vp_in (nI 0) 2001 ∧ tp_W shC m_Ps_run 24 [some (.ref 24), some (.ref 18), some (.int (nI 0)), none] [] (tp_si (tp_si (tp_si (tp_si σ 24 5 (nI 0)) 24 7 (nI 0)) 24 6 (nI 1)) 26 (nI 0).toNatClampNeg (nI 0)) (tp_Qi K)) : tp_W shC m_Ps_run 0 [some (.ref 24), some (.ref 18), none, none] [] σ (tp_Qi K) := tp_go ⟨ok_Ps_run, rfl⟩ 56 [(24, [true, true, true, false])] h
set_option maxRecDepth 100000 in
theorem bk_Ps_run_18_24 {σ : tp_S} {K : Int32 → tp_S → Prop} (x2 : Int32) (h : ((nI 2000) < x2 →
      K (nI 2) σ) ∧
    (¬ (nI 2000) < x2 →
      vp_in ((σ.1 24 6) - (nI 1)) 2001 ∧ tp_W shC m_Ps_nextToken 0 [some (.ref 24)] [] σ (tp_Qi fun r1 σ1 => tp_W shC m_Pk_moveOn 0 [some (.ref 18), some (.int (σ.1 26 ((σ.1 24 6) - (nI 1)).toNatClampNeg)), some (.int r1), none] [] σ1 (tp_Qi fun r2 σ2 => (¬ r2 = (nI 2000) →
        (¬ r2 = 0 →
          ((nI 2000) ≤ x2 →
            tp_W shC m_Ps_run 24 [some (.ref 24), some (.ref 18), some (.int (x2 + (nI 1))), none] [] σ2 (tp_Qi K)) ∧
          (¬ (nI 2000) ≤ x2 →
            tp_W shC m_Ps_go 0 [some (.ref 24), some (.int r2), some (.ref 18)] [] σ2 (tp_Qi fun r3 σ3 => (¬ r3 = 0 →
              tp_W shC m_Ps_run 24 [some (.ref 24), some (.ref 18), some (.int (x2 + (nI 1))), none] [] σ3 (tp_Qi K)) ∧
            (r3 = 0 →
              K (nI 1) σ3)))) ∧
        (r2 = 0 →
          K (nI 1) σ2)) ∧
      (r2 = (nI 2000) →
        K (nI 0) σ2))))) : tp_W shC m_Ps_run 24 [some (.ref 24), some (.ref 18), some (.int x2), none] [] σ (tp_Qi K) := tp_go ⟨ok_Ps_run, rfl⟩ 56 [(24, [true, true, true, false])] h
set_option maxRecDepth 100000 in
theorem bk_Ps_nextToken_0 {σ : tp_S} {K : Int32 → tp_S → Prop}  (h : ((σ.1 24 4) ≤ (σ.1 24 5) →
      K (nI 0) σ) ∧
    (¬ (σ.1 24 4) ≤ (σ.1 24 5) →
      vp_in (σ.1 24 5) 100 ∧ K (σ.1 25 (σ.1 24 5).toNatClampNeg) σ)) : tp_W shC m_Ps_nextToken 0 [some (.ref 24)] [] σ (tp_Qi K) := tp_go ⟨ok_Ps_nextToken, rfl⟩ 15 [] h
set_option maxRecDepth 100000 in
theorem bk_Pk_moveOn_0 {σ : tp_S} {K : Int32 → tp_S → Prop} (x1 : Int32) (x2 : Int32) (h : tp_W shC m_Pk_lookUp 0 [some (.ref 18), some (.int x1), some (.int x2), none, none] [] σ (tp_Qi fun r1 σ1 => (r1 = (-1 : Int32) →
      tp_W shC m_Pk_moveByDefault 0 [some (.ref 18), some (.int x1)] [] σ1 (tp_Qi fun r2 σ2 => K r2 σ2)) ∧
    (¬ r1 = (-1 : Int32) →
      K r1 σ1))) : tp_W shC m_Pk_moveOn 0 [some (.ref 18), some (.int x1), some (.int x2), none] [] σ (tp_Qi K) := tp_go ⟨ok_Pk_moveOn, rfl⟩ 16 [] h
set_option maxRecDepth 100000 in
theorem bk_Pk_lookUp_0 {σ : tp_S} {K : Int32 → tp_S → Prop} (x1 : Int32) (x2 : Int32) (h : vp_in x1 108 ∧ vp_in x1 108 ∧ ((σ.1 21 x1.toNatClampNeg) = (-1 : Int32) →
      ((nI 0) = 0 →
        K (-1 : Int32) σ) ∧
      (¬ (nI 0) = 0 →
        vp_in ((σ.1 21 x1.toNatClampNeg) + x2) 2200 ∧ K ((σ.1 22 ((σ.1 21 x1.toNatClampNeg) + x2).toNatClampNeg) &&& (nI 4095)) σ)) ∧
    (¬ (σ.1 21 x1.toNatClampNeg) = (-1 : Int32) →
      tp_W shC m_Pk_isOwned 0 [some (.ref 18), some (.int ((σ.1 21 x1.toNatClampNeg) + x2))] [] σ (tp_Qi fun r1 σ1 => (r1 = 0 →
        ((nI 0) = 0 →
          K (-1 : Int32) σ1) ∧
        (¬ (nI 0) = 0 →
          vp_in ((σ.1 21 x1.toNatClampNeg) + x2) 2200 ∧ K ((σ1.1 22 ((σ.1 21 x1.toNatClampNeg) + x2).toNatClampNeg) &&& (nI 4095)) σ1)) ∧
      (¬ r1 = 0 →
        vp_in ((σ.1 21 x1.toNatClampNeg) + x2) 2200 ∧ (¬ ((σ1.1 22 ((σ.1 21 x1.toNatClampNeg) + x2).toNatClampNeg) >>> ((nI 12) &&& 31)) = x1 →
          ((nI 0) = 0 →
            K (-1 : Int32) σ1) ∧
          (¬ (nI 0) = 0 →
            vp_in ((σ.1 21 x1.toNatClampNeg) + x2) 2200 ∧ K ((σ1.1 22 ((σ.1 21 x1.toNatClampNeg) + x2).toNatClampNeg) &&& (nI 4095)) σ1)) ∧
        (((σ1.1 22 ((σ.1 21 x1.toNatClampNeg) + x2).toNatClampNeg) >>> ((nI 12) &&& 31)) = x1 →
          ((nI 1) = 0 →
            K (-1 : Int32) σ1) ∧
          (¬ (nI 1) = 0 →
            vp_in ((σ.1 21 x1.toNatClampNeg) + x2) 2200 ∧ K ((σ1.1 22 ((σ.1 21 x1.toNatClampNeg) + x2).toNatClampNeg) &&& (nI 4095)) σ1)))))) : tp_W shC m_Pk_lookUp 0 [some (.ref 18), some (.int x1), some (.int x2), none, none] [] σ (tp_Qi K) := tp_go ⟨ok_Pk_lookUp, rfl⟩ 42 [] h
set_option maxRecDepth 100000 in
theorem bk_Ps_go_8_0 {σ : tp_S} {K : Int32 → tp_S → Prop} (x1 : Int32) (h : (x1 < (nI 3000) →
      tp_W shC m_Ps_putOn 0 [some (.ref 24), some (.int (x1 - (nI 1000)))] [] (tp_si σ 24 5 ((σ.1 24 5) + (nI 1))) (tp_Qv fun σ1 => ((nI 1) = 0 ∨ (nI 1) = 1) ∧ K (nI 1) σ1)) ∧
    (¬ x1 < (nI 3000) →
      tp_W shC m_Ps_reduce 0 [some (.ref 24), some (.int (x1 - (nI 3000))), some (.ref 8), none, none] [] σ (tp_Qi fun r2 σ2 => (r2 = 0 ∨ r2 = 1) ∧ K r2 σ2))) : tp_W shC m_Ps_go 0 [some (.ref 24), some (.int x1), some (.ref 8)] [] σ (tp_Qi K) := tp_go ⟨ok_Ps_go, rfl⟩ 25 [] h
set_option maxRecDepth 100000 in
theorem bk_Ps_go_18_0 {σ : tp_S} {K : Int32 → tp_S → Prop} (x1 : Int32) (h : (x1 < (nI 3000) →
      tp_W shC m_Ps_putOn 0 [some (.ref 24), some (.int (x1 - (nI 1000)))] [] (tp_si σ 24 5 ((σ.1 24 5) + (nI 1))) (tp_Qv fun σ1 => ((nI 1) = 0 ∨ (nI 1) = 1) ∧ K (nI 1) σ1)) ∧
    (¬ x1 < (nI 3000) →
      tp_W shC m_Ps_reduce 0 [some (.ref 24), some (.int (x1 - (nI 3000))), some (.ref 18), none, none] [] σ (tp_Qi fun r2 σ2 => (r2 = 0 ∨ r2 = 1) ∧ K r2 σ2))) : tp_W shC m_Ps_go 0 [some (.ref 24), some (.int x1), some (.ref 18)] [] σ (tp_Qi K) := tp_go ⟨ok_Ps_go, rfl⟩ 25 [] h
set_option maxRecDepth 100000 in
theorem bk_Ps_reduce_8_0 {σ : tp_S} {K : Int32 → tp_S → Prop} (x1 : Int32) (h : tp_W shC m_Gr_lengthOf 0 [some (.ref 1), some (.int x1)] [] σ (tp_Qi fun r1 σ1 => ((nI 1) ≤ ((σ.1 24 6) - r1) →
      vp_in (((σ.1 24 6) - r1) - (nI 1)) 2001 ∧ tp_W shC m_Gr_kindOf 0 [some (.ref 1), some (.int x1)] [] σ1 (tp_Qi fun r2 σ2 => tp_W shC m_Pl_leadOf 0 [some (.ref 8), some (.int (σ1.1 26 (((σ.1 24 6) - r1) - (nI 1)).toNatClampNeg)), some (.int r2)] [] σ2 (tp_Qi fun r3 σ3 => (¬ r3 = (-1 : Int32) →
        vp_in (σ3.1 24 7) 2000 ∧ tp_W shC m_Ps_putOn 0 [some (.ref 24), some (.int r3)] [] (tp_si (tp_si (tp_si σ3 27 (σ3.1 24 7).toNatClampNeg x1) 24 7 ((σ3.1 24 7) + (nI 1))) 24 6 ((σ.1 24 6) - r1)) (tp_Qv fun σ4 => ((nI 1) = 0 ∨ (nI 1) = 1) ∧ K (nI 1) σ4)) ∧
      (r3 = (-1 : Int32) →
        ((nI 0) = 0 ∨ (nI 0) = 1) ∧ K (nI 0) σ3)))) ∧
    (¬ (nI 1) ≤ ((σ.1 24 6) - r1) →
      (¬ (-1 : Int32) = (-1 : Int32) →
        vp_in (σ1.1 24 7) 2000 ∧ tp_W shC m_Ps_putOn 0 [some (.ref 24), some (.int (-1 : Int32))] [] (tp_si (tp_si (tp_si σ1 27 (σ1.1 24 7).toNatClampNeg x1) 24 7 ((σ1.1 24 7) + (nI 1))) 24 6 ((σ.1 24 6) - r1)) (tp_Qv fun σ5 => ((nI 1) = 0 ∨ (nI 1) = 1) ∧ K (nI 1) σ5)) ∧
      ((-1 : Int32) = (-1 : Int32) →
        ((nI 0) = 0 ∨ (nI 0) = 1) ∧ K (nI 0) σ1)))) : tp_W shC m_Ps_reduce 0 [some (.ref 24), some (.int x1), some (.ref 8), none, none] [] σ (tp_Qi K) := tp_go ⟨ok_Ps_reduce, rfl⟩ 53 [] h
set_option maxRecDepth 100000 in
theorem bk_Ps_reduce_18_0 {σ : tp_S} {K : Int32 → tp_S → Prop} (x1 : Int32) (h : tp_W shC m_Gr_lengthOf 0 [some (.ref 1), some (.int x1)] [] σ (tp_Qi fun r1 σ1 => ((nI 1) ≤ ((σ.1 24 6) - r1) →
      vp_in (((σ.1 24 6) - r1) - (nI 1)) 2001 ∧ tp_W shC m_Gr_kindOf 0 [some (.ref 1), some (.int x1)] [] σ1 (tp_Qi fun r2 σ2 => tp_W shC m_Pk_leadOf 0 [some (.ref 18), some (.int (σ1.1 26 (((σ.1 24 6) - r1) - (nI 1)).toNatClampNeg)), some (.int r2), none] [] σ2 (tp_Qi fun r3 σ3 => (¬ r3 = (-1 : Int32) →
        vp_in (σ3.1 24 7) 2000 ∧ tp_W shC m_Ps_putOn 0 [some (.ref 24), some (.int r3)] [] (tp_si (tp_si (tp_si σ3 27 (σ3.1 24 7).toNatClampNeg x1) 24 7 ((σ3.1 24 7) + (nI 1))) 24 6 ((σ.1 24 6) - r1)) (tp_Qv fun σ4 => ((nI 1) = 0 ∨ (nI 1) = 1) ∧ K (nI 1) σ4)) ∧
      (r3 = (-1 : Int32) →
        ((nI 0) = 0 ∨ (nI 0) = 1) ∧ K (nI 0) σ3)))) ∧
    (¬ (nI 1) ≤ ((σ.1 24 6) - r1) →
      (¬ (-1 : Int32) = (-1 : Int32) →
        vp_in (σ1.1 24 7) 2000 ∧ tp_W shC m_Ps_putOn 0 [some (.ref 24), some (.int (-1 : Int32))] [] (tp_si (tp_si (tp_si σ1 27 (σ1.1 24 7).toNatClampNeg x1) 24 7 ((σ1.1 24 7) + (nI 1))) 24 6 ((σ.1 24 6) - r1)) (tp_Qv fun σ5 => ((nI 1) = 0 ∨ (nI 1) = 1) ∧ K (nI 1) σ5)) ∧
      ((-1 : Int32) = (-1 : Int32) →
        ((nI 0) = 0 ∨ (nI 0) = 1) ∧ K (nI 0) σ1)))) : tp_W shC m_Ps_reduce 0 [some (.ref 24), some (.int x1), some (.ref 18), none, none] [] σ (tp_Qi K) := tp_go ⟨ok_Ps_reduce, rfl⟩ 53 [] h
set_option maxRecDepth 100000 in
theorem bk_Pk_leadOf_0 {σ : tp_S} {K : Int32 → tp_S → Prop} (x1 : Int32) (x2 : Int32) (h : tp_W shC m_Pk_lookUp 0 [some (.ref 18), some (.int ((nI 100) + x2)), some (.int x1), none, none] [] σ (tp_Qi fun r1 σ1 => (r1 = (-1 : Int32) →
      vp_in ((nI 100) + x2) 108 ∧ K (σ1.1 19 ((nI 100) + x2).toNatClampNeg) σ1) ∧
    (¬ r1 = (-1 : Int32) →
      K r1 σ1))) : tp_W shC m_Pk_leadOf 0 [some (.ref 18), some (.int x1), some (.int x2), none] [] σ (tp_Qi K) := tp_go ⟨ok_Pk_leadOf, rfl⟩ 21 [] h
set_option maxRecDepth 100000 in
theorem bk_Ps_putOn_0 {σ : tp_S} {K : tp_S → Prop} (x1 : Int32) (h : vp_in (σ.1 24 6) 2001 ∧ K (tp_si (tp_si σ 26 (σ.1 24 6).toNatClampNeg x1) 24 6 ((σ.1 24 6) + (nI 1)))) : tp_W shC m_Ps_putOn 0 [some (.ref 24), some (.int x1)] [] σ (tp_Qv K) := tp_go ⟨ok_Ps_putOn, rfl⟩ 15 [] h
set_option maxRecDepth 100000 in
theorem bk_Ps_reductions_0 {σ : tp_S} {K : Int32 → tp_S → Prop}  (h : K (σ.1 24 7) σ) : tp_W shC m_Ps_reductions 0 [some (.ref 24)] [] σ (tp_Qi K) := tp_go ⟨ok_Ps_reductions, rfl⟩ 5 [] h
set_option maxRecDepth 100000 in
theorem bk_Ps_endedAt_0 {σ : tp_S} {K : Int32 → tp_S → Prop}  (h : K (σ.1 24 5) σ) : tp_W shC m_Ps_endedAt 0 [some (.ref 24)] [] σ (tp_Qi K) := tp_go ⟨ok_Ps_endedAt, rfl⟩ 5 [] h
set_option maxRecDepth 100000 in
theorem bk_Ps_pileHeight_0 {σ : tp_S} {K : Int32 → tp_S → Prop}  (h : K (σ.1 24 6) σ) : tp_W shC m_Ps_pileHeight 0 [some (.ref 24)] [] σ (tp_Qi K) := tp_go ⟨ok_Ps_pileHeight, rfl⟩ 5 [] h
set_option maxRecDepth 100000 in
theorem bk_Ps_reducedBy_0 {σ : tp_S} {K : Int32 → tp_S → Prop} (x1 : Int32) (h : (x1 < 0 →
      K (-1 : Int32) σ) ∧
    (¬ x1 < 0 →
      ((σ.1 24 7) ≤ x1 →
        K (-1 : Int32) σ) ∧
      (¬ (σ.1 24 7) ≤ x1 →
        vp_in x1 2000 ∧ K (σ.1 27 x1.toNatClampNeg) σ))) : tp_W shC m_Ps_reducedBy 0 [some (.ref 24), some (.int x1)] [] σ (tp_Qi K) := tp_go ⟨ok_Ps_reducedBy, rfl⟩ 15 [] h
set_option maxRecDepth 100000 in
theorem bk_Pk_isSound_0 {σ : tp_S} {K : Int32 → tp_S → Prop}  (h : tp_W shC m_Pk_isSound 2 [some (.ref 18), some (.int (nI 0)), none, none] [] σ (tp_Qi K)) : tp_W shC m_Pk_isSound 0 [some (.ref 18), none, none, none] [] σ (tp_Qi K) := tp_go ⟨ok_Pk_isSound, rfl⟩ 33 [(2, [true, true, false, false]), (16, [true, true, true, true])] h
set_option maxRecDepth 100000 in
theorem bk_Pk_isSound_2 {σ : tp_S} {K : Int32 → tp_S → Prop} (x1 : Int32) (h : ((nI 108) ≤ x1 →
      ((nI 1) = 0 ∨ (nI 1) = 1) ∧ K (nI 1) σ) ∧
    (¬ (nI 108) ≤ x1 →
      tp_W shC m_Pk_widthOf 0 [some (.ref 18), some (.int x1)] [] σ (tp_Qi fun r1 σ1 => tp_W shC m_Pk_isSound 16 [some (.ref 18), some (.int x1), some (.int r1), some (.int (nI 0))] [] σ1 (tp_Qi K)))) : tp_W shC m_Pk_isSound 2 [some (.ref 18), some (.int x1), none, none] [] σ (tp_Qi K) := tp_go ⟨ok_Pk_isSound, rfl⟩ 33 [(2, [true, true, false, false]), (16, [true, true, true, true])] h
set_option maxRecDepth 100000 in
theorem bk_Pk_isSound_16 {σ : tp_S} {K : Int32 → tp_S → Prop} (x1 : Int32) (x2 : Int32) (x3 : Int32) (h : (x2 ≤ x3 →
      tp_W shC m_Pk_isSound 2 [some (.ref 18), some (.int (x1 + (nI 1))), none, none] [] σ (tp_Qi K)) ∧
    (¬ x2 ≤ x3 →
      tp_W shC m_Pk_lookUp 0 [some (.ref 18), some (.int x1), some (.int x3), none, none] [] σ (tp_Qi fun r1 σ1 => tp_W shC m_Pk_entryOf 0 [some (.ref 18), some (.int x1), some (.int x3), none] [] σ1 (tp_Qi fun r2 σ2 => (r1 = r2 →
        tp_W shC m_Pk_isSound 16 [some (.ref 18), some (.int x1), some (.int x2), some (.int (x3 + (nI 1)))] [] σ2 (tp_Qi K)) ∧
      (¬ r1 = r2 →
        ((nI 0) = 0 ∨ (nI 0) = 1) ∧ K (nI 0) σ2))))) : tp_W shC m_Pk_isSound 16 [some (.ref 18), some (.int x1), some (.int x2), some (.int x3)] [] σ (tp_Qi K) := tp_go ⟨ok_Pk_isSound, rfl⟩ 33 [(2, [true, true, false, false]), (16, [true, true, true, true])] h
