set_option maxRecDepth 100000 in
theorem bk_St_find_0 {σ : tp_S} {K : tp_S → Prop}  (h : tp_W shC m_St_markItems 0 [some (.ref 10), none, none, none] [] σ (tp_Qv fun σ1 => tp_W shC m_St_bringRules 0 [some (.ref 10), none, none, none] [] σ1 (tp_Qv fun σ2 => tp_W shC m_Pl_forgetMoves 0 [some (.ref 8)] [] σ2 (tp_Qv fun σ3 => ((nI 0) = 0 ∨ (nI 0) = 1) ∧ tp_W shC m_JA_fillL 0 [some (.ref 14), some (.long (0 : Int64)), none, none, none] [] (tp_si (tp_si σ3 10 6 (nI 0)) 10 7 (nI 0)) (tp_Qv fun σ4 => tp_W shC m_St_mark 0 [some (.ref 14), some (.int (nI 0)), some (.int (nI 168))] [] σ4 (tp_Qv fun σ5 => tp_W shC m_St_complete 0 [some (.ref 10), none, none] [] σ5 (tp_Qv fun σ6 => tp_W shC m_St_numberOfCandidate 0 [some (.ref 10), none] [] σ6 (tp_Qi fun r7 σ7 => tp_W shC m_St_find 55 [some (.ref 10), some (.int (nI 0))] [] σ7 (tp_Qv K))))))))) : tp_W shC m_St_find 0 [some (.ref 10), none] [] σ (tp_Qv K) := tp_go ⟨ok_St_find, rfl⟩ 47 [(55, [true, true])] h
set_option maxRecDepth 100000 in
theorem bk_St_find_55 {σ : tp_S} {K : tp_S → Prop} (x1 : Int32) (h : ((nI 100) ≤ x1 →
      K σ) ∧
    (¬ (nI 100) ≤ x1 →
      ((σ.1 10 6) ≤ x1 →
        K σ) ∧
      (¬ (σ.1 10 6) ≤ x1 →
        (¬ (σ.1 10 7) = 0 →
          K σ) ∧
        ((σ.1 10 7) = 0 →
          tp_W shC m_St_leadOn 0 [some (.ref 10), some (.int x1), none, none] [] σ (tp_Qv fun σ1 => tp_W shC m_St_find 55 [some (.ref 10), some (.int (x1 + (nI 1)))] [] σ1 (tp_Qv K)))))) : tp_W shC m_St_find 55 [some (.ref 10), some (.int x1)] [] σ (tp_Qv K) := tp_go ⟨ok_St_find, rfl⟩ 47 [(55, [true, true])] h
set_option maxRecDepth 100000 in
theorem bk_St_markItems_0 {σ : tp_S} {K : tp_S → Prop}  (h : tp_W shC m_JA_fillL 0 [some (.ref 12), some (.long (0 : Int64)), none, none, none] [] σ (tp_Qv fun σ1 => tp_W shC m_JA_fillL 0 [some (.ref 13), some (.long (0 : Int64)), none, none, none] [] σ1 (tp_Qv fun σ2 => tp_W shC m_Gr_columnAt 0 [some (.ref 1), some (.int (nI 168))] [] σ2 (tp_Qi fun r3 σ3 => tp_W shC m_St_mark 0 [some (.ref 12), some (.int r3), some (.int (nI 168))] [] σ3 (tp_Qv fun σ4 => tp_W shC m_St_markItems 38 [some (.ref 10), some (.int (nI 0)), none, none] [] σ4 (tp_Qv K)))))) : tp_W shC m_St_markItems 0 [some (.ref 10), none, none, none] [] σ (tp_Qv K) := tp_go ⟨ok_St_markItems, rfl⟩ 62 [(38, [true, true, false, false]), (72, [true, true, true, true])] h
set_option maxRecDepth 100000 in
theorem bk_St_markItems_38 {σ : tp_S} {K : tp_S → Prop} (x1 : Int32) (h : tp_W shC m_Gr_rules 0 [some (.ref 1)] [] σ (tp_Qi fun r1 σ1 => (r1 ≤ x1 →
      K σ1) ∧
    (¬ r1 ≤ x1 →
      tp_W shC m_Gr_kindOf 0 [some (.ref 1), some (.int x1)] [] σ1 (tp_Qi fun r2 σ2 => tp_W shC m_St_mark 0 [some (.ref 13), some (.int r2), some (.int (x1 * (nI 7)))] [] σ2 (tp_Qv fun σ3 => tp_W shC m_St_markItems 72 [some (.ref 10), some (.int x1), some (.int (x1 * (nI 7))), some (.int (nI 0))] [] σ3 (tp_Qv K)))))) : tp_W shC m_St_markItems 38 [some (.ref 10), some (.int x1), none, none] [] σ (tp_Qv K) := tp_go ⟨ok_St_markItems, rfl⟩ 62 [(38, [true, true, false, false]), (72, [true, true, true, true])] h
set_option maxRecDepth 100000 in
theorem bk_St_markItems_72 {σ : tp_S} {K : tp_S → Prop} (x1 : Int32) (x2 : Int32) (x3 : Int32) (h : tp_W shC m_Gr_lengthOf 0 [some (.ref 1), some (.int x1)] [] σ (tp_Qi fun r1 σ1 => (r1 ≤ x3 →
      tp_W shC m_St_markItems 38 [some (.ref 10), some (.int (x1 + (nI 1))), none, none] [] σ1 (tp_Qv K)) ∧
    (¬ r1 ≤ x3 →
      tp_W shC m_Gr_columnAt 0 [some (.ref 1), some (.int (x2 + x3))] [] σ1 (tp_Qi fun r2 σ2 => tp_W shC m_St_mark 0 [some (.ref 12), some (.int r2), some (.int (x2 + x3))] [] σ2 (tp_Qv fun σ3 => tp_W shC m_St_markItems 72 [some (.ref 10), some (.int x1), some (.int x2), some (.int (x3 + (nI 1)))] [] σ3 (tp_Qv K)))))) : tp_W shC m_St_markItems 72 [some (.ref 10), some (.int x1), some (.int x2), some (.int x3)] [] σ (tp_Qv K) := tp_go ⟨ok_St_markItems, rfl⟩ 62 [(38, [true, true, false, false]), (72, [true, true, true, true])] h
set_option maxRecDepth 100000 in
theorem bk_St_mark_12_0 {σ : tp_S} {K : tp_S → Prop} (x1 : Int32) (x2 : Int32) (h : ¬ (nI 64) = 0 ∧ vp_in ((x1 * (nI 3)) + (x2 / (nI 64))) 66 ∧ ¬ (nI 64) = 0 ∧ vp_in ((x1 * (nI 3)) + (x2 / (nI 64))) 66 ∧ K (tp_sl σ 12 ((x1 * (nI 3)) + (x2 / (nI 64))).toNatClampNeg ((σ.2 12 ((x1 * (nI 3)) + (x2 / (nI 64))).toNatClampNeg) ||| ((1 : Int64) <<< (Int32.toInt64 (x2 - x2 / (nI 64) * (nI 64)) &&& 63))))) : tp_W shC m_St_mark 0 [some (.ref 12), some (.int x1), some (.int x2)] [] σ (tp_Qv K) := tp_go ⟨ok_St_mark, rfl⟩ 20 [] h
set_option maxRecDepth 100000 in
theorem bk_St_mark_13_0 {σ : tp_S} {K : tp_S → Prop} (x1 : Int32) (x2 : Int32) (h : ¬ (nI 64) = 0 ∧ vp_in ((x1 * (nI 3)) + (x2 / (nI 64))) 24 ∧ ¬ (nI 64) = 0 ∧ vp_in ((x1 * (nI 3)) + (x2 / (nI 64))) 24 ∧ K (tp_sl σ 13 ((x1 * (nI 3)) + (x2 / (nI 64))).toNatClampNeg ((σ.2 13 ((x1 * (nI 3)) + (x2 / (nI 64))).toNatClampNeg) ||| ((1 : Int64) <<< (Int32.toInt64 (x2 - x2 / (nI 64) * (nI 64)) &&& 63))))) : tp_W shC m_St_mark 0 [some (.ref 13), some (.int x1), some (.int x2)] [] σ (tp_Qv K) := tp_go ⟨ok_St_mark, rfl⟩ 20 [] h
set_option maxRecDepth 100000 in
theorem bk_St_mark_14_0 {σ : tp_S} {K : tp_S → Prop} (x1 : Int32) (x2 : Int32) (h : ¬ (nI 64) = 0 ∧ vp_in ((x1 * (nI 3)) + (x2 / (nI 64))) 3 ∧ ¬ (nI 64) = 0 ∧ vp_in ((x1 * (nI 3)) + (x2 / (nI 64))) 3 ∧ K (tp_sl σ 14 ((x1 * (nI 3)) + (x2 / (nI 64))).toNatClampNeg ((σ.2 14 ((x1 * (nI 3)) + (x2 / (nI 64))).toNatClampNeg) ||| ((1 : Int64) <<< (Int32.toInt64 (x2 - x2 / (nI 64) * (nI 64)) &&& 63))))) : tp_W shC m_St_mark 0 [some (.ref 14), some (.int x1), some (.int x2)] [] σ (tp_Qv K) := tp_go ⟨ok_St_mark, rfl⟩ 20 [] h
set_option maxRecDepth 100000 in
theorem bk_St_bringRules_0 {σ : tp_S} {K : tp_S → Prop}  (h : tp_W shC m_St_bringRules 2 [some (.ref 10), some (.int (nI 0)), none, none] [] σ (tp_Qv K)) : tp_W shC m_St_bringRules 0 [some (.ref 10), none, none, none] [] σ (tp_Qv K) := tp_go ⟨ok_St_bringRules, rfl⟩ 38 [(2, [true, true, false, false]), (10, [true, true, true, false])] h
set_option maxRecDepth 100000 in
theorem bk_St_bringRules_2 {σ : tp_S} {K : tp_S → Prop} (x1 : Int32) (h : ((nI 8) ≤ x1 →
      K σ) ∧
    (¬ (nI 8) ≤ x1 →
      tp_W shC m_St_bringRules 10 [some (.ref 10), some (.int x1), some (.int (nI 0)), none] [] σ (tp_Qv K))) : tp_W shC m_St_bringRules 2 [some (.ref 10), some (.int x1), none, none] [] σ (tp_Qv K) := tp_go ⟨ok_St_bringRules, rfl⟩ 38 [(2, [true, true, false, false]), (10, [true, true, true, false])] h
set_option maxRecDepth 100000 in
theorem bk_St_bringRules_10 {σ : tp_S} {K : tp_S → Prop} (x1 : Int32) (x2 : Int32) (h : tp_W shC m_Gr_rules 0 [some (.ref 1)] [] σ (tp_Qi fun r1 σ1 => (r1 ≤ x2 →
      tp_W shC m_St_bringRules 2 [some (.ref 10), some (.int (x1 + (nI 1))), none, none] [] σ1 (tp_Qv K)) ∧
    (¬ r1 ≤ x2 →
      tp_W shC m_Gr_columnAt 0 [some (.ref 1), some (.int (x2 * (nI 7)))] [] σ1 (tp_Qi fun r2 σ2 => (r2 < (nI 14) →
        tp_W shC m_St_bringRules 10 [some (.ref 10), some (.int x1), some (.int (x2 + (nI 1))), none] [] σ2 (tp_Qv K)) ∧
      (¬ r2 < (nI 14) →
        tp_W shC m_Gr_kindOf 0 [some (.ref 1), some (.int x2)] [] σ2 (tp_Qi fun r3 σ3 => tp_W shC m_St_bringAlong 0 [some (.ref 10), some (.int r3), some (.int (r2 - (nI 14))), none] [] σ3 (tp_Qv fun σ4 => tp_W shC m_St_bringRules 10 [some (.ref 10), some (.int x1), some (.int (x2 + (nI 1))), none] [] σ4 (tp_Qv K)))))))) : tp_W shC m_St_bringRules 10 [some (.ref 10), some (.int x1), some (.int x2), none] [] σ (tp_Qv K) := tp_go ⟨ok_St_bringRules, rfl⟩ 38 [(2, [true, true, false, false]), (10, [true, true, true, false])] h
set_option maxRecDepth 100000 in
theorem bk_St_bringAlong_0 {σ : tp_S} {K : tp_S → Prop} (x1 : Int32) (x2 : Int32) (h : tp_W shC m_St_bringAlong 2 [some (.ref 10), some (.int x1), some (.int x2), some (.int (nI 0))] [] σ (tp_Qv K)) : tp_W shC m_St_bringAlong 0 [some (.ref 10), some (.int x1), some (.int x2), none] [] σ (tp_Qv K) := tp_go ⟨ok_St_bringAlong, rfl⟩ 29 [(2, [true, true, true, true])] h
set_option maxRecDepth 100000 in
theorem bk_St_bringAlong_2 {σ : tp_S} {K : tp_S → Prop} (x1 : Int32) (x2 : Int32) (x3 : Int32) (h : ((nI 3) ≤ x3 →
      K σ) ∧
    (¬ (nI 3) ≤ x3 →
      vp_in ((x1 * (nI 3)) + x3) 24 ∧ vp_in ((x2 * (nI 3)) + x3) 24 ∧ vp_in ((x1 * (nI 3)) + x3) 24 ∧ tp_W shC m_St_bringAlong 2 [some (.ref 10), some (.int x1), some (.int x2), some (.int (x3 + (nI 1)))] [] (tp_sl σ 13 ((x1 * (nI 3)) + x3).toNatClampNeg ((σ.2 13 ((x1 * (nI 3)) + x3).toNatClampNeg) ||| (σ.2 13 ((x2 * (nI 3)) + x3).toNatClampNeg))) (tp_Qv K))) : tp_W shC m_St_bringAlong 2 [some (.ref 10), some (.int x1), some (.int x2), some (.int x3)] [] σ (tp_Qv K) := tp_go ⟨ok_St_bringAlong, rfl⟩ 29 [(2, [true, true, true, true])] h
set_option maxRecDepth 100000 in
theorem bk_St_complete_0 {σ : tp_S} {K : tp_S → Prop}  (h : tp_W shC m_St_complete 2 [some (.ref 10), some (.int (nI 0)), none] [] σ (tp_Qv K)) : tp_W shC m_St_complete 0 [some (.ref 10), none, none] [] σ (tp_Qv K) := tp_go ⟨ok_St_complete, rfl⟩ 38 [(2, [true, true, false]), (21, [true, true, true])] h
set_option maxRecDepth 100000 in
theorem bk_St_complete_2 {σ : tp_S} {K : tp_S → Prop} (x1 : Int32) (h : ((nI 8) ≤ x1 →
      K σ) ∧
    (¬ (nI 8) ≤ x1 →
      tp_W shC m_St_candidateStandsBefore 0 [some (.ref 10), some (.int ((nI 14) + x1)), none] [] σ (tp_Qi fun r1 σ1 => (r1 = 0 →
        tp_W shC m_St_complete 2 [some (.ref 10), some (.int (x1 + (nI 1))), none] [] σ1 (tp_Qv K)) ∧
      (¬ r1 = 0 →
        tp_W shC m_St_complete 21 [some (.ref 10), some (.int x1), some (.int (nI 0))] [] σ1 (tp_Qv K))))) : tp_W shC m_St_complete 2 [some (.ref 10), some (.int x1), none] [] σ (tp_Qv K) := tp_go ⟨ok_St_complete, rfl⟩ 38 [(2, [true, true, false]), (21, [true, true, true])] h
set_option maxRecDepth 100000 in
theorem bk_St_complete_21 {σ : tp_S} {K : tp_S → Prop} (x1 : Int32) (x2 : Int32) (h : ((nI 3) ≤ x2 →
      tp_W shC m_St_complete 2 [some (.ref 10), some (.int (x1 + (nI 1))), none] [] σ (tp_Qv K)) ∧
    (¬ (nI 3) ≤ x2 →
      vp_in x2 3 ∧ vp_in ((x1 * (nI 3)) + x2) 24 ∧ vp_in x2 3 ∧ tp_W shC m_St_complete 21 [some (.ref 10), some (.int x1), some (.int (x2 + (nI 1)))] [] (tp_sl σ 14 x2.toNatClampNeg ((σ.2 14 x2.toNatClampNeg) ||| (σ.2 13 ((x1 * (nI 3)) + x2).toNatClampNeg))) (tp_Qv K))) : tp_W shC m_St_complete 21 [some (.ref 10), some (.int x1), some (.int x2)] [] σ (tp_Qv K) := tp_go ⟨ok_St_complete, rfl⟩ 38 [(2, [true, true, false]), (21, [true, true, true])] h
set_option maxRecDepth 100000 in
theorem bk_St_candidateStandsBefore_0 {σ : tp_S} {K : Int32 → tp_S → Prop} (x1 : Int32) (h : tp_W shC m_St_candidateStandsBefore 2 [some (.ref 10), some (.int x1), some (.int (nI 0))] [] σ (tp_Qi K)) : tp_W shC m_St_candidateStandsBefore 0 [some (.ref 10), some (.int x1), none] [] σ (tp_Qi K) := tp_go ⟨ok_St_candidateStandsBefore, rfl⟩ 29 [(2, [true, true, true])] h
set_option maxRecDepth 100000 in
theorem bk_St_candidateStandsBefore_2 {σ : tp_S} {K : Int32 → tp_S → Prop} (x1 : Int32) (x2 : Int32) (h : ((nI 3) ≤ x2 →
      ((nI 0) = 0 ∨ (nI 0) = 1) ∧ K (nI 0) σ) ∧
    (¬ (nI 3) ≤ x2 →
      vp_in x2 3 ∧ vp_in ((x1 * (nI 3)) + x2) 66 ∧ ((lg_cmp ((σ.2 14 x2.toNatClampNeg) &&& (σ.2 12 ((x1 * (nI 3)) + x2).toNatClampNeg)) (0 : Int64)) = 0 →
        tp_W shC m_St_candidateStandsBefore 2 [some (.ref 10), some (.int x1), some (.int (x2 + (nI 1)))] [] σ (tp_Qi K)) ∧
      (¬ (lg_cmp ((σ.2 14 x2.toNatClampNeg) &&& (σ.2 12 ((x1 * (nI 3)) + x2).toNatClampNeg)) (0 : Int64)) = 0 →
        ((nI 1) = 0 ∨ (nI 1) = 1) ∧ K (nI 1) σ))) : tp_W shC m_St_candidateStandsBefore 2 [some (.ref 10), some (.int x1), some (.int x2)] [] σ (tp_Qi K) := tp_go ⟨ok_St_candidateStandsBefore, rfl⟩ 29 [(2, [true, true, true])] h
set_option maxRecDepth 100000 in
theorem bk_St_numberOfCandidate_0 {σ : tp_S} {K : Int32 → tp_S → Prop}  (h : tp_W shC m_St_numberOfCandidate 2 [some (.ref 10), some (.int (nI 0))] [] σ (tp_Qi K)) : tp_W shC m_St_numberOfCandidate 0 [some (.ref 10), none] [] σ (tp_Qi K) := tp_go ⟨ok_St_numberOfCandidate, rfl⟩ 44 [(2, [true, true])] h
set_option maxRecDepth 100000 in
theorem bk_St_numberOfCandidate_2 {σ : tp_S} {K : Int32 → tp_S → Prop} (x1 : Int32) (h : ((σ.1 10 6) ≤ x1 →
      ((σ.1 10 6) < (nI 100) →
        ¬ (nI 0) < 0 ∧ ¬ ((σ.1 10 6) * (nI 3)) < 0 ∧ ¬ (nI 3) < 0 ∧ (nI 0).toNatClampNeg + (nI 3).toNatClampNeg ≤ 3 ∧ ((σ.1 10 6) * (nI 3)).toNatClampNeg + (nI 3).toNatClampNeg ≤ 300 ∧ K (((σ.1 10 6) + (nI 1)) - (nI 1)) (tp_si (tp_sL σ 11 (va_cpy (σ.2 14) (σ.2 11) (nI 0).toNatClampNeg ((σ.1 10 6) * (nI 3)).toNatClampNeg (nI 3).toNatClampNeg)) 10 6 ((σ.1 10 6) + (nI 1)))) ∧
      (¬ (σ.1 10 6) < (nI 100) →
        K (-1 : Int32) σ)) ∧
    (¬ (σ.1 10 6) ≤ x1 →
      tp_W shC m_St_isCandidate 0 [some (.ref 10), some (.int x1), none] [] σ (tp_Qi fun r1 σ1 => (r1 = 0 →
        tp_W shC m_St_numberOfCandidate 2 [some (.ref 10), some (.int (x1 + (nI 1)))] [] σ1 (tp_Qi K)) ∧
      (¬ r1 = 0 →
        K x1 σ1)))) : tp_W shC m_St_numberOfCandidate 2 [some (.ref 10), some (.int x1)] [] σ (tp_Qi K) := tp_go ⟨ok_St_numberOfCandidate, rfl⟩ 44 [(2, [true, true])] h
set_option maxRecDepth 100000 in
theorem bk_St_isCandidate_0 {σ : tp_S} {K : Int32 → tp_S → Prop} (x1 : Int32) (h : tp_W shC m_St_isCandidate 2 [some (.ref 10), some (.int x1), some (.int (nI 0))] [] σ (tp_Qi K)) : tp_W shC m_St_isCandidate 0 [some (.ref 10), some (.int x1), none] [] σ (tp_Qi K) := tp_go ⟨ok_St_isCandidate, rfl⟩ 27 [(2, [true, true, true])] h
set_option maxRecDepth 100000 in
theorem bk_St_isCandidate_2 {σ : tp_S} {K : Int32 → tp_S → Prop} (x1 : Int32) (x2 : Int32) (h : ((nI 3) ≤ x2 →
      ((nI 1) = 0 ∨ (nI 1) = 1) ∧ K (nI 1) σ) ∧
    (¬ (nI 3) ≤ x2 →
      vp_in ((x1 * (nI 3)) + x2) 300 ∧ vp_in x2 3 ∧ ((lg_cmp (σ.2 11 ((x1 * (nI 3)) + x2).toNatClampNeg) (σ.2 14 x2.toNatClampNeg)) = 0 →
        tp_W shC m_St_isCandidate 2 [some (.ref 10), some (.int x1), some (.int (x2 + (nI 1)))] [] σ (tp_Qi K)) ∧
      (¬ (lg_cmp (σ.2 11 ((x1 * (nI 3)) + x2).toNatClampNeg) (σ.2 14 x2.toNatClampNeg)) = 0 →
        ((nI 0) = 0 ∨ (nI 0) = 1) ∧ K (nI 0) σ))) : tp_W shC m_St_isCandidate 2 [some (.ref 10), some (.int x1), some (.int x2)] [] σ (tp_Qi K) := tp_go ⟨ok_St_isCandidate, rfl⟩ 27 [(2, [true, true, true])] h
set_option maxRecDepth 100000 in
theorem bk_St_leadOn_0 {σ : tp_S} {K : tp_S → Prop} (x1 : Int32) (h : tp_W shC m_St_leadOn 2 [some (.ref 10), some (.int x1), some (.int (nI 0)), none] [] σ (tp_Qv K)) : tp_W shC m_St_leadOn 0 [some (.ref 10), some (.int x1), none, none] [] σ (tp_Qv K) := tp_go ⟨ok_St_leadOn, rfl⟩ 36 [(2, [true, true, true, false])] h
set_option maxRecDepth 100000 in
theorem bk_St_leadOn_2 {σ : tp_S} {K : tp_S → Prop} (x1 : Int32) (x2 : Int32) (h : ((nI 22) ≤ x2 →
      K σ) ∧
    (¬ (nI 22) ≤ x2 →
      (¬ (σ.1 10 7) = 0 →
        K σ) ∧
      ((σ.1 10 7) = 0 →
        tp_W shC m_St_step 0 [some (.ref 10), some (.int x1), some (.int x2), none, none, none, none, none, none] [] σ (tp_Qi fun r1 σ1 => (r1 = 0 →
          tp_W shC m_St_leadOn 2 [some (.ref 10), some (.int x1), some (.int (x2 + (nI 1))), none] [] σ1 (tp_Qv K)) ∧
        (¬ r1 = 0 →
          tp_W shC m_St_complete 0 [some (.ref 10), none, none] [] σ1 (tp_Qv fun σ2 => tp_W shC m_St_numberOfCandidate 0 [some (.ref 10), none] [] σ2 (tp_Qi fun r3 σ3 => (¬ r3 = (-1 : Int32) →
            tp_W shC m_Pl_addLead 0 [some (.ref 8), some (.int x1), some (.int x2), some (.int r3)] [] σ3 (tp_Qv fun σ4 => tp_W shC m_St_leadOn 2 [some (.ref 10), some (.int x1), some (.int (x2 + (nI 1))), none] [] σ4 (tp_Qv K))) ∧
          (r3 = (-1 : Int32) →
            ((nI 1) = 0 ∨ (nI 1) = 1) ∧ tp_W shC m_St_leadOn 2 [some (.ref 10), some (.int x1), some (.int (x2 + (nI 1))), none] [] (tp_si σ3 10 7 (nI 1)) (tp_Qv K))))))))) : tp_W shC m_St_leadOn 2 [some (.ref 10), some (.int x1), some (.int x2), none] [] σ (tp_Qv K) := tp_go ⟨ok_St_leadOn, rfl⟩ 36 [(2, [true, true, true, false])] h
set_option maxRecDepth 100000 in
theorem bk_St_step_0 {σ : tp_S} {K : Int32 → tp_S → Prop} (x1 : Int32) (x2 : Int32) (h : tp_W shC m_St_step 8 [some (.ref 10), some (.int x1), some (.int x2), some (.long (0 : Int64)), none, some (.int (nI 0)), some (.int (nI 0)), none, none] [] σ (tp_Qi K)) : tp_W shC m_St_step 0 [some (.ref 10), some (.int x1), some (.int x2), none, none, none, none, none, none] [] σ (tp_Qi K) := tp_go ⟨ok_St_step, rfl⟩ 56 [(8, [true, true, true, true, false, true, true, false, false])] h
set_option maxRecDepth 100000 in
theorem bk_St_step_8 {σ : tp_S} {K : Int32 → tp_S → Prop} (x1 : Int32) (x2 : Int32) (x3 : Int64) (x5 : Int32) (x6 : Int32) (h : ((nI 3) ≤ x6 →
      (x5 = 0 ∨ x5 = 1) ∧ K x5 σ) ∧
    (¬ (nI 3) ≤ x6 →
      vp_in ((x1 * (nI 3)) + x6) 300 ∧ vp_in ((x2 * (nI 3)) + x6) 66 ∧ vp_in x6 3 ∧ (¬ x5 = 0 →
        tp_W shC m_St_step 8 [some (.ref 10), some (.int x1), some (.int x2), some (.long (Int64.toUInt64 ((σ.2 11 ((x1 * (nI 3)) + x6).toNatClampNeg) &&& (σ.2 12 ((x2 * (nI 3)) + x6).toNatClampNeg)) >>> ((Int32.toInt64 (nI 63)).toUInt64 &&& Int64.toUInt64 63)).toInt64), none, some (.int (nI 1)), some (.int (x6 + (nI 1))), none, none] [] (tp_sl σ 14 x6.toNatClampNeg ((((σ.2 11 ((x1 * (nI 3)) + x6).toNatClampNeg) &&& (σ.2 12 ((x2 * (nI 3)) + x6).toNatClampNeg)) <<< (Int32.toInt64 (nI 1) &&& 63)) ||| x3)) (tp_Qi K)) ∧
      (x5 = 0 →
        ((lg_cmp ((σ.2 11 ((x1 * (nI 3)) + x6).toNatClampNeg) &&& (σ.2 12 ((x2 * (nI 3)) + x6).toNatClampNeg)) (0 : Int64)) = 0 →
          tp_W shC m_St_step 8 [some (.ref 10), some (.int x1), some (.int x2), some (.long (Int64.toUInt64 ((σ.2 11 ((x1 * (nI 3)) + x6).toNatClampNeg) &&& (σ.2 12 ((x2 * (nI 3)) + x6).toNatClampNeg)) >>> ((Int32.toInt64 (nI 63)).toUInt64 &&& Int64.toUInt64 63)).toInt64), none, some (.int (nI 0)), some (.int (x6 + (nI 1))), none, none] [] (tp_sl σ 14 x6.toNatClampNeg ((((σ.2 11 ((x1 * (nI 3)) + x6).toNatClampNeg) &&& (σ.2 12 ((x2 * (nI 3)) + x6).toNatClampNeg)) <<< (Int32.toInt64 (nI 1) &&& 63)) ||| x3)) (tp_Qi K)) ∧
        (¬ (lg_cmp ((σ.2 11 ((x1 * (nI 3)) + x6).toNatClampNeg) &&& (σ.2 12 ((x2 * (nI 3)) + x6).toNatClampNeg)) (0 : Int64)) = 0 →
          tp_W shC m_St_step 8 [some (.ref 10), some (.int x1), some (.int x2), some (.long (Int64.toUInt64 ((σ.2 11 ((x1 * (nI 3)) + x6).toNatClampNeg) &&& (σ.2 12 ((x2 * (nI 3)) + x6).toNatClampNeg)) >>> ((Int32.toInt64 (nI 63)).toUInt64 &&& Int64.toUInt64 63)).toInt64), none, some (.int (nI 1)), some (.int (x6 + (nI 1))), none, none] [] (tp_sl σ 14 x6.toNatClampNeg ((((σ.2 11 ((x1 * (nI 3)) + x6).toNatClampNeg) &&& (σ.2 12 ((x2 * (nI 3)) + x6).toNatClampNeg)) <<< (Int32.toInt64 (nI 1) &&& 63)) ||| x3)) (tp_Qi K))))) : tp_W shC m_St_step 8 [some (.ref 10), some (.int x1), some (.int x2), some (.long x3), none, some (.int x5), some (.int x6), none, none] [] σ (tp_Qi K) := tp_go ⟨ok_St_step, rfl⟩ 56 [(8, [true, true, true, true, false, true, true, false, false])] h
set_option maxRecDepth 100000 in
theorem bk_St_tooLarge_0 {σ : tp_S} {K : Int32 → tp_S → Prop}  (h : ((σ.1 10 7) = 0 ∨ (σ.1 10 7) = 1) ∧ K (σ.1 10 7) σ) : tp_W shC m_St_tooLarge 0 [some (.ref 10)] [] σ (tp_Qi K) := tp_go ⟨ok_St_tooLarge, rfl⟩ 5 [] h
set_option maxRecDepth 100000 in
theorem bk_La_find_0 {σ : tp_S} {K : tp_S → Prop}  (h : tp_W shC m_JA_fillL 0 [some (.ref 16), some (.long (0 : Int64)), none, none, none] [] σ (tp_Qv fun σ1 => tp_W shC m_La_find 10 [some (.ref 15), some (.int (nI 0)), none, none] [] σ1 (tp_Qv K))) : tp_W shC m_La_find 0 [some (.ref 15), none, none, none] [] σ (tp_Qv K) := tp_go ⟨ok_La_find, rfl⟩ 63 [(10, [true, true, false, false]), (47, [true, true, true, false]), (61, [true, true, true, true])] h
set_option maxRecDepth 100000 in
theorem bk_La_find_10 {σ : tp_S} {K : tp_S → Prop} (x1 : Int32) (h : tp_W shC m_St_size 0 [some (.ref 10)] [] σ (tp_Qi fun r1 σ1 => (r1 ≤ x1 →
      tp_W shC m_La_join 0 [some (.ref 15), some (.int (nI 0)), some (.int (nI 168)), some (.int (nI 1)), none, none, none] [] σ1 (tp_Qv fun σ2 => tp_W shC m_La_find 47 [some (.ref 15), some (.int (nI 1)), some (.int (nI 0)), none] [] σ2 (tp_Qv K))) ∧
    (¬ r1 ≤ x1 →
      vp_in x1 100 ∧ ((nI 1) = 0 ∨ (nI 1) = 1) ∧ tp_W shC m_La_find 10 [some (.ref 15), some (.int (x1 + (nI 1))), none, none] [] (tp_si σ1 17 x1.toNatClampNeg (nI 1)) (tp_Qv K)))) : tp_W shC m_La_find 10 [some (.ref 15), some (.int x1), none, none] [] σ (tp_Qv K) := tp_go ⟨ok_La_find, rfl⟩ 63 [(10, [true, true, false, false]), (47, [true, true, true, false]), (61, [true, true, true, true])] h
set_option maxRecDepth 100000 in
theorem bk_La_find_47 {σ : tp_S} {K : tp_S → Prop} (x1 : Int32) (x2 : Int32) (h : (x1 = 0 →
      K σ) ∧
    (¬ x1 = 0 →
      ((nI 238002) ≤ x2 →
        K σ) ∧
      (¬ (nI 238002) ≤ x2 →
        tp_W shC m_La_find 61 [some (.ref 15), some (.int (nI 0)), some (.int x2), some (.int (nI 0))] [] σ (tp_Qv K)))) : tp_W shC m_La_find 47 [some (.ref 15), some (.int x1), some (.int x2), none] [] σ (tp_Qv K) := tp_go ⟨ok_La_find, rfl⟩ 63 [(10, [true, true, false, false]), (47, [true, true, true, false]), (61, [true, true, true, true])] h
set_option maxRecDepth 100000 in
theorem bk_La_find_61 {σ : tp_S} {K : tp_S → Prop} (x1 : Int32) (x2 : Int32) (x3 : Int32) (h : tp_W shC m_St_size 0 [some (.ref 10)] [] σ (tp_Qi fun r1 σ1 => (r1 ≤ x3 →
      tp_W shC m_La_find 47 [some (.ref 15), some (.int x1), some (.int (x2 + (nI 1))), none] [] σ1 (tp_Qv K)) ∧
    (¬ r1 ≤ x3 →
      vp_in x3 100 ∧ ((σ1.1 17 x3.toNatClampNeg) = 0 →
        tp_W shC m_La_find 61 [some (.ref 15), some (.int x1), some (.int x2), some (.int (x3 + (nI 1)))] [] σ1 (tp_Qv K)) ∧
      (¬ (σ1.1 17 x3.toNatClampNeg) = 0 →
        vp_in x3 100 ∧ ((nI 0) = 0 ∨ (nI 0) = 1) ∧ tp_W shC m_La_spreadState 0 [some (.ref 15), some (.int x3), none, none, none] [] (tp_si σ1 17 x3.toNatClampNeg (nI 0)) (tp_Qv fun σ2 => tp_W shC m_La_find 61 [some (.ref 15), some (.int (nI 1)), some (.int x2), some (.int (x3 + (nI 1)))] [] σ2 (tp_Qv K)))))) : tp_W shC m_La_find 61 [some (.ref 15), some (.int x1), some (.int x2), some (.int x3)] [] σ (tp_Qv K) := tp_go ⟨ok_La_find, rfl⟩ 63 [(10, [true, true, false, false]), (47, [true, true, true, false]), (61, [true, true, true, true])] h
set_option maxRecDepth 100000 in
theorem bk_St_size_0 {σ : tp_S} {K : Int32 → tp_S → Prop}  (h : K (σ.1 10 6) σ) : tp_W shC m_St_size 0 [some (.ref 10)] [] σ (tp_Qi K) := tp_go ⟨ok_St_size, rfl⟩ 5 [] h
set_option maxRecDepth 100000 in
theorem bk_La_join_0 {σ : tp_S} {K : tp_S → Prop} (x1 : Int32) (x2 : Int32) (x3 : Int32) (h : ¬ (nI 4) = 0 ∧ vp_in ((x1 * (nI 43)) + (x2 / (nI 4))) 4300 ∧ ¬ (nI 4) = 0 ∧ vp_in ((x1 * (nI 43)) + (x2 / (nI 4))) 4300 ∧ ((lg_cmp ((σ.2 16 ((x1 * (nI 43)) + (x2 / (nI 4))).toNatClampNeg) ||| ((Int32.toInt64 x3) <<< (Int32.toInt64 ((x2 - x2 / (nI 4) * (nI 4)) * (nI 16)) &&& 63))) (σ.2 16 ((x1 * (nI 43)) + (x2 / (nI 4))).toNatClampNeg)) = 0 →
      K σ) ∧
    (¬ (lg_cmp ((σ.2 16 ((x1 * (nI 43)) + (x2 / (nI 4))).toNatClampNeg) ||| ((Int32.toInt64 x3) <<< (Int32.toInt64 ((x2 - x2 / (nI 4) * (nI 4)) * (nI 16)) &&& 63))) (σ.2 16 ((x1 * (nI 43)) + (x2 / (nI 4))).toNatClampNeg)) = 0 →
      vp_in ((x1 * (nI 43)) + (x2 / (nI 4))) 4300 ∧ vp_in x1 100 ∧ ((nI 1) = 0 ∨ (nI 1) = 1) ∧ K (tp_si (tp_sl σ 16 ((x1 * (nI 43)) + (x2 / (nI 4))).toNatClampNeg ((σ.2 16 ((x1 * (nI 43)) + (x2 / (nI 4))).toNatClampNeg) ||| ((Int32.toInt64 x3) <<< (Int32.toInt64 ((x2 - x2 / (nI 4) * (nI 4)) * (nI 16)) &&& 63)))) 17 x1.toNatClampNeg (nI 1)))) : tp_W shC m_La_join 0 [some (.ref 15), some (.int x1), some (.int x2), some (.int x3), none, none, none] [] σ (tp_Qv K) := tp_go ⟨ok_La_join, rfl⟩ 42 [] h
set_option maxRecDepth 100000 in
theorem bk_La_spreadState_0 {σ : tp_S} {K : tp_S → Prop} (x1 : Int32) (h : tp_W shC m_La_spreadState 2 [some (.ref 15), some (.int x1), some (.int (nI 0)), none, none] [] σ (tp_Qv K)) : tp_W shC m_La_spreadState 0 [some (.ref 15), some (.int x1), none, none, none] [] σ (tp_Qv K) := tp_go ⟨ok_La_spreadState, rfl⟩ 36 [(2, [true, true, true, false, false]), (10, [true, true, true, true, false])] h
set_option maxRecDepth 100000 in
theorem bk_La_spreadState_2 {σ : tp_S} {K : tp_S → Prop} (x1 : Int32) (x2 : Int32) (h : ((nI 24) < x2 →
      K σ) ∧
    (¬ (nI 24) < x2 →
      tp_W shC m_La_spreadState 10 [some (.ref 15), some (.int x1), some (.int x2), some (.int (nI 0)), none] [] σ (tp_Qv K))) : tp_W shC m_La_spreadState 2 [some (.ref 15), some (.int x1), some (.int x2), none, none] [] σ (tp_Qv K) := tp_go ⟨ok_La_spreadState, rfl⟩ 36 [(2, [true, true, true, false, false]), (10, [true, true, true, true, false])] h
set_option maxRecDepth 100000 in
theorem bk_La_spreadState_10 {σ : tp_S} {K : tp_S → Prop} (x1 : Int32) (x2 : Int32) (x3 : Int32) (h : tp_W shC m_Gr_lengthOf 0 [some (.ref 1), some (.int x2)] [] σ (tp_Qi fun r1 σ1 => (r1 ≤ x3 →
      tp_W shC m_La_spreadState 2 [some (.ref 15), some (.int x1), some (.int (x2 + (nI 1))), none, none] [] σ1 (tp_Qv K)) ∧
    (¬ r1 ≤ x3 →
      tp_W shC m_St_holds 0 [some (.ref 10), some (.int x1), some (.int ((x2 * (nI 7)) + x3))] [] σ1 (tp_Qi fun r2 σ2 => (r2 = 0 →
        tp_W shC m_La_spreadState 10 [some (.ref 15), some (.int x1), some (.int x2), some (.int (x3 + (nI 1))), none] [] σ2 (tp_Qv K)) ∧
      (¬ r2 = 0 →
        tp_W shC m_La_spreadItem 0 [some (.ref 15), some (.int x1), some (.int ((x2 * (nI 7)) + x3)), none, none, none, none, none] [] σ2 (tp_Qv fun σ3 => tp_W shC m_La_spreadState 10 [some (.ref 15), some (.int x1), some (.int x2), some (.int (x3 + (nI 1))), none] [] σ3 (tp_Qv K))))))) : tp_W shC m_La_spreadState 10 [some (.ref 15), some (.int x1), some (.int x2), some (.int x3), none] [] σ (tp_Qv K) := tp_go ⟨ok_La_spreadState, rfl⟩ 36 [(2, [true, true, true, false, false]), (10, [true, true, true, true, false])] h
set_option maxRecDepth 100000 in
theorem bk_St_holds_0 {σ : tp_S} {K : Int32 → tp_S → Prop} (x1 : Int32) (x2 : Int32) (h : ¬ (nI 64) = 0 ∧ vp_in ((x1 * (nI 3)) + (x2 / (nI 64))) 300 ∧ ¬ (nI 64) = 0 ∧ ((lg_cmp ((Int64.toUInt64 (σ.2 11 ((x1 * (nI 3)) + (x2 / (nI 64))).toNatClampNeg) >>> ((Int32.toInt64 (x2 - x2 / (nI 64) * (nI 64))).toUInt64 &&& Int64.toUInt64 63)).toInt64 &&& (1 : Int64)) (0 : Int64)) = 0 →
      ((nI 0) = 0 ∨ (nI 0) = 1) ∧ K (nI 0) σ) ∧
    (¬ (lg_cmp ((Int64.toUInt64 (σ.2 11 ((x1 * (nI 3)) + (x2 / (nI 64))).toNatClampNeg) >>> ((Int32.toInt64 (x2 - x2 / (nI 64) * (nI 64))).toUInt64 &&& Int64.toUInt64 63)).toInt64 &&& (1 : Int64)) (0 : Int64)) = 0 →
      ((nI 1) = 0 ∨ (nI 1) = 1) ∧ K (nI 1) σ)) : tp_W shC m_St_holds 0 [some (.ref 10), some (.int x1), some (.int x2)] [] σ (tp_Qi K) := tp_go ⟨ok_St_holds, rfl⟩ 25 [] h
set_option maxRecDepth 100000 in
theorem bk_La_spreadItem_0 {σ : tp_S} {K : tp_S → Prop} (x1 : Int32) (x2 : Int32) (h : tp_W shC m_Gr_columnAt 0 [some (.ref 1), some (.int x2)] [] σ (tp_Qi fun r1 σ1 => tp_W shC m_La_setOf 0 [some (.ref 15), some (.int x1), some (.int x2)] [] σ1 (tp_Qi fun r2 σ2 => tp_W shC m_Pl_leadAt 0 [some (.ref 8), some (.int x1), some (.int r1), none] [] σ2 (tp_Qi fun r3 σ3 => (r3 = (-1 : Int32) →
      (r1 < (nI 14) →
        K σ3) ∧
      (¬ r1 < (nI 14) →
        tp_W shC m_Op_ofRest 0 [some (.ref 5), some (.int x2)] [] σ3 (tp_Qi fun r4 σ4 => ((r4 &&& (nI 16384)) = 0 →
          tp_W shC m_La_joinRulesOf 0 [some (.ref 15), some (.int x1), some (.int (r1 - (nI 14))), some (.int ((r4 &&& (nI 16383)) ||| (nI 0))), none] [] σ4 (tp_Qv fun σ5 => K σ5)) ∧
        (¬ (r4 &&& (nI 16384)) = 0 →
          tp_W shC m_La_joinRulesOf 0 [some (.ref 15), some (.int x1), some (.int (r1 - (nI 14))), some (.int ((r4 &&& (nI 16383)) ||| r2)), none] [] σ4 (tp_Qv fun σ6 => K σ6))))) ∧
    (¬ r3 = (-1 : Int32) →
      tp_W shC m_La_join 0 [some (.ref 15), some (.int r3), some (.int (x2 + (nI 1))), some (.int r2), none, none, none] [] σ3 (tp_Qv fun σ7 => (r1 < (nI 14) →
        K σ7) ∧
      (¬ r1 < (nI 14) →
        tp_W shC m_Op_ofRest 0 [some (.ref 5), some (.int x2)] [] σ7 (tp_Qi fun r8 σ8 => ((r8 &&& (nI 16384)) = 0 →
          tp_W shC m_La_joinRulesOf 0 [some (.ref 15), some (.int x1), some (.int (r1 - (nI 14))), some (.int ((r8 &&& (nI 16383)) ||| (nI 0))), none] [] σ8 (tp_Qv fun σ9 => K σ9)) ∧
        (¬ (r8 &&& (nI 16384)) = 0 →
          tp_W shC m_La_joinRulesOf 0 [some (.ref 15), some (.int x1), some (.int (r1 - (nI 14))), some (.int ((r8 &&& (nI 16383)) ||| r2)), none] [] σ8 (tp_Qv fun σ10 => K σ10)))))))))) : tp_W shC m_La_spreadItem 0 [some (.ref 15), some (.int x1), some (.int x2), none, none, none, none, none] [] σ (tp_Qv K) := tp_go ⟨ok_La_spreadItem, rfl⟩ 56 [] h
set_option maxRecDepth 100000 in
theorem bk_La_setOf_0 {σ : tp_S} {K : Int32 → tp_S → Prop} (x1 : Int32) (x2 : Int32) (h : ¬ (nI 4) = 0 ∧ vp_in ((x1 * (nI 43)) + (x2 / (nI 4))) 4300 ∧ ¬ (nI 4) = 0 ∧ K ((Int64.toInt32 (Int64.toUInt64 (σ.2 16 ((x1 * (nI 43)) + (x2 / (nI 4))).toNatClampNeg) >>> ((Int32.toInt64 ((x2 - x2 / (nI 4) * (nI 4)) * (nI 16))).toUInt64 &&& Int64.toUInt64 63)).toInt64) &&& (nI 16383)) σ) : tp_W shC m_La_setOf 0 [some (.ref 15), some (.int x1), some (.int x2)] [] σ (tp_Qi K) := tp_go ⟨ok_La_setOf, rfl⟩ 22 [] h
set_option maxRecDepth 100000 in
theorem bk_La_joinRulesOf_0 {σ : tp_S} {K : tp_S → Prop} (x1 : Int32) (x2 : Int32) (x3 : Int32) (h : tp_W shC m_La_joinRulesOf 3 [some (.ref 15), some (.int x1), some (.int x2), some (.int x3), some (.int (nI 0))] [] σ (tp_Qv K)) : tp_W shC m_La_joinRulesOf 0 [some (.ref 15), some (.int x1), some (.int x2), some (.int x3), none] [] σ (tp_Qv K) := tp_go ⟨ok_La_joinRulesOf, rfl⟩ 25 [(3, [true, true, true, true, true])] h
set_option maxRecDepth 100000 in
theorem bk_La_joinRulesOf_3 {σ : tp_S} {K : tp_S → Prop} (x1 : Int32) (x2 : Int32) (x3 : Int32) (x4 : Int32) (h : tp_W shC m_Gr_rules 0 [some (.ref 1)] [] σ (tp_Qi fun r1 σ1 => (r1 ≤ x4 →
      K σ1) ∧
    (¬ r1 ≤ x4 →
      tp_W shC m_Gr_kindOf 0 [some (.ref 1), some (.int x4)] [] σ1 (tp_Qi fun r2 σ2 => (¬ r2 = x2 →
        tp_W shC m_La_joinRulesOf 3 [some (.ref 15), some (.int x1), some (.int x2), some (.int x3), some (.int (x4 + (nI 1)))] [] σ2 (tp_Qv K)) ∧
      (r2 = x2 →
        tp_W shC m_La_join 0 [some (.ref 15), some (.int x1), some (.int (x4 * (nI 7))), some (.int x3), none, none, none] [] σ2 (tp_Qv fun σ3 => tp_W shC m_La_joinRulesOf 3 [some (.ref 15), some (.int x1), some (.int x2), some (.int x3), some (.int (x4 + (nI 1)))] [] σ3 (tp_Qv K))))))) : tp_W shC m_La_joinRulesOf 3 [some (.ref 15), some (.int x1), some (.int x2), some (.int x3), some (.int x4)] [] σ (tp_Qv K) := tp_go ⟨ok_La_joinRulesOf, rfl⟩ 25 [(3, [true, true, true, true, true])] h
set_option maxRecDepth 100000 in
theorem bk_St_isState_0 {σ : tp_S} {K : Int32 → tp_S → Prop} (x1 : Int32) (h : (x1 < 0 →
      ((nI 0) = 0 ∨ (nI 0) = 1) ∧ K (nI 0) σ) ∧
    (¬ x1 < 0 →
      ((σ.1 10 6) ≤ x1 →
        ((nI 0) = 0 ∨ (nI 0) = 1) ∧ K (nI 0) σ) ∧
      (¬ (σ.1 10 6) ≤ x1 →
        ((nI 1) = 0 ∨ (nI 1) = 1) ∧ K (nI 1) σ))) : tp_W shC m_St_isState 0 [some (.ref 10), some (.int x1)] [] σ (tp_Qi K) := tp_go ⟨ok_St_isState, rfl⟩ 12 [] h
set_option maxRecDepth 100000 in
theorem bk_St_itemsOf_0 {σ : tp_S} {K : Int32 → tp_S → Prop} (x1 : Int32) (h : tp_W shC m_St_itemsOf 4 [some (.ref 10), some (.int x1), some (.int (nI 0)), some (.int (nI 0))] [] σ (tp_Qi K)) : tp_W shC m_St_itemsOf 0 [some (.ref 10), some (.int x1), none, none] [] σ (tp_Qi K) := tp_go ⟨ok_St_itemsOf, rfl⟩ 25 [(4, [true, true, true, true])] h
set_option maxRecDepth 100000 in
theorem bk_St_itemsOf_4 {σ : tp_S} {K : Int32 → tp_S → Prop} (x1 : Int32) (x2 : Int32) (x3 : Int32) (h : ((nI 3) ≤ x3 →
      K x2 σ) ∧
    (¬ (nI 3) ≤ x3 →
      vp_in ((x1 * (nI 3)) + x3) 300 ∧ tp_W shC m_JL_bitCount 0 [some (.long (σ.2 11 ((x1 * (nI 3)) + x3).toNatClampNeg)), none] [] σ (tp_Qi fun r1 σ1 => tp_W shC m_St_itemsOf 4 [some (.ref 10), some (.int x1), some (.int (x2 + r1)), some (.int (x3 + (nI 1)))] [] σ1 (tp_Qi K)))) : tp_W shC m_St_itemsOf 4 [some (.ref 10), some (.int x1), some (.int x2), some (.int x3)] [] σ (tp_Qi K) := tp_go ⟨ok_St_itemsOf, rfl⟩ 25 [(4, [true, true, true, true])] h
