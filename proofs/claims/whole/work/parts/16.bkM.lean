set_option maxRecDepth 100000 in
theorem bk_Mo_begin_0 {σ : tp_S} {K : Int32 → tp_S → Prop} (x1 : Int32) (h : (¬ (σ.1 0 5) = 0 →
      K (-1 : Int32) (tp_si σ 0 0 (nI 0))) ∧
    ((σ.1 0 5) = 0 →
      (x1 < 0 →
        K (-1 : Int32) (tp_si σ 0 0 (nI 0))) ∧
      (¬ x1 < 0 →
        ((nI 8) ≤ x1 →
          K (-1 : Int32) (tp_si σ 0 0 (nI 0))) ∧
        (¬ (nI 8) ≤ x1 →
          (¬ (σ.1 0 4) = (nI 24) →
            vp_in (σ.1 0 4) 25 ∧ vp_in (σ.1 0 4) 25 ∧ ((nI 1) = 0 ∨ (nI 1) = 1) ∧ K (((σ.1 0 4) + (nI 1)) - (nI 1)) (tp_si (tp_si (tp_si (tp_si (tp_si σ 0 0 (nI 0)) 1 (σ.1 0 4).toNatClampNeg x1) 3 (σ.1 0 4).toNatClampNeg (nI 0)) 0 5 (nI 1)) 0 4 ((σ.1 0 4) + (nI 1)))) ∧
          ((σ.1 0 4) = (nI 24) →
            K (-1 : Int32) (tp_si σ 0 0 (nI 0))))))) : tp_W shM m_Mo_begin 0 [some (.ref 0), some (.int x1)] [] σ (tp_Qi K) := tp_go ⟨ok_Mo_begin, rfl⟩ 45 [] h
set_option maxRecDepth 100000 in
theorem bk_Mo_put_0 {σ : tp_S} {K : Int32 → tp_S → Prop} (x1 : Int32) (h : (x1 < (nI 1) →
      (x1 < (nI 20) →
        tp_W shM m_Mo_put 34 [some (.ref 0), some (.int x1), some (.int (nI 0))] [] (tp_si σ 0 0 (nI 0)) (tp_Qi K)) ∧
      (¬ x1 < (nI 20) →
        ((nI 28) ≤ x1 →
          tp_W shM m_Mo_put 34 [some (.ref 0), some (.int x1), some (.int (nI 0))] [] (tp_si σ 0 0 (nI 0)) (tp_Qi K)) ∧
        (¬ (nI 28) ≤ x1 →
          tp_W shM m_Mo_put 34 [some (.ref 0), some (.int x1), some (.int (nI 1))] [] (tp_si σ 0 0 (nI 0)) (tp_Qi K)))) ∧
    (¬ x1 < (nI 1) →
      (x1 < (nI 14) →
        tp_W shM m_Mo_put 34 [some (.ref 0), some (.int x1), some (.int (nI 1))] [] (tp_si σ 0 0 (nI 0)) (tp_Qi K)) ∧
      (¬ x1 < (nI 14) →
        (x1 < (nI 20) →
          tp_W shM m_Mo_put 34 [some (.ref 0), some (.int x1), some (.int (nI 0))] [] (tp_si σ 0 0 (nI 0)) (tp_Qi K)) ∧
        (¬ x1 < (nI 20) →
          ((nI 28) ≤ x1 →
            tp_W shM m_Mo_put 34 [some (.ref 0), some (.int x1), some (.int (nI 0))] [] (tp_si σ 0 0 (nI 0)) (tp_Qi K)) ∧
          (¬ (nI 28) ≤ x1 →
            tp_W shM m_Mo_put 34 [some (.ref 0), some (.int x1), some (.int (nI 1))] [] (tp_si σ 0 0 (nI 0)) (tp_Qi K)))))) : tp_W shM m_Mo_put 0 [some (.ref 0), some (.int x1), none] [] σ (tp_Qi K) := tp_go ⟨ok_Mo_put, rfl⟩ 74 [(34, [true, true, true]), (63, [true, true, false])] h
set_option maxRecDepth 100000 in
theorem bk_Mo_put_34 {σ : tp_S} {K : Int32 → tp_S → Prop} (x1 : Int32) (x2 : Int32) (h : ((σ.1 0 5) = 0 →
      K (-1 : Int32) σ) ∧
    (¬ (σ.1 0 5) = 0 →
      (x2 = 0 →
        K (-1 : Int32) σ) ∧
      (¬ x2 = 0 →
        vp_in ((σ.1 0 4) - (nI 1)) 25 ∧ (¬ (σ.1 3 ((σ.1 0 4) - (nI 1)).toNatClampNeg) = (nI 6) →
          tp_W shM m_Mo_put 63 [some (.ref 0), some (.int x1), none] [] σ (tp_Qi K)) ∧
        ((σ.1 3 ((σ.1 0 4) - (nI 1)).toNatClampNeg) = (nI 6) →
          K (-1 : Int32) σ)))) : tp_W shM m_Mo_put 34 [some (.ref 0), some (.int x1), some (.int x2)] [] σ (tp_Qi K) := tp_go ⟨ok_Mo_put, rfl⟩ 74 [(34, [true, true, true]), (63, [true, true, false])] h
set_option maxRecDepth 100000 in
theorem bk_Mo_put_63 {σ : tp_S} {K : Int32 → tp_S → Prop} (x1 : Int32) (h : vp_in ((σ.1 0 4) - (nI 1)) 25 ∧ vp_in (((nI 6) * ((σ.1 0 4) - (nI 1))) + (σ.1 3 ((σ.1 0 4) - (nI 1)).toNatClampNeg)) 150 ∧ vp_in ((σ.1 0 4) - (nI 1)) 25 ∧ vp_in ((σ.1 0 4) - (nI 1)) 25 ∧ vp_in ((σ.1 0 4) - (nI 1)) 25 ∧ K ((tp_si (tp_si σ 2 (((nI 6) * ((σ.1 0 4) - (nI 1))) + (σ.1 3 ((σ.1 0 4) - (nI 1)).toNatClampNeg)).toNatClampNeg x1) 3 ((σ.1 0 4) - (nI 1)).toNatClampNeg ((σ.1 3 ((σ.1 0 4) - (nI 1)).toNatClampNeg) + (nI 1))).1 3 ((σ.1 0 4) - (nI 1)).toNatClampNeg) (tp_si (tp_si σ 2 (((nI 6) * ((σ.1 0 4) - (nI 1))) + (σ.1 3 ((σ.1 0 4) - (nI 1)).toNatClampNeg)).toNatClampNeg x1) 3 ((σ.1 0 4) - (nI 1)).toNatClampNeg ((σ.1 3 ((σ.1 0 4) - (nI 1)).toNatClampNeg) + (nI 1)))) : tp_W shM m_Mo_put 63 [some (.ref 0), some (.int x1), none] [] σ (tp_Qi K) := tp_go ⟨ok_Mo_put, rfl⟩ 74 [(34, [true, true, true]), (63, [true, true, false])] h
set_option maxRecDepth 100000 in
theorem bk_Mo_close_0 {σ : tp_S} {K : Int32 → tp_S → Prop}  (h : (¬ (σ.1 0 5) = 0 →
      ((nI 0) = 0 ∨ (nI 0) = 1) ∧ ((nI 0) = 0 ∨ (nI 0) = 1) ∧ K (nI 1) (tp_si (tp_si (tp_si σ 0 0 (nI 0)) 0 5 (nI 0)) 0 8 (nI 0))) ∧
    ((σ.1 0 5) = 0 →
      K (nI 0) (tp_si σ 0 0 (nI 0)))) : tp_W shM m_Mo_close 0 [some (.ref 0)] [] σ (tp_Qi K) := tp_go ⟨ok_Mo_close, rfl⟩ 18 [] h
set_option maxRecDepth 100000 in
theorem bk_Mo_clear_0 {σ : tp_S} {K : Int32 → tp_S → Prop}  (h : ((nI 0) = 0 ∨ (nI 0) = 1) ∧ ((nI 0) = 0 ∨ (nI 0) = 1) ∧ K (σ.1 0 4) (tp_si (tp_si (tp_si (tp_si σ 0 0 (nI 0)) 0 4 (nI 0)) 0 5 (nI 0)) 0 8 (nI 0))) : tp_W shM m_Mo_clear 0 [some (.ref 0), none] [] σ (tp_Qi K) := tp_go ⟨ok_Mo_clear, rfl⟩ 19 [] h
set_option maxRecDepth 100000 in
theorem bk_Mo_token_0 {σ : tp_S} {K : Int32 → tp_S → Prop} (x1 : Int32) (h : (x1 < (nI 1) →
      K (-1 : Int32) (tp_si σ 0 0 (nI 0))) ∧
    (¬ x1 < (nI 1) →
      ((nI 14) ≤ x1 →
        K (-1 : Int32) (tp_si σ 0 0 (nI 0))) ∧
      (¬ (nI 14) ≤ x1 →
        (¬ (σ.1 0 7) = (nI 100) →
          vp_in (σ.1 0 7) 101 ∧ K ((σ.1 0 7) + (nI 1)) (tp_si (tp_si (tp_si σ 0 0 (nI 0)) 4 (σ.1 0 7).toNatClampNeg x1) 0 7 ((σ.1 0 7) + (nI 1)))) ∧
        ((σ.1 0 7) = (nI 100) →
          K (-1 : Int32) (tp_si σ 0 0 (nI 0)))))) : tp_W shM m_Mo_token 0 [some (.ref 0), some (.int x1)] [] σ (tp_Qi K) := tp_go ⟨ok_Mo_token, rfl⟩ 32 [] h
set_option maxRecDepth 100000 in
theorem bk_Mo_drop_0 {σ : tp_S} {K : Int32 → tp_S → Prop}  (h : K (σ.1 0 7) (tp_si (tp_si σ 0 0 (nI 0)) 0 7 (nI 0))) : tp_W shM m_Mo_drop 0 [some (.ref 0), none] [] σ (tp_Qi K) := tp_go ⟨ok_Mo_drop, rfl⟩ 13 [] h
set_option maxRecDepth 100000 in
theorem bk_Mo_count_0 {σ : tp_S} {K : Int32 → tp_S → Prop} (x1 : Int32) (h : tp_W shM m_Mo_know 0 [some (.ref 0)] [] (tp_si σ 0 0 (nI 0)) (tp_Qi fun r1 σ1 => tp_W shM m_Mo_count 15 [some (.ref 0), some (.int x1), some (.int r1), some (.int (nI 0)), some (.int (nI 0))] [] σ1 (tp_Qi K))) : tp_W shM m_Mo_count 0 [some (.ref 0), some (.int x1), none, none, none] [] σ (tp_Qi K) := tp_go ⟨ok_Mo_count, rfl⟩ 82 [(15, [true, true, true, true, true])] h
set_option maxRecDepth 100000 in
theorem bk_Mo_count_15 {σ : tp_S} {K : Int32 → tp_S → Prop} (x1 : Int32) (x2 : Int32) (x3 : Int32) (x4 : Int32) (h : ((nI 8) ≤ x4 →
      (x1 < (nI 2) →
        (¬ x1 = 0 →
          (¬ x1 = (nI 1) →
            (¬ x1 = (nI 2) →
              (¬ x1 = (nI 3) →
                (¬ x1 = (nI 4) →
                  (¬ x1 = (nI 5) →
                    (¬ x1 = (nI 6) →
                      K (-1 : Int32) σ) ∧
                    (x1 = (nI 6) →
                      K x3 σ)) ∧
                  (x1 = (nI 5) →
                    K (σ.1 0 25) σ)) ∧
                (x1 = (nI 4) →
                  tp_W shM m_Mo_entries 0 [some (.ref 0), none, none] [] σ (tp_Qi fun r1 σ1 => K r1 σ1))) ∧
              (x1 = (nI 3) →
                K (σ.1 0 19) σ)) ∧
            (x1 = (nI 2) →
              K (σ.1 0 16) σ)) ∧
          (x1 = (nI 1) →
            K (σ.1 0 7) σ)) ∧
        (x1 = 0 →
          tp_W shM m_Mo_closed 0 [some (.ref 0)] [] σ (tp_Qi fun r2 σ2 => K r2 σ2))) ∧
      (¬ x1 < (nI 2) →
        ((nI 5) < x1 →
          (¬ x1 = 0 →
            (¬ x1 = (nI 1) →
              (¬ x1 = (nI 2) →
                (¬ x1 = (nI 3) →
                  (¬ x1 = (nI 4) →
                    (¬ x1 = (nI 5) →
                      (¬ x1 = (nI 6) →
                        K (-1 : Int32) σ) ∧
                      (x1 = (nI 6) →
                        K x3 σ)) ∧
                    (x1 = (nI 5) →
                      K (σ.1 0 25) σ)) ∧
                  (x1 = (nI 4) →
                    tp_W shM m_Mo_entries 0 [some (.ref 0), none, none] [] σ (tp_Qi fun r3 σ3 => K r3 σ3))) ∧
                (x1 = (nI 3) →
                  K (σ.1 0 19) σ)) ∧
              (x1 = (nI 2) →
                K (σ.1 0 16) σ)) ∧
            (x1 = (nI 1) →
              K (σ.1 0 7) σ)) ∧
          (x1 = 0 →
            tp_W shM m_Mo_closed 0 [some (.ref 0)] [] σ (tp_Qi fun r4 σ4 => K r4 σ4))) ∧
        (¬ (nI 5) < x1 →
          (¬ x2 = 0 →
            (¬ x1 = 0 →
              (¬ x1 = (nI 1) →
                (¬ x1 = (nI 2) →
                  (¬ x1 = (nI 3) →
                    (¬ x1 = (nI 4) →
                      (¬ x1 = (nI 5) →
                        (¬ x1 = (nI 6) →
                          K (-1 : Int32) σ) ∧
                        (x1 = (nI 6) →
                          K x3 σ)) ∧
                      (x1 = (nI 5) →
                        K (σ.1 0 25) σ)) ∧
                    (x1 = (nI 4) →
                      tp_W shM m_Mo_entries 0 [some (.ref 0), none, none] [] σ (tp_Qi fun r5 σ5 => K r5 σ5))) ∧
                  (x1 = (nI 3) →
                    K (σ.1 0 19) σ)) ∧
                (x1 = (nI 2) →
                  K (σ.1 0 16) σ)) ∧
              (x1 = (nI 1) →
                K (σ.1 0 7) σ)) ∧
            (x1 = 0 →
              tp_W shM m_Mo_closed 0 [some (.ref 0)] [] σ (tp_Qi fun r6 σ6 => K r6 σ6))) ∧
          (x2 = 0 →
            K (-2 : Int32) σ)))) ∧
    (¬ (nI 8) ≤ x4 →
      vp_in x4 8 ∧ ((σ.1 5 x4.toNatClampNeg) = 0 →
        tp_W shM m_Mo_count 15 [some (.ref 0), some (.int x1), some (.int x2), some (.int x3), some (.int (x4 + (nI 1)))] [] σ (tp_Qi K)) ∧
      (¬ (σ.1 5 x4.toNatClampNeg) = 0 →
        tp_W shM m_Mo_count 15 [some (.ref 0), some (.int x1), some (.int x2), some (.int (x3 ||| ((nI 1) <<< (x4 &&& 31)))), some (.int (x4 + (nI 1)))] [] σ (tp_Qi K)))) : tp_W shM m_Mo_count 15 [some (.ref 0), some (.int x1), some (.int x2), some (.int x3), some (.int x4)] [] σ (tp_Qi K) := tp_go ⟨ok_Mo_count, rfl⟩ 82 [(15, [true, true, true, true, true])] h
set_option maxRecDepth 100000 in
theorem bk_Mo_know_0 {σ : tp_S} {K : Int32 → tp_S → Prop}  (h : (¬ (σ.1 0 8) = 0 →
      (¬ (σ.1 0 9) = 0 →
        ((nI 0) = 0 ∨ (nI 0) = 1) ∧ K (nI 0) σ) ∧
      ((σ.1 0 9) = 0 →
        ((nI 1) = 0 ∨ (nI 1) = 1) ∧ K (nI 1) σ)) ∧
    ((σ.1 0 8) = 0 →
      ((nI 1) = 0 ∨ (nI 1) = 1) ∧ tp_W shM m_Mo_findFirsts 0 [some (.ref 0), none, none, none, none] [] (tp_si σ 0 8 (nI 1)) (tp_Qv fun σ1 => tp_W shM m_Mo_makeStates 0 [some (.ref 0), none, none, none] [] σ1 (tp_Qv fun σ2 => (¬ (σ2.1 0 9) = 0 →
        (¬ (σ2.1 0 9) = 0 →
          ((nI 0) = 0 ∨ (nI 0) = 1) ∧ K (nI 0) σ2) ∧
        ((σ2.1 0 9) = 0 →
          ((nI 1) = 0 ∨ (nI 1) = 1) ∧ K (nI 1) σ2)) ∧
      ((σ2.1 0 9) = 0 →
        tp_W shM m_Mo_findAhead 0 [some (.ref 0), none, none] [] σ2 (tp_Qv fun σ3 => tp_W shM m_Mo_findActions 0 [some (.ref 0), none, none, none, none, none, none] [] σ3 (tp_Qv fun σ4 => tp_W shM m_Mo_pack 0 [some (.ref 0), none, none] [] σ4 (tp_Qv fun σ5 => (¬ (σ5.1 0 9) = 0 →
          ((nI 0) = 0 ∨ (nI 0) = 1) ∧ K (nI 0) σ5) ∧
        ((σ5.1 0 9) = 0 →
          ((nI 1) = 0 ∨ (nI 1) = 1) ∧ K (nI 1) σ5))))))))) : tp_W shM m_Mo_know 0 [some (.ref 0)] [] σ (tp_Qi K) := tp_go ⟨ok_Mo_know, rfl⟩ 28 [] h
set_option maxRecDepth 100000 in
theorem bk_Mo_findFirsts_0 {σ : tp_S} {K : tp_S → Prop}  (h : tp_W shM m_Mo_findFirsts 2 [some (.ref 0), some (.int (nI 0)), none, none, none] [] σ (tp_Qv K)) : tp_W shM m_Mo_findFirsts 0 [some (.ref 0), none, none, none, none] [] σ (tp_Qv K) := tp_go ⟨ok_Mo_findFirsts, rfl⟩ 84 [(2, [true, true, false, false, false]), (30, [true, true, false, false, false]), (38, [true, true, true, false, false])] h
set_option maxRecDepth 100000 in
theorem bk_Mo_findFirsts_2 {σ : tp_S} {K : tp_S → Prop} (x1 : Int32) (h : ((nI 8) ≤ x1 →
      tp_W shM m_Mo_findFirsts 30 [some (.ref 0), some (.int (nI 1)), none, none, none] [] σ (tp_Qv K)) ∧
    (¬ (nI 8) ≤ x1 →
      vp_in x1 8 ∧ ((nI 0) = 0 ∨ (nI 0) = 1) ∧ vp_in x1 8 ∧ tp_W shM m_Mo_findFirsts 2 [some (.ref 0), some (.int (x1 + (nI 1))), none, none, none] [] (tp_si (tp_si σ 5 x1.toNatClampNeg (nI 0)) 6 x1.toNatClampNeg (nI 0)) (tp_Qv K))) : tp_W shM m_Mo_findFirsts 2 [some (.ref 0), some (.int x1), none, none, none] [] σ (tp_Qv K) := tp_go ⟨ok_Mo_findFirsts, rfl⟩ 84 [(2, [true, true, false, false, false]), (30, [true, true, false, false, false]), (38, [true, true, true, false, false])] h
set_option maxRecDepth 100000 in
theorem bk_Mo_findFirsts_30 {σ : tp_S} {K : tp_S → Prop} (x1 : Int32) (h : (x1 = 0 →
      K σ) ∧
    (¬ x1 = 0 →
      tp_W shM m_Mo_findFirsts 38 [some (.ref 0), some (.int (nI 0)), some (.int (nI 0)), none, none] [] σ (tp_Qv K))) : tp_W shM m_Mo_findFirsts 30 [some (.ref 0), some (.int x1), none, none, none] [] σ (tp_Qv K) := tp_go ⟨ok_Mo_findFirsts, rfl⟩ 84 [(2, [true, true, false, false, false]), (30, [true, true, false, false, false]), (38, [true, true, true, false, false])] h
set_option maxRecDepth 100000 in
theorem bk_Mo_findFirsts_38 {σ : tp_S} {K : tp_S → Prop} (x1 : Int32) (x2 : Int32) (h : tp_W shM m_Mo_closed 0 [some (.ref 0)] [] σ (tp_Qi fun r1 σ1 => (r1 ≤ x2 →
      tp_W shM m_Mo_findFirsts 30 [some (.ref 0), some (.int x1), none, none, none] [] σ1 (tp_Qv K)) ∧
    (¬ r1 ≤ x2 →
      vp_in x2 25 ∧ vp_in (σ1.1 1 x2.toNatClampNeg) 8 ∧ (¬ (σ1.1 5 (σ1.1 1 x2.toNatClampNeg).toNatClampNeg) = 0 →
        vp_in (σ1.1 1 x2.toNatClampNeg) 8 ∧ tp_W shM m_Mo_firstFrom 0 [some (.ref 0), some (.int x2), some (.int (nI 0)), none, none, none, none] [] σ1 (tp_Qi fun r2 σ2 => (¬ x1 = 0 →
          vp_in (σ1.1 1 x2.toNatClampNeg) 8 ∧ tp_W shM m_Mo_findFirsts 38 [some (.ref 0), some (.int (nI 1)), some (.int (x2 + (nI 1))), none, none] [] (tp_si σ2 6 (σ1.1 1 x2.toNatClampNeg).toNatClampNeg ((σ1.1 6 (σ1.1 1 x2.toNatClampNeg).toNatClampNeg) ||| r2)) (tp_Qv K)) ∧
        (x1 = 0 →
          vp_in (σ1.1 1 x2.toNatClampNeg) 8 ∧ (((σ1.1 6 (σ1.1 1 x2.toNatClampNeg).toNatClampNeg) ||| r2) = (σ2.1 6 (σ1.1 1 x2.toNatClampNeg).toNatClampNeg) →
            vp_in (σ1.1 1 x2.toNatClampNeg) 8 ∧ tp_W shM m_Mo_findFirsts 38 [some (.ref 0), some (.int (nI 0)), some (.int (x2 + (nI 1))), none, none] [] (tp_si σ2 6 (σ1.1 1 x2.toNatClampNeg).toNatClampNeg ((σ1.1 6 (σ1.1 1 x2.toNatClampNeg).toNatClampNeg) ||| r2)) (tp_Qv K)) ∧
          (¬ ((σ1.1 6 (σ1.1 1 x2.toNatClampNeg).toNatClampNeg) ||| r2) = (σ2.1 6 (σ1.1 1 x2.toNatClampNeg).toNatClampNeg) →
            vp_in (σ1.1 1 x2.toNatClampNeg) 8 ∧ tp_W shM m_Mo_findFirsts 38 [some (.ref 0), some (.int (nI 1)), some (.int (x2 + (nI 1))), none, none] [] (tp_si σ2 6 (σ1.1 1 x2.toNatClampNeg).toNatClampNeg ((σ1.1 6 (σ1.1 1 x2.toNatClampNeg).toNatClampNeg) ||| r2)) (tp_Qv K))))) ∧
      ((σ1.1 5 (σ1.1 1 x2.toNatClampNeg).toNatClampNeg) = 0 →
        tp_W shM m_Mo_isEmptyFrom 0 [some (.ref 0), some (.int x2), some (.int (nI 0)), none, none, none] [] σ1 (tp_Qi fun r3 σ3 => (r3 = 0 →
          vp_in (σ1.1 1 x2.toNatClampNeg) 8 ∧ tp_W shM m_Mo_firstFrom 0 [some (.ref 0), some (.int x2), some (.int (nI 0)), none, none, none, none] [] σ3 (tp_Qi fun r4 σ4 => (¬ x1 = 0 →
            vp_in (σ1.1 1 x2.toNatClampNeg) 8 ∧ tp_W shM m_Mo_findFirsts 38 [some (.ref 0), some (.int (nI 1)), some (.int (x2 + (nI 1))), none, none] [] (tp_si σ4 6 (σ1.1 1 x2.toNatClampNeg).toNatClampNeg ((σ3.1 6 (σ1.1 1 x2.toNatClampNeg).toNatClampNeg) ||| r4)) (tp_Qv K)) ∧
          (x1 = 0 →
            vp_in (σ1.1 1 x2.toNatClampNeg) 8 ∧ (((σ3.1 6 (σ1.1 1 x2.toNatClampNeg).toNatClampNeg) ||| r4) = (σ4.1 6 (σ1.1 1 x2.toNatClampNeg).toNatClampNeg) →
              vp_in (σ1.1 1 x2.toNatClampNeg) 8 ∧ tp_W shM m_Mo_findFirsts 38 [some (.ref 0), some (.int (nI 0)), some (.int (x2 + (nI 1))), none, none] [] (tp_si σ4 6 (σ1.1 1 x2.toNatClampNeg).toNatClampNeg ((σ3.1 6 (σ1.1 1 x2.toNatClampNeg).toNatClampNeg) ||| r4)) (tp_Qv K)) ∧
            (¬ ((σ3.1 6 (σ1.1 1 x2.toNatClampNeg).toNatClampNeg) ||| r4) = (σ4.1 6 (σ1.1 1 x2.toNatClampNeg).toNatClampNeg) →
              vp_in (σ1.1 1 x2.toNatClampNeg) 8 ∧ tp_W shM m_Mo_findFirsts 38 [some (.ref 0), some (.int (nI 1)), some (.int (x2 + (nI 1))), none, none] [] (tp_si σ4 6 (σ1.1 1 x2.toNatClampNeg).toNatClampNeg ((σ3.1 6 (σ1.1 1 x2.toNatClampNeg).toNatClampNeg) ||| r4)) (tp_Qv K))))) ∧
        (¬ r3 = 0 →
          vp_in (σ1.1 1 x2.toNatClampNeg) 8 ∧ ((nI 1) = 0 ∨ (nI 1) = 1) ∧ vp_in (σ1.1 1 x2.toNatClampNeg) 8 ∧ tp_W shM m_Mo_firstFrom 0 [some (.ref 0), some (.int x2), some (.int (nI 0)), none, none, none, none] [] (tp_si σ3 5 (σ1.1 1 x2.toNatClampNeg).toNatClampNeg (nI 1)) (tp_Qi fun r5 σ5 => (¬ (nI 1) = 0 →
            vp_in (σ1.1 1 x2.toNatClampNeg) 8 ∧ tp_W shM m_Mo_findFirsts 38 [some (.ref 0), some (.int (nI 1)), some (.int (x2 + (nI 1))), none, none] [] (tp_si σ5 6 (σ1.1 1 x2.toNatClampNeg).toNatClampNeg ((σ3.1 6 (σ1.1 1 x2.toNatClampNeg).toNatClampNeg) ||| r5)) (tp_Qv K)) ∧
          ((nI 1) = 0 →
            vp_in (σ1.1 1 x2.toNatClampNeg) 8 ∧ (((σ3.1 6 (σ1.1 1 x2.toNatClampNeg).toNatClampNeg) ||| r5) = (σ5.1 6 (σ1.1 1 x2.toNatClampNeg).toNatClampNeg) →
              vp_in (σ1.1 1 x2.toNatClampNeg) 8 ∧ tp_W shM m_Mo_findFirsts 38 [some (.ref 0), some (.int (nI 0)), some (.int (x2 + (nI 1))), none, none] [] (tp_si σ5 6 (σ1.1 1 x2.toNatClampNeg).toNatClampNeg ((σ3.1 6 (σ1.1 1 x2.toNatClampNeg).toNatClampNeg) ||| r5)) (tp_Qv K)) ∧
            (¬ ((σ3.1 6 (σ1.1 1 x2.toNatClampNeg).toNatClampNeg) ||| r5) = (σ5.1 6 (σ1.1 1 x2.toNatClampNeg).toNatClampNeg) →
              vp_in (σ1.1 1 x2.toNatClampNeg) 8 ∧ tp_W shM m_Mo_findFirsts 38 [some (.ref 0), some (.int (nI 1)), some (.int (x2 + (nI 1))), none, none] [] (tp_si σ5 6 (σ1.1 1 x2.toNatClampNeg).toNatClampNeg ((σ3.1 6 (σ1.1 1 x2.toNatClampNeg).toNatClampNeg) ||| r5)) (tp_Qv K)))))))))) : tp_W shM m_Mo_findFirsts 38 [some (.ref 0), some (.int x1), some (.int x2), none, none] [] σ (tp_Qv K) := tp_go ⟨ok_Mo_findFirsts, rfl⟩ 84 [(2, [true, true, false, false, false]), (30, [true, true, false, false, false]), (38, [true, true, true, false, false])] h
set_option maxRecDepth 100000 in
theorem bk_Mo_closed_0 {σ : tp_S} {K : Int32 → tp_S → Prop}  (h : ((σ.1 0 5) = 0 →
      K (σ.1 0 4) σ) ∧
    (¬ (σ.1 0 5) = 0 →
      K ((σ.1 0 4) - (nI 1)) σ)) : tp_W shM m_Mo_closed 0 [some (.ref 0)] [] σ (tp_Qi K) := tp_go ⟨ok_Mo_closed, rfl⟩ 13 [] h
set_option maxRecDepth 100000 in
theorem bk_Mo_isEmptyFrom_0 {σ : tp_S} {K : Int32 → tp_S → Prop} (x1 : Int32) (x2 : Int32) (h : tp_W shM m_Mo_isEmptyFrom 5 [some (.ref 0), some (.int x1), none, some (.int (nI 1)), some (.int x2), none] [] σ (tp_Qi K)) : tp_W shM m_Mo_isEmptyFrom 0 [some (.ref 0), some (.int x1), some (.int x2), none, none, none] [] σ (tp_Qi K) := tp_go ⟨ok_Mo_isEmptyFrom, rfl⟩ 41 [(5, [true, true, false, true, true, false])] h
set_option maxRecDepth 100000 in
theorem bk_Mo_isEmptyFrom_5 {σ : tp_S} {K : Int32 → tp_S → Prop} (x1 : Int32) (x3 : Int32) (x4 : Int32) (h : vp_in x1 25 ∧ ((σ.1 3 x1.toNatClampNeg) ≤ x4 →
      (x3 = 0 ∨ x3 = 1) ∧ K x3 σ) ∧
    (¬ (σ.1 3 x1.toNatClampNeg) ≤ x4 →
      vp_in (((nI 6) * x1) + x4) 150 ∧ (x3 = 0 →
        tp_W shM m_Mo_isEmptyFrom 5 [some (.ref 0), some (.int x1), none, some (.int (nI 0)), some (.int (x4 + (nI 1))), none] [] σ (tp_Qi K)) ∧
      (¬ x3 = 0 →
        tp_W shM m_Mo_isKind 0 [some (.int (σ.1 2 (((nI 6) * x1) + x4).toNatClampNeg))] [] σ (tp_Qi fun r1 σ1 => (r1 = 0 →
          tp_W shM m_Mo_isEmptyFrom 5 [some (.ref 0), some (.int x1), none, some (.int (nI 0)), some (.int (x4 + (nI 1))), none] [] σ1 (tp_Qi K)) ∧
        (¬ r1 = 0 →
          vp_in ((σ.1 2 (((nI 6) * x1) + x4).toNatClampNeg) - (nI 20)) 8 ∧ ((σ1.1 5 ((σ.1 2 (((nI 6) * x1) + x4).toNatClampNeg) - (nI 20)).toNatClampNeg) = 0 →
            tp_W shM m_Mo_isEmptyFrom 5 [some (.ref 0), some (.int x1), none, some (.int (nI 0)), some (.int (x4 + (nI 1))), none] [] σ1 (tp_Qi K)) ∧
          (¬ (σ1.1 5 ((σ.1 2 (((nI 6) * x1) + x4).toNatClampNeg) - (nI 20)).toNatClampNeg) = 0 →
            tp_W shM m_Mo_isEmptyFrom 5 [some (.ref 0), some (.int x1), none, some (.int (nI 1)), some (.int (x4 + (nI 1))), none] [] σ1 (tp_Qi K))))))) : tp_W shM m_Mo_isEmptyFrom 5 [some (.ref 0), some (.int x1), none, some (.int x3), some (.int x4), none] [] σ (tp_Qi K) := tp_go ⟨ok_Mo_isEmptyFrom, rfl⟩ 41 [(5, [true, true, false, true, true, false])] h
set_option maxRecDepth 100000 in
theorem bk_Mo_isKind_0 {σ : tp_S} {K : Int32 → tp_S → Prop} (x0 : Int32) (h : (x0 < (nI 20) →
      ((nI 0) = 0 ∨ (nI 0) = 1) ∧ K (nI 0) σ) ∧
    (¬ x0 < (nI 20) →
      ((nI 1) = 0 ∨ (nI 1) = 1) ∧ K (nI 1) σ)) : tp_W shM m_Mo_isKind 0 [some (.int x0)] [] σ (tp_Qi K) := tp_go ⟨ok_Mo_isKind, rfl⟩ 9 [] h
set_option maxRecDepth 100000 in
theorem bk_Mo_firstFrom_0 {σ : tp_S} {K : Int32 → tp_S → Prop} (x1 : Int32) (x2 : Int32) (h : tp_W shM m_Mo_firstFrom 8 [some (.ref 0), some (.int x1), none, some (.int (nI 0)), some (.int (nI 1)), some (.int x2), none] [] σ (tp_Qi K)) : tp_W shM m_Mo_firstFrom 0 [some (.ref 0), some (.int x1), some (.int x2), none, none, none, none] [] σ (tp_Qi K) := tp_go ⟨ok_Mo_firstFrom, rfl⟩ 59 [(8, [true, true, false, true, true, true, false])] h
set_option maxRecDepth 100000 in
theorem bk_Mo_firstFrom_8 {σ : tp_S} {K : Int32 → tp_S → Prop} (x1 : Int32) (x3 : Int32) (x4 : Int32) (x5 : Int32) (h : vp_in x1 25 ∧ ((σ.1 3 x1.toNatClampNeg) ≤ x5 →
      K x3 σ) ∧
    (¬ (σ.1 3 x1.toNatClampNeg) ≤ x5 →
      (x4 = 0 →
        K x3 σ) ∧
      (¬ x4 = 0 →
        vp_in (((nI 6) * x1) + x5) 150 ∧ tp_W shM m_Mo_isKind 0 [some (.int (σ.1 2 (((nI 6) * x1) + x5).toNatClampNeg))] [] σ (tp_Qi fun r1 σ1 => (r1 = 0 →
          tp_W shM m_Mo_isKind 0 [some (.int (σ.1 2 (((nI 6) * x1) + x5).toNatClampNeg))] [] σ1 (tp_Qi fun r2 σ2 => (r2 = 0 →
            tp_W shM m_Mo_firstFrom 8 [some (.ref 0), some (.int x1), none, some (.int (x3 ||| ((nI 1) <<< ((σ.1 2 (((nI 6) * x1) + x5).toNatClampNeg) &&& 31)))), some (.int (nI 0)), some (.int (x5 + (nI 1))), none] [] σ2 (tp_Qi K)) ∧
          (¬ r2 = 0 →
            vp_in ((σ.1 2 (((nI 6) * x1) + x5).toNatClampNeg) - (nI 20)) 8 ∧ ((σ2.1 5 ((σ.1 2 (((nI 6) * x1) + x5).toNatClampNeg) - (nI 20)).toNatClampNeg) = 0 →
              tp_W shM m_Mo_firstFrom 8 [some (.ref 0), some (.int x1), none, some (.int (x3 ||| ((nI 1) <<< ((σ.1 2 (((nI 6) * x1) + x5).toNatClampNeg) &&& 31)))), some (.int (nI 0)), some (.int (x5 + (nI 1))), none] [] σ2 (tp_Qi K)) ∧
            (¬ (σ2.1 5 ((σ.1 2 (((nI 6) * x1) + x5).toNatClampNeg) - (nI 20)).toNatClampNeg) = 0 →
              tp_W shM m_Mo_firstFrom 8 [some (.ref 0), some (.int x1), none, some (.int (x3 ||| ((nI 1) <<< ((σ.1 2 (((nI 6) * x1) + x5).toNatClampNeg) &&& 31)))), some (.int (nI 1)), some (.int (x5 + (nI 1))), none] [] σ2 (tp_Qi K))))) ∧
        (¬ r1 = 0 →
          vp_in ((σ.1 2 (((nI 6) * x1) + x5).toNatClampNeg) - (nI 20)) 8 ∧ tp_W shM m_Mo_isKind 0 [some (.int (σ.1 2 (((nI 6) * x1) + x5).toNatClampNeg))] [] σ1 (tp_Qi fun r3 σ3 => (r3 = 0 →
            tp_W shM m_Mo_firstFrom 8 [some (.ref 0), some (.int x1), none, some (.int (x3 ||| (σ1.1 6 ((σ.1 2 (((nI 6) * x1) + x5).toNatClampNeg) - (nI 20)).toNatClampNeg))), some (.int (nI 0)), some (.int (x5 + (nI 1))), none] [] σ3 (tp_Qi K)) ∧
          (¬ r3 = 0 →
            vp_in ((σ.1 2 (((nI 6) * x1) + x5).toNatClampNeg) - (nI 20)) 8 ∧ ((σ3.1 5 ((σ.1 2 (((nI 6) * x1) + x5).toNatClampNeg) - (nI 20)).toNatClampNeg) = 0 →
              tp_W shM m_Mo_firstFrom 8 [some (.ref 0), some (.int x1), none, some (.int (x3 ||| (σ1.1 6 ((σ.1 2 (((nI 6) * x1) + x5).toNatClampNeg) - (nI 20)).toNatClampNeg))), some (.int (nI 0)), some (.int (x5 + (nI 1))), none] [] σ3 (tp_Qi K)) ∧
            (¬ (σ3.1 5 ((σ.1 2 (((nI 6) * x1) + x5).toNatClampNeg) - (nI 20)).toNatClampNeg) = 0 →
              tp_W shM m_Mo_firstFrom 8 [some (.ref 0), some (.int x1), none, some (.int (x3 ||| (σ1.1 6 ((σ.1 2 (((nI 6) * x1) + x5).toNatClampNeg) - (nI 20)).toNatClampNeg))), some (.int (nI 1)), some (.int (x5 + (nI 1))), none] [] σ3 (tp_Qi K))))))))) : tp_W shM m_Mo_firstFrom 8 [some (.ref 0), some (.int x1), none, some (.int x3), some (.int x4), some (.int x5), none] [] σ (tp_Qi K) := tp_go ⟨ok_Mo_firstFrom, rfl⟩ 59 [(8, [true, true, false, true, true, true, false])] h
set_option maxRecDepth 100000 in
theorem bk_Mo_makeStates_0 {σ : tp_S} {K : tp_S → Prop}  (h : ((nI 0) = 0 ∨ (nI 0) = 1) ∧ tp_W shM m_Mo_makeStates 12 [some (.ref 0), some (.int (nI 0)), none, none] [] (tp_si (tp_si σ 0 16 (nI 0)) 0 9 (nI 0)) (tp_Qv K)) : tp_W shM m_Mo_makeStates 0 [some (.ref 0), none, none, none] [] σ (tp_Qv K) := tp_go ⟨ok_Mo_makeStates, rfl⟩ 54 [(12, [true, true, false, false]), (50, [true, false, true, false]), (67, [true, false, true, true])] h
set_option maxRecDepth 100000 in
theorem bk_Mo_makeStates_12 {σ : tp_S} {K : tp_S → Prop} (x1 : Int32) (h : ((nI 200) ≤ x1 →
      tp_W shM m_Mo_stateOfNext 0 [some (.ref 0), none, none, none] [] σ (tp_Qi fun r1 σ1 => tp_W shM m_Mo_makeStates 50 [some (.ref 0), none, some (.int (nI 0)), none] [] σ1 (tp_Qv K))) ∧
    (¬ (nI 200) ≤ x1 →
      (¬ x1 = (nI 192) →
        vp_in x1 200 ∧ ((nI 0) = 0 ∨ (nI 0) = 1) ∧ tp_W shM m_Mo_makeStates 12 [some (.ref 0), some (.int (x1 + (nI 1))), none, none] [] (tp_si σ 11 x1.toNatClampNeg (nI 0)) (tp_Qv K)) ∧
      (x1 = (nI 192) →
        vp_in x1 200 ∧ ((nI 1) = 0 ∨ (nI 1) = 1) ∧ tp_W shM m_Mo_makeStates 12 [some (.ref 0), some (.int (x1 + (nI 1))), none, none] [] (tp_si σ 11 x1.toNatClampNeg (nI 1)) (tp_Qv K)))) : tp_W shM m_Mo_makeStates 12 [some (.ref 0), some (.int x1), none, none] [] σ (tp_Qv K) := tp_go ⟨ok_Mo_makeStates, rfl⟩ 54 [(12, [true, true, false, false]), (50, [true, false, true, false]), (67, [true, false, true, true])] h
set_option maxRecDepth 100000 in
theorem bk_Mo_makeStates_50 {σ : tp_S} {K : tp_S → Prop} (x2 : Int32) (h : ((σ.1 0 16) ≤ x2 →
      K σ) ∧
    (¬ (σ.1 0 16) ≤ x2 →
      (¬ (σ.1 0 9) = 0 →
        K σ) ∧
      ((σ.1 0 9) = 0 →
        tp_W shM m_Mo_makeStates 67 [some (.ref 0), none, some (.int x2), some (.int (nI 0))] [] σ (tp_Qv K)))) : tp_W shM m_Mo_makeStates 50 [some (.ref 0), none, some (.int x2), none] [] σ (tp_Qv K) := tp_go ⟨ok_Mo_makeStates, rfl⟩ 54 [(12, [true, true, false, false]), (50, [true, false, true, false]), (67, [true, false, true, true])] h
set_option maxRecDepth 100000 in
theorem bk_Mo_makeStates_67 {σ : tp_S} {K : tp_S → Prop} (x2 : Int32) (x3 : Int32) (h : ((nI 28) ≤ x3 →
      tp_W shM m_Mo_makeStates 50 [some (.ref 0), none, some (.int (x2 + (nI 1))), none] [] σ (tp_Qv K)) ∧
    (¬ (nI 28) ≤ x3 →
      (¬ (σ.1 0 9) = 0 →
        tp_W shM m_Mo_makeStates 50 [some (.ref 0), none, some (.int (x2 + (nI 1))), none] [] σ (tp_Qv K)) ∧
      ((σ.1 0 9) = 0 →
        tp_W shM m_Mo_lead 0 [some (.ref 0), some (.int x2), some (.int x3), none, none] [] σ (tp_Qv fun σ1 => tp_W shM m_Mo_makeStates 67 [some (.ref 0), none, some (.int x2), some (.int (x3 + (nI 1)))] [] σ1 (tp_Qv K))))) : tp_W shM m_Mo_makeStates 67 [some (.ref 0), none, some (.int x2), some (.int x3)] [] σ (tp_Qv K) := tp_go ⟨ok_Mo_makeStates, rfl⟩ 54 [(12, [true, true, false, false]), (50, [true, false, true, false]), (67, [true, false, true, true])] h
set_option maxRecDepth 100000 in
theorem bk_Mo_stateOfNext_0 {σ : tp_S} {K : Int32 → tp_S → Prop}  (h : tp_W shM m_Mo_stateOfNext 2 [some (.ref 0), some (.int (nI 0)), none, none] [] σ (tp_Qi K)) : tp_W shM m_Mo_stateOfNext 0 [some (.ref 0), none, none, none] [] σ (tp_Qi K) := tp_go ⟨ok_Mo_stateOfNext, rfl⟩ 126 [(2, [true, true, false, false]), (14, [true, true, true, true]), (88, [true, true, false, false]), (161, [true, true, false, false])] h
set_option maxRecDepth 100000 in
theorem bk_Mo_stateOfNext_2 {σ : tp_S} {K : Int32 → tp_S → Prop} (x1 : Int32) (h : ((σ.1 0 16) ≤ x1 →
      (¬ (σ.1 0 16) = (nI 100) →
        tp_W shM m_Mo_stateOfNext 88 [some (.ref 0), some (.int (nI 0)), none, none] [] σ (tp_Qi K)) ∧
      ((σ.1 0 16) = (nI 100) →
        ((nI 1) = 0 ∨ (nI 1) = 1) ∧ K (-1 : Int32) (tp_si σ 0 9 (nI 1)))) ∧
    (¬ (σ.1 0 16) ≤ x1 →
      tp_W shM m_Mo_stateOfNext 14 [some (.ref 0), some (.int x1), some (.int (nI 1)), some (.int (nI 0))] [] σ (tp_Qi K))) : tp_W shM m_Mo_stateOfNext 2 [some (.ref 0), some (.int x1), none, none] [] σ (tp_Qi K) := tp_go ⟨ok_Mo_stateOfNext, rfl⟩ 126 [(2, [true, true, false, false]), (14, [true, true, true, true]), (88, [true, true, false, false]), (161, [true, true, false, false])] h
set_option maxRecDepth 100000 in
theorem bk_Mo_stateOfNext_88 {σ : tp_S} {K : Int32 → tp_S → Prop} (x1 : Int32) (h : ((nI 200) ≤ x1 →
      tp_W shM m_Mo_stateOfNext 161 [some (.ref 0), some (.int (nI 0)), none, none] [] σ (tp_Qi K)) ∧
    (¬ (nI 200) ≤ x1 →
      vp_in x1 200 ∧ vp_in (((nI 200) * (σ.1 0 16)) + x1) 20000 ∧ ((σ.1 11 x1.toNatClampNeg) = 0 ∨ (σ.1 11 x1.toNatClampNeg) = 1) ∧ vp_in x1 200 ∧ vp_in (((nI 200) * (σ.1 0 16)) + x1) 20000 ∧ ((σ.1 11 x1.toNatClampNeg) = 0 ∨ (σ.1 11 x1.toNatClampNeg) = 1) ∧ vp_in (((nI 200) * (σ.1 0 16)) + x1) 20000 ∧ tp_W shM m_Mo_stateOfNext 88 [some (.ref 0), some (.int (x1 + (nI 1))), none, none] [] (tp_si (tp_si (tp_si σ 8 (((nI 200) * (σ.1 0 16)) + x1).toNatClampNeg (σ.1 11 x1.toNatClampNeg)) 7 (((nI 200) * (σ.1 0 16)) + x1).toNatClampNeg (σ.1 11 x1.toNatClampNeg)) 9 (((nI 200) * (σ.1 0 16)) + x1).toNatClampNeg (nI 0)) (tp_Qi K))) : tp_W shM m_Mo_stateOfNext 88 [some (.ref 0), some (.int x1), none, none] [] σ (tp_Qi K) := tp_go ⟨ok_Mo_stateOfNext, rfl⟩ 126 [(2, [true, true, false, false]), (14, [true, true, true, true]), (88, [true, true, false, false]), (161, [true, true, false, false])] h
set_option maxRecDepth 100000 in
theorem bk_Mo_stateOfNext_14 {σ : tp_S} {K : Int32 → tp_S → Prop} (x1 : Int32) (x2 : Int32) (x3 : Int32) (h : ((nI 200) ≤ x3 →
      (x2 = 0 →
        tp_W shM m_Mo_stateOfNext 2 [some (.ref 0), some (.int (x1 + (nI 1))), none, none] [] σ (tp_Qi K)) ∧
      (¬ x2 = 0 →
        K x1 σ)) ∧
    (¬ (nI 200) ≤ x3 →
      (x2 = 0 →
        (x2 = 0 →
          tp_W shM m_Mo_stateOfNext 2 [some (.ref 0), some (.int (x1 + (nI 1))), none, none] [] σ (tp_Qi K)) ∧
        (¬ x2 = 0 →
          K x1 σ)) ∧
      (¬ x2 = 0 →
        vp_in (((nI 200) * x1) + x3) 20000 ∧ vp_in x3 200 ∧ (¬ (σ.1 8 (((nI 200) * x1) + x3).toNatClampNeg) = (σ.1 11 x3.toNatClampNeg) →
          tp_W shM m_Mo_stateOfNext 14 [some (.ref 0), some (.int x1), some (.int (nI 0)), some (.int (x3 + (nI 1)))] [] σ (tp_Qi K)) ∧
        ((σ.1 8 (((nI 200) * x1) + x3).toNatClampNeg) = (σ.1 11 x3.toNatClampNeg) →
          tp_W shM m_Mo_stateOfNext 14 [some (.ref 0), some (.int x1), some (.int (nI 1)), some (.int (x3 + (nI 1)))] [] σ (tp_Qi K))))) : tp_W shM m_Mo_stateOfNext 14 [some (.ref 0), some (.int x1), some (.int x2), some (.int x3)] [] σ (tp_Qi K) := tp_go ⟨ok_Mo_stateOfNext, rfl⟩ 126 [(2, [true, true, false, false]), (14, [true, true, true, true]), (88, [true, true, false, false]), (161, [true, true, false, false])] h
set_option maxRecDepth 100000 in
theorem bk_Mo_stateOfNext_161 {σ : tp_S} {K : Int32 → tp_S → Prop} (x1 : Int32) (h : ((nI 28) ≤ x1 →
      tp_W shM m_Mo_complete 0 [some (.ref 0), some (.int (σ.1 0 16)), none, none, none, none, none] [] σ (tp_Qv fun σ1 => K (((σ1.1 0 16) + (nI 1)) - (nI 1)) (tp_si σ1 0 16 ((σ1.1 0 16) + (nI 1))))) ∧
    (¬ (nI 28) ≤ x1 →
      vp_in (((nI 28) * (σ.1 0 16)) + x1) 2800 ∧ tp_W shM m_Mo_stateOfNext 161 [some (.ref 0), some (.int (x1 + (nI 1))), none, none] [] (tp_si σ 10 (((nI 28) * (σ.1 0 16)) + x1).toNatClampNeg (-1 : Int32)) (tp_Qi K))) : tp_W shM m_Mo_stateOfNext 161 [some (.ref 0), some (.int x1), none, none] [] σ (tp_Qi K) := tp_go ⟨ok_Mo_stateOfNext, rfl⟩ 126 [(2, [true, true, false, false]), (14, [true, true, true, true]), (88, [true, true, false, false]), (161, [true, true, false, false])] h
set_option maxRecDepth 100000 in
theorem bk_Mo_complete_0 {σ : tp_S} {K : tp_S → Prop} (x1 : Int32) (h : tp_W shM m_Mo_complete 2 [some (.ref 0), some (.int x1), some (.int (nI 1)), none, none, none, none] [] σ (tp_Qv K)) : tp_W shM m_Mo_complete 0 [some (.ref 0), some (.int x1), none, none, none, none, none] [] σ (tp_Qv K) := tp_go ⟨ok_Mo_complete, rfl⟩ 105 [(2, [true, true, true, false, false, false, false]), (10, [true, true, true, true, false, false, false]), (50, [true, true, true, true, true, false, false]), (53, [true, true, true, true, true, true, false]), (111, [true, true, true, true, true, true, true]), (126, [true, true, true, true, true, true, true]), (170, [true, true, true, true, true, true, false])] h
set_option maxRecDepth 100000 in
theorem bk_Mo_complete_2 {σ : tp_S} {K : tp_S → Prop} (x1 : Int32) (x2 : Int32) (h : (x2 = 0 →
      K σ) ∧
    (¬ x2 = 0 →
      tp_W shM m_Mo_complete 10 [some (.ref 0), some (.int x1), some (.int (nI 0)), some (.int (nI 0)), none, none, none] [] σ (tp_Qv K))) : tp_W shM m_Mo_complete 2 [some (.ref 0), some (.int x1), some (.int x2), none, none, none, none] [] σ (tp_Qv K) := tp_go ⟨ok_Mo_complete, rfl⟩ 105 [(2, [true, true, true, false, false, false, false]), (10, [true, true, true, true, false, false, false]), (50, [true, true, true, true, true, false, false]), (53, [true, true, true, true, true, true, false]), (111, [true, true, true, true, true, true, true]), (126, [true, true, true, true, true, true, true]), (170, [true, true, true, true, true, true, false])] h
set_option maxRecDepth 100000 in
theorem bk_Mo_complete_10 {σ : tp_S} {K : tp_S → Prop} (x1 : Int32) (x2 : Int32) (x3 : Int32) (h : ((nI 200) ≤ x3 →
      tp_W shM m_Mo_complete 2 [some (.ref 0), some (.int x1), some (.int x2), none, none, none, none] [] σ (tp_Qv K)) ∧
    (¬ (nI 200) ≤ x3 →
      vp_in (((nI 200) * x1) + x3) 20000 ∧ ((σ.1 7 (((nI 200) * x1) + x3).toNatClampNeg) = 0 →
        tp_W shM m_Mo_complete 50 [some (.ref 0), some (.int x1), some (.int x2), some (.int x3), some (.int (-1 : Int32)), none, none] [] σ (tp_Qv K)) ∧
      (¬ (σ.1 7 (((nI 200) * x1) + x3).toNatClampNeg) = 0 →
        ¬ (nI 8) = 0 ∧ ¬ (nI 8) = 0 ∧ tp_W shM m_Mo_symbolAt 0 [some (.ref 0), some (.int (x3 / (nI 8))), some (.int (x3 - x3 / (nI 8) * (nI 8)))] [] σ (tp_Qi fun r1 σ1 => tp_W shM m_Mo_complete 50 [some (.ref 0), some (.int x1), some (.int x2), some (.int x3), some (.int r1), none, none] [] σ1 (tp_Qv K))))) : tp_W shM m_Mo_complete 10 [some (.ref 0), some (.int x1), some (.int x2), some (.int x3), none, none, none] [] σ (tp_Qv K) := tp_go ⟨ok_Mo_complete, rfl⟩ 105 [(2, [true, true, true, false, false, false, false]), (10, [true, true, true, true, false, false, false]), (50, [true, true, true, true, true, false, false]), (53, [true, true, true, true, true, true, false]), (111, [true, true, true, true, true, true, true]), (126, [true, true, true, true, true, true, true]), (170, [true, true, true, true, true, true, false])] h
set_option maxRecDepth 100000 in
theorem bk_Mo_complete_50 {σ : tp_S} {K : tp_S → Prop} (x1 : Int32) (x2 : Int32) (x3 : Int32) (x4 : Int32) (h : tp_W shM m_Mo_complete 53 [some (.ref 0), some (.int x1), some (.int x2), some (.int x3), some (.int x4), some (.int (nI 0)), none] [] σ (tp_Qv K)) : tp_W shM m_Mo_complete 50 [some (.ref 0), some (.int x1), some (.int x2), some (.int x3), some (.int x4), none, none] [] σ (tp_Qv K) := tp_go ⟨ok_Mo_complete, rfl⟩ 105 [(2, [true, true, true, false, false, false, false]), (10, [true, true, true, true, false, false, false]), (50, [true, true, true, true, true, false, false]), (53, [true, true, true, true, true, true, false]), (111, [true, true, true, true, true, true, true]), (126, [true, true, true, true, true, true, true]), (170, [true, true, true, true, true, true, false])] h
set_option maxRecDepth 100000 in
theorem bk_Mo_complete_53 {σ : tp_S} {K : tp_S → Prop} (x1 : Int32) (x2 : Int32) (x3 : Int32) (x4 : Int32) (x5 : Int32) (h : tp_W shM m_Mo_closed 0 [some (.ref 0)] [] σ (tp_Qi fun r1 σ1 => (r1 ≤ x5 →
      tp_W shM m_Mo_complete 10 [some (.ref 0), some (.int x1), some (.int x2), some (.int (x3 + (nI 1))), none, none, none] [] σ1 (tp_Qv K)) ∧
    (¬ r1 ≤ x5 →
      tp_W shM m_Mo_isKind 0 [some (.int x4)] [] σ1 (tp_Qi fun r2 σ2 => (r2 = 0 →
        tp_W shM m_Mo_complete 10 [some (.ref 0), some (.int x1), some (.int x2), some (.int (x3 + (nI 1))), none, none, none] [] σ2 (tp_Qv K)) ∧
      (¬ r2 = 0 →
        vp_in x5 25 ∧ (¬ (σ2.1 1 x5.toNatClampNeg) = (x4 - (nI 20)) →
          tp_W shM m_Mo_complete 111 [some (.ref 0), some (.int x1), some (.int x2), some (.int x3), some (.int x4), some (.int x5), some (.int (nI 0))] [] σ2 (tp_Qv K)) ∧
        ((σ2.1 1 x5.toNatClampNeg) = (x4 - (nI 20)) →
          vp_in (((nI 200) * x1) + ((nI 8) * x5)) 20000 ∧ (¬ (σ2.1 7 (((nI 200) * x1) + ((nI 8) * x5)).toNatClampNeg) = 0 →
            tp_W shM m_Mo_complete 111 [some (.ref 0), some (.int x1), some (.int x2), some (.int x3), some (.int x4), some (.int x5), some (.int (nI 0))] [] σ2 (tp_Qv K)) ∧
          ((σ2.1 7 (((nI 200) * x1) + ((nI 8) * x5)).toNatClampNeg) = 0 →
            tp_W shM m_Mo_complete 111 [some (.ref 0), some (.int x1), some (.int x2), some (.int x3), some (.int x4), some (.int x5), some (.int (nI 1))] [] σ2 (tp_Qv K)))))))) : tp_W shM m_Mo_complete 53 [some (.ref 0), some (.int x1), some (.int x2), some (.int x3), some (.int x4), some (.int x5), none] [] σ (tp_Qv K) := tp_go ⟨ok_Mo_complete, rfl⟩ 105 [(2, [true, true, true, false, false, false, false]), (10, [true, true, true, true, false, false, false]), (50, [true, true, true, true, true, false, false]), (53, [true, true, true, true, true, true, false]), (111, [true, true, true, true, true, true, true]), (126, [true, true, true, true, true, true, true]), (170, [true, true, true, true, true, true, false])] h
set_option maxRecDepth 100000 in
theorem bk_Mo_complete_111 {σ : tp_S} {K : tp_S → Prop} (x1 : Int32) (x2 : Int32) (x3 : Int32) (x4 : Int32) (x5 : Int32) (x6 : Int32) (h : (¬ x2 = 0 →
      tp_W shM m_Mo_complete 126 [some (.ref 0), some (.int x1), some (.int (nI 1)), some (.int x3), some (.int x4), some (.int x5), some (.int x6)] [] σ (tp_Qv K)) ∧
    (x2 = 0 →
      (x6 = 0 →
        tp_W shM m_Mo_complete 126 [some (.ref 0), some (.int x1), some (.int (nI 0)), some (.int x3), some (.int x4), some (.int x5), some (.int x6)] [] σ (tp_Qv K)) ∧
      (¬ x6 = 0 →
        tp_W shM m_Mo_complete 126 [some (.ref 0), some (.int x1), some (.int (nI 1)), some (.int x3), some (.int x4), some (.int x5), some (.int x6)] [] σ (tp_Qv K)))) : tp_W shM m_Mo_complete 111 [some (.ref 0), some (.int x1), some (.int x2), some (.int x3), some (.int x4), some (.int x5), some (.int x6)] [] σ (tp_Qv K) := tp_go ⟨ok_Mo_complete, rfl⟩ 105 [(2, [true, true, true, false, false, false, false]), (10, [true, true, true, true, false, false, false]), (50, [true, true, true, true, true, false, false]), (53, [true, true, true, true, true, true, false]), (111, [true, true, true, true, true, true, true]), (126, [true, true, true, true, true, true, true]), (170, [true, true, true, true, true, true, false])] h
set_option maxRecDepth 100000 in
theorem bk_Mo_complete_126 {σ : tp_S} {K : tp_S → Prop} (x1 : Int32) (x2 : Int32) (x3 : Int32) (x4 : Int32) (x5 : Int32) (x6 : Int32) (h : vp_in (((nI 200) * x1) + ((nI 8) * x5)) 20000 ∧ (¬ (σ.1 7 (((nI 200) * x1) + ((nI 8) * x5)).toNatClampNeg) = 0 →
      tp_W shM m_Mo_complete 170 [some (.ref 0), some (.int x1), some (.int x2), some (.int x3), some (.int x4), some (.int x5), none] [.int (nI 1), .int (((nI 200) * x1) + ((nI 8) * x5)), .ref 7] σ (tp_Qv K)) ∧
    ((σ.1 7 (((nI 200) * x1) + ((nI 8) * x5)).toNatClampNeg) = 0 →
      (x6 = 0 →
        tp_W shM m_Mo_complete 170 [some (.ref 0), some (.int x1), some (.int x2), some (.int x3), some (.int x4), some (.int x5), none] [.int (nI 0), .int (((nI 200) * x1) + ((nI 8) * x5)), .ref 7] σ (tp_Qv K)) ∧
      (¬ x6 = 0 →
        tp_W shM m_Mo_complete 170 [some (.ref 0), some (.int x1), some (.int x2), some (.int x3), some (.int x4), some (.int x5), none] [.int (nI 1), .int (((nI 200) * x1) + ((nI 8) * x5)), .ref 7] σ (tp_Qv K)))) : tp_W shM m_Mo_complete 126 [some (.ref 0), some (.int x1), some (.int x2), some (.int x3), some (.int x4), some (.int x5), some (.int x6)] [] σ (tp_Qv K) := tp_go ⟨ok_Mo_complete, rfl⟩ 105 [(2, [true, true, true, false, false, false, false]), (10, [true, true, true, true, false, false, false]), (50, [true, true, true, true, true, false, false]), (53, [true, true, true, true, true, true, false]), (111, [true, true, true, true, true, true, true]), (126, [true, true, true, true, true, true, true]), (170, [true, true, true, true, true, true, false])] h
set_option maxRecDepth 100000 in
theorem bk_Mo_complete_170 {σ : tp_S} {K : tp_S → Prop} (x1 : Int32) (x2 : Int32) (x3 : Int32) (x4 : Int32) (x5 : Int32) (y1 : Int32) (y2 : Int32) (h : vp_in y1 20000 ∧ (y2 = 0 ∨ y2 = 1) ∧ tp_W shM m_Mo_complete 53 [some (.ref 0), some (.int x1), some (.int x2), some (.int x3), some (.int x4), some (.int (x5 + (nI 1))), none] [] (tp_si σ 7 y1.toNatClampNeg y2) (tp_Qv K)) : tp_W shM m_Mo_complete 170 [some (.ref 0), some (.int x1), some (.int x2), some (.int x3), some (.int x4), some (.int x5), none] [.int y2, .int y1, .ref 7] σ (tp_Qv K) := tp_go ⟨ok_Mo_complete, rfl⟩ 105 [(2, [true, true, true, false, false, false, false]), (10, [true, true, true, true, false, false, false]), (50, [true, true, true, true, true, false, false]), (53, [true, true, true, true, true, true, false]), (111, [true, true, true, true, true, true, true]), (126, [true, true, true, true, true, true, true]), (170, [true, true, true, true, true, true, false])] h
set_option maxRecDepth 100000 in
theorem bk_Mo_symbolAt_0 {σ : tp_S} {K : Int32 → tp_S → Prop} (x1 : Int32) (x2 : Int32) (h : vp_in x1 25 ∧ ((σ.1 3 x1.toNatClampNeg) ≤ x2 →
      K (-1 : Int32) σ) ∧
    (¬ (σ.1 3 x1.toNatClampNeg) ≤ x2 →
      vp_in (((nI 6) * x1) + x2) 150 ∧ K (σ.1 2 (((nI 6) * x1) + x2).toNatClampNeg) σ)) : tp_W shM m_Mo_symbolAt 0 [some (.ref 0), some (.int x1), some (.int x2)] [] σ (tp_Qi K) := tp_go ⟨ok_Mo_symbolAt, rfl⟩ 19 [] h
set_option maxRecDepth 100000 in
theorem bk_Mo_lead_0 {σ : tp_S} {K : tp_S → Prop} (x1 : Int32) (x2 : Int32) (h : tp_W shM m_Mo_lead 5 [some (.ref 0), some (.int x1), some (.int x2), some (.int (nI 0)), some (.int (nI 0))] [] σ (tp_Qv K)) : tp_W shM m_Mo_lead 0 [some (.ref 0), some (.int x1), some (.int x2), none, none] [] σ (tp_Qv K) := tp_go ⟨ok_Mo_lead, rfl⟩ 64 [(5, [true, true, true, true, true]), (30, [true, true, true, true, true])] h
set_option maxRecDepth 100000 in
theorem bk_Mo_lead_5 {σ : tp_S} {K : tp_S → Prop} (x1 : Int32) (x2 : Int32) (x3 : Int32) (x4 : Int32) (h : ((nI 200) ≤ x4 →
      tp_W shM m_Mo_lead 30 [some (.ref 0), some (.int x1), some (.int x2), some (.int x3), some (.int (nI 0))] [] σ (tp_Qv K)) ∧
    (¬ (nI 200) ≤ x4 →
      vp_in x4 200 ∧ ((nI 0) = 0 ∨ (nI 0) = 1) ∧ tp_W shM m_Mo_lead 5 [some (.ref 0), some (.int x1), some (.int x2), some (.int x3), some (.int (x4 + (nI 1)))] [] (tp_si σ 11 x4.toNatClampNeg (nI 0)) (tp_Qv K))) : tp_W shM m_Mo_lead 5 [some (.ref 0), some (.int x1), some (.int x2), some (.int x3), some (.int x4)] [] σ (tp_Qv K) := tp_go ⟨ok_Mo_lead, rfl⟩ 64 [(5, [true, true, true, true, true]), (30, [true, true, true, true, true])] h
set_option maxRecDepth 100000 in
theorem bk_Mo_lead_30 {σ : tp_S} {K : tp_S → Prop} (x1 : Int32) (x2 : Int32) (x3 : Int32) (x4 : Int32) (h : ((nI 200) ≤ x4 →
      (x3 = 0 →
        K σ) ∧
      (¬ x3 = 0 →
        tp_W shM m_Mo_stateOfNext 0 [some (.ref 0), none, none, none] [] σ (tp_Qi fun r1 σ1 => vp_in (((nI 28) * x1) + x2) 2800 ∧ K (tp_si σ1 10 (((nI 28) * x1) + x2).toNatClampNeg r1)))) ∧
    (¬ (nI 200) ≤ x4 →
      vp_in (((nI 200) * x1) + x4) 20000 ∧ ((σ.1 7 (((nI 200) * x1) + x4).toNatClampNeg) = 0 →
        tp_W shM m_Mo_lead 30 [some (.ref 0), some (.int x1), some (.int x2), some (.int x3), some (.int (x4 + (nI 1)))] [] σ (tp_Qv K)) ∧
      (¬ (σ.1 7 (((nI 200) * x1) + x4).toNatClampNeg) = 0 →
        ¬ (nI 8) = 0 ∧ ¬ (nI 8) = 0 ∧ tp_W shM m_Mo_symbolAt 0 [some (.ref 0), some (.int (x4 / (nI 8))), some (.int (x4 - x4 / (nI 8) * (nI 8)))] [] σ (tp_Qi fun r2 σ2 => (¬ r2 = x2 →
          tp_W shM m_Mo_lead 30 [some (.ref 0), some (.int x1), some (.int x2), some (.int x3), some (.int (x4 + (nI 1)))] [] σ2 (tp_Qv K)) ∧
        (r2 = x2 →
          vp_in (x4 + (nI 1)) 200 ∧ ((nI 1) = 0 ∨ (nI 1) = 1) ∧ tp_W shM m_Mo_lead 30 [some (.ref 0), some (.int x1), some (.int x2), some (.int (nI 1)), some (.int (x4 + (nI 1)))] [] (tp_si σ2 11 (x4 + (nI 1)).toNatClampNeg (nI 1)) (tp_Qv K)))))) : tp_W shM m_Mo_lead 30 [some (.ref 0), some (.int x1), some (.int x2), some (.int x3), some (.int x4)] [] σ (tp_Qv K) := tp_go ⟨ok_Mo_lead, rfl⟩ 64 [(5, [true, true, true, true, true]), (30, [true, true, true, true, true])] h
set_option maxRecDepth 100000 in
theorem bk_Mo_findAhead_0 {σ : tp_S} {K : tp_S → Prop}  (h : vp_in (nI 192) 20000 ∧ ((nI 1) = 0 ∨ (nI 1) = 1) ∧ tp_W shM m_Mo_findAhead 14 [some (.ref 0), none, none] [] (tp_si (tp_si σ 9 (nI 192).toNatClampNeg (nI 1)) 0 31 (nI 1)) (tp_Qv K)) : tp_W shM m_Mo_findAhead 0 [some (.ref 0), none, none] [] σ (tp_Qv K) := tp_go ⟨ok_Mo_findAhead, rfl⟩ 46 [(14, [true, false, false]), (28, [true, true, false]), (38, [true, true, true])] h
set_option maxRecDepth 100000 in
theorem bk_Mo_findAhead_14 {σ : tp_S} {K : tp_S → Prop}  (h : ((σ.1 0 31) = 0 →
      K σ) ∧
    (¬ (σ.1 0 31) = 0 →
      ((nI 0) = 0 ∨ (nI 0) = 1) ∧ tp_W shM m_Mo_findAhead 28 [some (.ref 0), some (.int (nI 0)), none] [] (tp_si σ 0 31 (nI 0)) (tp_Qv K))) : tp_W shM m_Mo_findAhead 14 [some (.ref 0), none, none] [] σ (tp_Qv K) := tp_go ⟨ok_Mo_findAhead, rfl⟩ 46 [(14, [true, false, false]), (28, [true, true, false]), (38, [true, true, true])] h
set_option maxRecDepth 100000 in
theorem bk_Mo_findAhead_28 {σ : tp_S} {K : tp_S → Prop} (x1 : Int32) (h : ((σ.1 0 16) ≤ x1 →
      tp_W shM m_Mo_findAhead 14 [some (.ref 0), none, none] [] σ (tp_Qv K)) ∧
    (¬ (σ.1 0 16) ≤ x1 →
      tp_W shM m_Mo_findAhead 38 [some (.ref 0), some (.int x1), some (.int (nI 0))] [] σ (tp_Qv K))) : tp_W shM m_Mo_findAhead 28 [some (.ref 0), some (.int x1), none] [] σ (tp_Qv K) := tp_go ⟨ok_Mo_findAhead, rfl⟩ 46 [(14, [true, false, false]), (28, [true, true, false]), (38, [true, true, true])] h
set_option maxRecDepth 100000 in
theorem bk_Mo_findAhead_38 {σ : tp_S} {K : tp_S → Prop} (x1 : Int32) (x2 : Int32) (h : ((nI 200) ≤ x2 →
      tp_W shM m_Mo_findAhead 28 [some (.ref 0), some (.int (x1 + (nI 1))), none] [] σ (tp_Qv K)) ∧
    (¬ (nI 200) ≤ x2 →
      vp_in (((nI 200) * x1) + x2) 20000 ∧ ((σ.1 7 (((nI 200) * x1) + x2).toNatClampNeg) = 0 →
        tp_W shM m_Mo_findAhead 38 [some (.ref 0), some (.int x1), some (.int (x2 + (nI 1)))] [] σ (tp_Qv K)) ∧
      (¬ (σ.1 7 (((nI 200) * x1) + x2).toNatClampNeg) = 0 →
        tp_W shM m_Mo_spread 0 [some (.ref 0), some (.int x1), some (.int x2), none, none, none, none, none, none] [] σ (tp_Qv fun σ1 => tp_W shM m_Mo_findAhead 38 [some (.ref 0), some (.int x1), some (.int (x2 + (nI 1)))] [] σ1 (tp_Qv K))))) : tp_W shM m_Mo_findAhead 38 [some (.ref 0), some (.int x1), some (.int x2)] [] σ (tp_Qv K) := tp_go ⟨ok_Mo_findAhead, rfl⟩ 46 [(14, [true, false, false]), (28, [true, true, false]), (38, [true, true, true])] h
set_option maxRecDepth 100000 in
theorem bk_Mo_spread_0 {σ : tp_S} {K : tp_S → Prop} (x1 : Int32) (x2 : Int32) (h : ¬ (nI 8) = 0 ∧ ¬ (nI 8) = 0 ∧ tp_W shM m_Mo_symbolAt 0 [some (.ref 0), some (.int (x2 / (nI 8))), some (.int (x2 - x2 / (nI 8) * (nI 8)))] [] σ (tp_Qi fun r1 σ1 => vp_in (((nI 200) * x1) + x2) 20000 ∧ (0 ≤ r1 →
      vp_in (((nI 28) * x1) + r1) 2800 ∧ tp_W shM m_Mo_addAhead 0 [some (.ref 0), some (.int (σ1.1 10 (((nI 28) * x1) + r1).toNatClampNeg)), some (.int (x2 + (nI 1))), some (.int (σ1.1 9 (((nI 200) * x1) + x2).toNatClampNeg)), none] [] σ1 (tp_Qv fun σ2 => tp_W shM m_Mo_isKind 0 [some (.int r1)] [] σ2 (tp_Qi fun r3 σ3 => (r3 = 0 →
        K σ3) ∧
      (¬ r3 = 0 →
        tp_W shM m_Mo_firstFrom 0 [some (.ref 0), some (.int (x2 / (nI 8))), some (.int ((x2 - x2 / (nI 8) * (nI 8)) + (nI 1))), none, none, none, none] [] σ3 (tp_Qi fun r4 σ4 => tp_W shM m_Mo_isEmptyFrom 0 [some (.ref 0), some (.int (x2 / (nI 8))), some (.int ((x2 - x2 / (nI 8) * (nI 8)) + (nI 1))), none, none, none] [] σ4 (tp_Qi fun r5 σ5 => (r5 = 0 →
          tp_W shM m_Mo_spread 102 [some (.ref 0), some (.int x1), none, none, none, some (.int r1), none, some (.int (r4 ||| (nI 0))), some (.int (nI 0))] [] σ5 (tp_Qv K)) ∧
        (¬ r5 = 0 →
          tp_W shM m_Mo_spread 102 [some (.ref 0), some (.int x1), none, none, none, some (.int r1), none, some (.int (r4 ||| (σ1.1 9 (((nI 200) * x1) + x2).toNatClampNeg))), some (.int (nI 0))] [] σ5 (tp_Qv K)))))))) ∧
    (¬ 0 ≤ r1 →
      K σ1))) : tp_W shM m_Mo_spread 0 [some (.ref 0), some (.int x1), some (.int x2), none, none, none, none, none, none] [] σ (tp_Qv K) := tp_go ⟨ok_Mo_spread, rfl⟩ 86 [(102, [true, true, false, false, false, true, false, true, true])] h
set_option maxRecDepth 100000 in
theorem bk_Mo_spread_102 {σ : tp_S} {K : tp_S → Prop} (x1 : Int32) (x5 : Int32) (x7 : Int32) (x8 : Int32) (h : tp_W shM m_Mo_closed 0 [some (.ref 0)] [] σ (tp_Qi fun r1 σ1 => (r1 ≤ x8 →
      K σ1) ∧
    (¬ r1 ≤ x8 →
      vp_in x8 25 ∧ (¬ (σ1.1 1 x8.toNatClampNeg) = (x5 - (nI 20)) →
        tp_W shM m_Mo_spread 102 [some (.ref 0), some (.int x1), none, none, none, some (.int x5), none, some (.int x7), some (.int (x8 + (nI 1)))] [] σ1 (tp_Qv K)) ∧
      ((σ1.1 1 x8.toNatClampNeg) = (x5 - (nI 20)) →
        tp_W shM m_Mo_addAhead 0 [some (.ref 0), some (.int x1), some (.int ((nI 8) * x8)), some (.int x7), none] [] σ1 (tp_Qv fun σ2 => tp_W shM m_Mo_spread 102 [some (.ref 0), some (.int x1), none, none, none, some (.int x5), none, some (.int x7), some (.int (x8 + (nI 1)))] [] σ2 (tp_Qv K)))))) : tp_W shM m_Mo_spread 102 [some (.ref 0), some (.int x1), none, none, none, some (.int x5), none, some (.int x7), some (.int x8)] [] σ (tp_Qv K) := tp_go ⟨ok_Mo_spread, rfl⟩ 86 [(102, [true, true, false, false, false, true, false, true, true])] h
set_option maxRecDepth 100000 in
theorem bk_Mo_addAhead_0 {σ : tp_S} {K : tp_S → Prop} (x1 : Int32) (x2 : Int32) (x3 : Int32) (h : vp_in (((nI 200) * x1) + x2) 20000 ∧ (¬ (σ.1 0 31) = 0 →
      ((nI 1) = 0 ∨ (nI 1) = 1) ∧ vp_in (((nI 200) * x1) + x2) 20000 ∧ K (tp_si (tp_si σ 0 31 (nI 1)) 9 (((nI 200) * x1) + x2).toNatClampNeg ((σ.1 9 (((nI 200) * x1) + x2).toNatClampNeg) ||| x3))) ∧
    ((σ.1 0 31) = 0 →
      vp_in (((nI 200) * x1) + x2) 20000 ∧ (((σ.1 9 (((nI 200) * x1) + x2).toNatClampNeg) ||| x3) = (σ.1 9 (((nI 200) * x1) + x2).toNatClampNeg) →
        ((nI 0) = 0 ∨ (nI 0) = 1) ∧ vp_in (((nI 200) * x1) + x2) 20000 ∧ K (tp_si (tp_si σ 0 31 (nI 0)) 9 (((nI 200) * x1) + x2).toNatClampNeg ((σ.1 9 (((nI 200) * x1) + x2).toNatClampNeg) ||| x3))) ∧
      (¬ ((σ.1 9 (((nI 200) * x1) + x2).toNatClampNeg) ||| x3) = (σ.1 9 (((nI 200) * x1) + x2).toNatClampNeg) →
        ((nI 1) = 0 ∨ (nI 1) = 1) ∧ vp_in (((nI 200) * x1) + x2) 20000 ∧ K (tp_si (tp_si σ 0 31 (nI 1)) 9 (((nI 200) * x1) + x2).toNatClampNeg ((σ.1 9 (((nI 200) * x1) + x2).toNatClampNeg) ||| x3))))) : tp_W shM m_Mo_addAhead 0 [some (.ref 0), some (.int x1), some (.int x2), some (.int x3), none] [] σ (tp_Qv K) := tp_go ⟨ok_Mo_addAhead, rfl⟩ 41 [] h
set_option maxRecDepth 100000 in
theorem bk_Mo_findActions_0 {σ : tp_S} {K : tp_S → Prop}  (h : tp_W shM m_Mo_findActions 7 [some (.ref 0), some (.int (nI 0)), none, none, none, none, none] [] (tp_si σ 0 19 (nI 0)) (tp_Qv K)) : tp_W shM m_Mo_findActions 0 [some (.ref 0), none, none, none, none, none, none] [] σ (tp_Qv K) := tp_go ⟨ok_Mo_findActions, rfl⟩ 117 [(7, [true, true, false, false, false, false, false]), (17, [true, true, true, false, false, false, false]), (82, [true, true, true, false, true, true, false])] h
set_option maxRecDepth 100000 in
theorem bk_Mo_findActions_7 {σ : tp_S} {K : tp_S → Prop} (x1 : Int32) (h : ((σ.1 0 16) ≤ x1 →
      K σ) ∧
    (¬ (σ.1 0 16) ≤ x1 →
      tp_W shM m_Mo_findActions 17 [some (.ref 0), some (.int x1), some (.int (nI 0)), none, none, none, none] [] σ (tp_Qv K))) : tp_W shM m_Mo_findActions 7 [some (.ref 0), some (.int x1), none, none, none, none, none] [] σ (tp_Qv K) := tp_go ⟨ok_Mo_findActions, rfl⟩ 117 [(7, [true, true, false, false, false, false, false]), (17, [true, true, true, false, false, false, false]), (82, [true, true, true, false, true, true, false])] h
set_option maxRecDepth 100000 in
theorem bk_Mo_findActions_17 {σ : tp_S} {K : tp_S → Prop} (x1 : Int32) (x2 : Int32) (h : ((nI 14) ≤ x2 →
      tp_W shM m_Mo_findActions 7 [some (.ref 0), some (.int (x1 + (nI 1))), none, none, none, none, none] [] σ (tp_Qv K)) ∧
    (¬ (nI 14) ≤ x2 →
      vp_in (((nI 28) * x1) + x2) 2800 ∧ ((σ.1 10 (((nI 28) * x1) + x2).toNatClampNeg) < 0 →
        (¬ x2 = 0 →
          tp_W shM m_Mo_findActions 82 [some (.ref 0), some (.int x1), some (.int x2), none, some (.int (nI 0)), some (.int (nI 0)), none] [] σ (tp_Qv K)) ∧
        (x2 = 0 →
          vp_in ((((nI 200) * x1) + (nI 192)) + (nI 1)) 20000 ∧ ((σ.1 7 ((((nI 200) * x1) + (nI 192)) + (nI 1)).toNatClampNeg) = 0 →
            tp_W shM m_Mo_findActions 82 [some (.ref 0), some (.int x1), some (.int x2), none, some (.int (nI 0)), some (.int (nI 0)), none] [] σ (tp_Qv K)) ∧
          (¬ (σ.1 7 ((((nI 200) * x1) + (nI 192)) + (nI 1)).toNatClampNeg) = 0 →
            tp_W shM m_Mo_findActions 82 [some (.ref 0), some (.int x1), some (.int x2), none, some (.int (nI 2000)), some (.int (nI 0)), none] [] σ (tp_Qv K)))) ∧
      (¬ (σ.1 10 (((nI 28) * x1) + x2).toNatClampNeg) < 0 →
        tp_W shM m_Mo_findActions 82 [some (.ref 0), some (.int x1), some (.int x2), none, some (.int ((nI 1000) + (σ.1 10 (((nI 28) * x1) + x2).toNatClampNeg))), some (.int (nI 0)), none] [] σ (tp_Qv K)))) : tp_W shM m_Mo_findActions 17 [some (.ref 0), some (.int x1), some (.int x2), none, none, none, none] [] σ (tp_Qv K) := tp_go ⟨ok_Mo_findActions, rfl⟩ 117 [(7, [true, true, false, false, false, false, false]), (17, [true, true, true, false, false, false, false]), (82, [true, true, true, false, true, true, false])] h
set_option maxRecDepth 100000 in
theorem bk_Mo_findActions_82 {σ : tp_S} {K : tp_S → Prop} (x1 : Int32) (x2 : Int32) (x4 : Int32) (x5 : Int32) (h : tp_W shM m_Mo_closed 0 [some (.ref 0)] [] σ (tp_Qi fun r1 σ1 => (r1 ≤ x5 →
      vp_in (((nI 14) * x1) + x2) 1400 ∧ tp_W shM m_Mo_findActions 17 [some (.ref 0), some (.int x1), some (.int (x2 + (nI 1))), none, none, none, none] [] (tp_si σ1 12 (((nI 14) * x1) + x2).toNatClampNeg x4) (tp_Qv K)) ∧
    (¬ r1 ≤ x5 →
      vp_in x5 25 ∧ vp_in ((((nI 200) * x1) + ((nI 8) * x5)) + (σ1.1 3 x5.toNatClampNeg)) 20000 ∧ ((σ1.1 7 ((((nI 200) * x1) + ((nI 8) * x5)) + (σ1.1 3 x5.toNatClampNeg)).toNatClampNeg) = 0 →
        tp_W shM m_Mo_findActions 82 [some (.ref 0), some (.int x1), some (.int x2), none, some (.int x4), some (.int (x5 + (nI 1))), none] [] σ1 (tp_Qv K)) ∧
      (¬ (σ1.1 7 ((((nI 200) * x1) + ((nI 8) * x5)) + (σ1.1 3 x5.toNatClampNeg)).toNatClampNeg) = 0 →
        vp_in ((((nI 200) * x1) + ((nI 8) * x5)) + (σ1.1 3 x5.toNatClampNeg)) 20000 ∧ (¬ (((σ1.1 9 ((((nI 200) * x1) + ((nI 8) * x5)) + (σ1.1 3 x5.toNatClampNeg)).toNatClampNeg) >>> (x2 &&& 31)) &&& (nI 1)) = (nI 1) →
          tp_W shM m_Mo_findActions 82 [some (.ref 0), some (.int x1), some (.int x2), none, some (.int x4), some (.int (x5 + (nI 1))), none] [] σ1 (tp_Qv K)) ∧
        ((((σ1.1 9 ((((nI 200) * x1) + ((nI 8) * x5)) + (σ1.1 3 x5.toNatClampNeg)).toNatClampNeg) >>> (x2 &&& 31)) &&& (nI 1)) = (nI 1) →
          (x4 = 0 →
            (x4 = 0 →
              tp_W shM m_Mo_findActions 82 [some (.ref 0), some (.int x1), some (.int x2), none, some (.int ((nI 3000) + x5)), some (.int (x5 + (nI 1))), none] [] (tp_si σ1 0 19 (σ1.1 0 19)) (tp_Qv K)) ∧
            (¬ x4 = 0 →
              tp_W shM m_Mo_findActions 82 [some (.ref 0), some (.int x1), some (.int x2), none, some (.int x4), some (.int (x5 + (nI 1))), none] [] (tp_si σ1 0 19 (σ1.1 0 19)) (tp_Qv K))) ∧
          (¬ x4 = 0 →
            (x4 = 0 →
              tp_W shM m_Mo_findActions 82 [some (.ref 0), some (.int x1), some (.int x2), none, some (.int ((nI 3000) + x5)), some (.int (x5 + (nI 1))), none] [] (tp_si σ1 0 19 ((σ1.1 0 19) + (nI 1))) (tp_Qv K)) ∧
            (¬ x4 = 0 →
              tp_W shM m_Mo_findActions 82 [some (.ref 0), some (.int x1), some (.int x2), none, some (.int x4), some (.int (x5 + (nI 1))), none] [] (tp_si σ1 0 19 ((σ1.1 0 19) + (nI 1))) (tp_Qv K)))))))) : tp_W shM m_Mo_findActions 82 [some (.ref 0), some (.int x1), some (.int x2), none, some (.int x4), some (.int x5), none] [] σ (tp_Qv K) := tp_go ⟨ok_Mo_findActions, rfl⟩ 117 [(7, [true, true, false, false, false, false, false]), (17, [true, true, true, false, false, false, false]), (82, [true, true, true, false, true, true, false])] h
set_option maxRecDepth 100000 in
theorem bk_Mo_pack_0 {σ : tp_S} {K : tp_S → Prop}  (h : tp_W shM m_Mo_pack 7 [some (.ref 0), some (.int (nI 0)), none] [] (tp_si σ 0 25 (nI 0)) (tp_Qv K)) : tp_W shM m_Mo_pack 0 [some (.ref 0), none, none] [] σ (tp_Qv K) := tp_go ⟨ok_Mo_pack, rfl⟩ 58 [(7, [true, true, false]), (29, [true, true, false]), (57, [true, true, false]), (63, [true, true, true])] h
set_option maxRecDepth 100000 in
theorem bk_Mo_pack_7 {σ : tp_S} {K : tp_S → Prop} (x1 : Int32) (h : ((nI 6000) ≤ x1 →
      tp_W shM m_Mo_pack 29 [some (.ref 0), some (.int (nI 0)), none] [] σ (tp_Qv K)) ∧
    (¬ (nI 6000) ≤ x1 →
      vp_in x1 6000 ∧ tp_W shM m_Mo_pack 7 [some (.ref 0), some (.int (x1 + (nI 1))), none] [] (tp_si σ 16 x1.toNatClampNeg (-1 : Int32)) (tp_Qv K))) : tp_W shM m_Mo_pack 7 [some (.ref 0), some (.int x1), none] [] σ (tp_Qv K) := tp_go ⟨ok_Mo_pack, rfl⟩ 58 [(7, [true, true, false]), (29, [true, true, false]), (57, [true, true, false]), (63, [true, true, true])] h
set_option maxRecDepth 100000 in
theorem bk_Mo_pack_29 {σ : tp_S} {K : tp_S → Prop} (x1 : Int32) (h : ((nI 108) ≤ x1 →
      tp_W shM m_Mo_pack 57 [some (.ref 0), some (.int (nI 100)), none] [] σ (tp_Qv K)) ∧
    (¬ (nI 108) ≤ x1 →
      tp_W shM m_Mo_isRow 0 [some (.ref 0), some (.int x1)] [] σ (tp_Qi fun r1 σ1 => (r1 = 0 →
        tp_W shM m_Mo_pack 29 [some (.ref 0), some (.int (x1 + (nI 1))), none] [] σ1 (tp_Qv K)) ∧
      (¬ r1 = 0 →
        tp_W shM m_Mo_findDefault 0 [some (.ref 0), some (.int x1), none, none, none, none, none] [] σ1 (tp_Qv fun σ2 => tp_W shM m_Mo_pack 29 [some (.ref 0), some (.int (x1 + (nI 1))), none] [] σ2 (tp_Qv K)))))) : tp_W shM m_Mo_pack 29 [some (.ref 0), some (.int x1), none] [] σ (tp_Qv K) := tp_go ⟨ok_Mo_pack, rfl⟩ 58 [(7, [true, true, false]), (29, [true, true, false]), (57, [true, true, false]), (63, [true, true, true])] h
set_option maxRecDepth 100000 in
theorem bk_Mo_pack_57 {σ : tp_S} {K : tp_S → Prop} (x1 : Int32) (h : (x1 ≤ 0 →
      K σ) ∧
    (¬ x1 ≤ 0 →
      tp_W shM m_Mo_pack 63 [some (.ref 0), some (.int x1), some (.int (nI 0))] [] σ (tp_Qv K))) : tp_W shM m_Mo_pack 57 [some (.ref 0), some (.int x1), none] [] σ (tp_Qv K) := tp_go ⟨ok_Mo_pack, rfl⟩ 58 [(7, [true, true, false]), (29, [true, true, false]), (57, [true, true, false]), (63, [true, true, true])] h
set_option maxRecDepth 100000 in
theorem bk_Mo_pack_63 {σ : tp_S} {K : tp_S → Prop} (x1 : Int32) (x2 : Int32) (h : ((nI 108) ≤ x2 →
      tp_W shM m_Mo_pack 57 [some (.ref 0), some (.int (x1 + (-1 : Int32))), none] [] σ (tp_Qv K)) ∧
    (¬ (nI 108) ≤ x2 →
      tp_W shM m_Mo_isRow 0 [some (.ref 0), some (.int x2)] [] σ (tp_Qi fun r1 σ1 => (r1 = 0 →
        tp_W shM m_Mo_pack 63 [some (.ref 0), some (.int x1), some (.int (x2 + (nI 1)))] [] σ1 (tp_Qv K)) ∧
      (¬ r1 = 0 →
        vp_in x2 108 ∧ (¬ (σ1.1 14 x2.toNatClampNeg) = x1 →
          tp_W shM m_Mo_pack 63 [some (.ref 0), some (.int x1), some (.int (x2 + (nI 1)))] [] σ1 (tp_Qv K)) ∧
        ((σ1.1 14 x2.toNatClampNeg) = x1 →
          tp_W shM m_Mo_lay 0 [some (.ref 0), some (.int x2), none, none, none] [] σ1 (tp_Qv fun σ2 => tp_W shM m_Mo_pack 63 [some (.ref 0), some (.int x1), some (.int (x2 + (nI 1)))] [] σ2 (tp_Qv K))))))) : tp_W shM m_Mo_pack 63 [some (.ref 0), some (.int x1), some (.int x2)] [] σ (tp_Qv K) := tp_go ⟨ok_Mo_pack, rfl⟩ 58 [(7, [true, true, false]), (29, [true, true, false]), (57, [true, true, false]), (63, [true, true, true])] h
set_option maxRecDepth 100000 in
theorem bk_Mo_isRow_0 {σ : tp_S} {K : Int32 → tp_S → Prop} (x1 : Int32) (h : (x1 < 0 →
      (x1 < (nI 100) →
        ((nI 0) = 0 ∨ (nI 0) = 1) ∧ K (nI 0) σ) ∧
      (¬ x1 < (nI 100) →
        ((nI 108) ≤ x1 →
          ((nI 0) = 0 ∨ (nI 0) = 1) ∧ K (nI 0) σ) ∧
        (¬ (nI 108) ≤ x1 →
          ((nI 1) = 0 ∨ (nI 1) = 1) ∧ K (nI 1) σ))) ∧
    (¬ x1 < 0 →
      (x1 < (σ.1 0 16) →
        ((nI 1) = 0 ∨ (nI 1) = 1) ∧ K (nI 1) σ) ∧
      (¬ x1 < (σ.1 0 16) →
        (x1 < (nI 100) →
          ((nI 0) = 0 ∨ (nI 0) = 1) ∧ K (nI 0) σ) ∧
        (¬ x1 < (nI 100) →
          ((nI 108) ≤ x1 →
            ((nI 0) = 0 ∨ (nI 0) = 1) ∧ K (nI 0) σ) ∧
          (¬ (nI 108) ≤ x1 →
            ((nI 1) = 0 ∨ (nI 1) = 1) ∧ K (nI 1) σ))))) : tp_W shM m_Mo_isRow 0 [some (.ref 0), some (.int x1)] [] σ (tp_Qi K) := tp_go ⟨ok_Mo_isRow, rfl⟩ 18 [] h
set_option maxRecDepth 100000 in
theorem bk_Mo_findDefault_0 {σ : tp_S} {K : tp_S → Prop} (x1 : Int32) (h : vp_in x1 108 ∧ tp_W shM m_Mo_findDefault 11 [some (.ref 0), some (.int x1), some (.int (nI 0)), some (.int (nI 0)), none, none, none] [] (tp_si σ 13 x1.toNatClampNeg (-1 : Int32)) (tp_Qv K)) : tp_W shM m_Mo_findDefault 0 [some (.ref 0), some (.int x1), none, none, none, none, none] [] σ (tp_Qv K) := tp_go ⟨ok_Mo_findDefault, rfl⟩ 100 [(11, [true, true, true, true, false, false, false]), (23, [true, true, true, true, true, true, false]), (115, [true, true, false, true, false, false, false])] h
set_option maxRecDepth 100000 in
theorem bk_Mo_findDefault_11 {σ : tp_S} {K : tp_S → Prop} (x1 : Int32) (x2 : Int32) (x3 : Int32) (h : ((nI 100) ≤ x3 →
      vp_in x1 108 ∧ tp_W shM m_Mo_findDefault 115 [some (.ref 0), some (.int x1), none, some (.int (nI 0)), none, none, none] [] (tp_si σ 14 x1.toNatClampNeg (nI 0)) (tp_Qv K)) ∧
    (¬ (nI 100) ≤ x3 →
      tp_W shM m_Mo_findDefault 23 [some (.ref 0), some (.int x1), some (.int x2), some (.int x3), some (.int (nI 0)), some (.int (nI 0)), none] [] σ (tp_Qv K))) : tp_W shM m_Mo_findDefault 11 [some (.ref 0), some (.int x1), some (.int x2), some (.int x3), none, none, none] [] σ (tp_Qv K) := tp_go ⟨ok_Mo_findDefault, rfl⟩ 100 [(11, [true, true, true, true, false, false, false]), (23, [true, true, true, true, true, true, false]), (115, [true, true, false, true, false, false, false])] h
set_option maxRecDepth 100000 in
theorem bk_Mo_findDefault_115 {σ : tp_S} {K : tp_S → Prop} (x1 : Int32) (x3 : Int32) (h : tp_W shM m_Mo_widthOf 0 [some (.ref 0), some (.int x1)] [] σ (tp_Qi fun r1 σ1 => (r1 ≤ x3 →
      vp_in x1 108 ∧ K (tp_si σ1 15 x1.toNatClampNeg (-1 : Int32))) ∧
    (¬ r1 ≤ x3 →
      tp_W shM m_Mo_entry 0 [some (.ref 0), some (.int x1), some (.int x3), none] [] σ1 (tp_Qi fun r2 σ2 => (r2 = 0 →
        vp_in x1 108 ∧ vp_in x1 108 ∧ tp_W shM m_Mo_findDefault 115 [some (.ref 0), some (.int x1), none, some (.int (x3 + (nI 1))), none, none, none] [] (tp_si σ2 14 x1.toNatClampNeg (σ2.1 14 x1.toNatClampNeg)) (tp_Qv K)) ∧
      (¬ r2 = 0 →
        vp_in x1 108 ∧ vp_in x1 108 ∧ tp_W shM m_Mo_findDefault 115 [some (.ref 0), some (.int x1), none, some (.int (x3 + (nI 1))), none, none, none] [] (tp_si σ2 14 x1.toNatClampNeg ((σ2.1 14 x1.toNatClampNeg) + (nI 1))) (tp_Qv K)))))) : tp_W shM m_Mo_findDefault 115 [some (.ref 0), some (.int x1), none, some (.int x3), none, none, none] [] σ (tp_Qv K) := tp_go ⟨ok_Mo_findDefault, rfl⟩ 100 [(11, [true, true, true, true, false, false, false]), (23, [true, true, true, true, true, true, false]), (115, [true, true, false, true, false, false, false])] h
set_option maxRecDepth 100000 in
theorem bk_Mo_findDefault_23 {σ : tp_S} {K : tp_S → Prop} (x1 : Int32) (x2 : Int32) (x3 : Int32) (x4 : Int32) (x5 : Int32) (h : tp_W shM m_Mo_widthOf 0 [some (.ref 0), some (.int x1)] [] σ (tp_Qi fun r1 σ1 => (r1 ≤ x5 →
      (x4 ≤ x2 →
        tp_W shM m_Mo_findDefault 11 [some (.ref 0), some (.int x1), some (.int x2), some (.int (x3 + (nI 1))), none, none, none] [] σ1 (tp_Qv K)) ∧
      (¬ x4 ≤ x2 →
        vp_in x1 108 ∧ tp_W shM m_Mo_findDefault 11 [some (.ref 0), some (.int x1), some (.int x4), some (.int (x3 + (nI 1))), none, none, none] [] (tp_si σ1 13 x1.toNatClampNeg x3) (tp_Qv K))) ∧
    (¬ r1 ≤ x5 →
      ((nI 100) ≤ x1 →
        tp_W shM m_Mo_whole 0 [some (.ref 0), some (.int x1), some (.int x5), none] [] σ1 (tp_Qi fun r2 σ2 => (¬ r2 = x3 →
          tp_W shM m_Mo_findDefault 23 [some (.ref 0), some (.int x1), some (.int x2), some (.int x3), some (.int x4), some (.int (x5 + (nI 1))), none] [] σ2 (tp_Qv K)) ∧
        (r2 = x3 →
          (x3 ≤ 0 →
            tp_W shM m_Mo_findDefault 23 [some (.ref 0), some (.int x1), some (.int x2), some (.int x3), some (.int x4), some (.int (x5 + (nI 1))), none] [] σ2 (tp_Qv K)) ∧
          (¬ x3 ≤ 0 →
            tp_W shM m_Mo_findDefault 23 [some (.ref 0), some (.int x1), some (.int x2), some (.int x3), some (.int (x4 + (nI 1))), some (.int (x5 + (nI 1))), none] [] σ2 (tp_Qv K))))) ∧
      (¬ (nI 100) ≤ x1 →
        tp_W shM m_Mo_whole 0 [some (.ref 0), some (.int x1), some (.int x5), none] [] σ1 (tp_Qi fun r3 σ3 => (¬ r3 = ((nI 3000) + x3) →
          tp_W shM m_Mo_findDefault 23 [some (.ref 0), some (.int x1), some (.int x2), some (.int x3), some (.int x4), some (.int (x5 + (nI 1))), none] [] σ3 (tp_Qv K)) ∧
        (r3 = ((nI 3000) + x3) →
          (((nI 3000) + x3) ≤ 0 →
            tp_W shM m_Mo_findDefault 23 [some (.ref 0), some (.int x1), some (.int x2), some (.int x3), some (.int x4), some (.int (x5 + (nI 1))), none] [] σ3 (tp_Qv K)) ∧
          (¬ ((nI 3000) + x3) ≤ 0 →
            tp_W shM m_Mo_findDefault 23 [some (.ref 0), some (.int x1), some (.int x2), some (.int x3), some (.int (x4 + (nI 1))), some (.int (x5 + (nI 1))), none] [] σ3 (tp_Qv K)))))))) : tp_W shM m_Mo_findDefault 23 [some (.ref 0), some (.int x1), some (.int x2), some (.int x3), some (.int x4), some (.int x5), none] [] σ (tp_Qv K) := tp_go ⟨ok_Mo_findDefault, rfl⟩ 100 [(11, [true, true, true, true, false, false, false]), (23, [true, true, true, true, true, true, false]), (115, [true, true, false, true, false, false, false])] h
set_option maxRecDepth 100000 in
theorem bk_Mo_widthOf_0 {σ : tp_S} {K : Int32 → tp_S → Prop} (x1 : Int32) (h : ((nI 100) ≤ x1 →
      K (σ.1 0 16) σ) ∧
    (¬ (nI 100) ≤ x1 →
      K (nI 14) σ)) : tp_W shM m_Mo_widthOf 0 [some (.ref 0), some (.int x1)] [] σ (tp_Qi K) := tp_go ⟨ok_Mo_widthOf, rfl⟩ 10 [] h
set_option maxRecDepth 100000 in
theorem bk_Mo_whole_0 {σ : tp_S} {K : Int32 → tp_S → Prop} (x1 : Int32) (x2 : Int32) (h : ((nI 100) ≤ x1 →
      vp_in (((((nI 28) * x2) + (nI 20)) + x1) - (nI 100)) 2800 ∧ (0 ≤ (σ.1 10 (((((nI 28) * x2) + (nI 20)) + x1) - (nI 100)).toNatClampNeg) →
        K (σ.1 10 (((((nI 28) * x2) + (nI 20)) + x1) - (nI 100)).toNatClampNeg) σ) ∧
      (¬ 0 ≤ (σ.1 10 (((((nI 28) * x2) + (nI 20)) + x1) - (nI 100)).toNatClampNeg) →
        K (nI 0) σ)) ∧
    (¬ (nI 100) ≤ x1 →
      vp_in (((nI 14) * x1) + x2) 1400 ∧ K (σ.1 12 (((nI 14) * x1) + x2).toNatClampNeg) σ)) : tp_W shM m_Mo_whole 0 [some (.ref 0), some (.int x1), some (.int x2), none] [] σ (tp_Qi K) := tp_go ⟨ok_Mo_whole, rfl⟩ 33 [] h
set_option maxRecDepth 100000 in
theorem bk_Mo_entry_0 {σ : tp_S} {K : Int32 → tp_S → Prop} (x1 : Int32) (x2 : Int32) (h : tp_W shM m_Mo_whole 0 [some (.ref 0), some (.int x1), some (.int x2), none] [] σ (tp_Qi fun r1 σ1 => tp_W shM m_Mo_defaultValue 0 [some (.ref 0), some (.int x1)] [] σ1 (tp_Qi fun r2 σ2 => (¬ r1 = r2 →
      K r1 σ2) ∧
    (r1 = r2 →
      K (nI 0) σ2)))) : tp_W shM m_Mo_entry 0 [some (.ref 0), some (.int x1), some (.int x2), none] [] σ (tp_Qi K) := tp_go ⟨ok_Mo_entry, rfl⟩ 16 [] h
set_option maxRecDepth 100000 in
theorem bk_Mo_defaultValue_0 {σ : tp_S} {K : Int32 → tp_S → Prop} (x1 : Int32) (h : vp_in x1 108 ∧ (0 ≤ (σ.1 13 x1.toNatClampNeg) →
      ((nI 100) ≤ x1 →
        vp_in x1 108 ∧ K (σ.1 13 x1.toNatClampNeg) σ) ∧
      (¬ (nI 100) ≤ x1 →
        vp_in x1 108 ∧ K ((nI 3000) + (σ.1 13 x1.toNatClampNeg)) σ)) ∧
    (¬ 0 ≤ (σ.1 13 x1.toNatClampNeg) →
      K (nI 0) σ)) : tp_W shM m_Mo_defaultValue 0 [some (.ref 0), some (.int x1)] [] σ (tp_Qi K) := tp_go ⟨ok_Mo_defaultValue, rfl⟩ 24 [] h
set_option maxRecDepth 100000 in
theorem bk_Mo_lay_0 {σ : tp_S} {K : tp_S → Prop} (x1 : Int32) (h : tp_W shM m_Mo_lay 4 [some (.ref 0), some (.int x1), some (.int (nI 0)), some (.int (nI 0)), none] [] σ (tp_Qv K)) : tp_W shM m_Mo_lay 0 [some (.ref 0), some (.int x1), none, none, none] [] σ (tp_Qv K) := tp_go ⟨ok_Mo_lay, rfl⟩ 101 [(4, [true, true, true, true, false]), (13, [true, true, true, true, true]), (86, [true, true, true, false, true])] h
set_option maxRecDepth 100000 in
theorem bk_Mo_lay_4 {σ : tp_S} {K : tp_S → Prop} (x1 : Int32) (x2 : Int32) (x3 : Int32) (h : (¬ x3 = 0 →
      vp_in x1 108 ∧ tp_W shM m_Mo_lay 86 [some (.ref 0), some (.int x1), some (.int x2), none, some (.int (nI 0))] [] (tp_si σ 15 x1.toNatClampNeg x2) (tp_Qv K)) ∧
    (x3 = 0 →
      tp_W shM m_Mo_lay 13 [some (.ref 0), some (.int x1), some (.int x2), some (.int (nI 1)), some (.int (nI 0))] [] σ (tp_Qv K))) : tp_W shM m_Mo_lay 4 [some (.ref 0), some (.int x1), some (.int x2), some (.int x3), none] [] σ (tp_Qv K) := tp_go ⟨ok_Mo_lay, rfl⟩ 101 [(4, [true, true, true, true, false]), (13, [true, true, true, true, true]), (86, [true, true, true, false, true])] h
set_option maxRecDepth 100000 in
theorem bk_Mo_lay_86 {σ : tp_S} {K : tp_S → Prop} (x1 : Int32) (x2 : Int32) (x4 : Int32) (h : tp_W shM m_Mo_widthOf 0 [some (.ref 0), some (.int x1)] [] σ (tp_Qi fun r1 σ1 => (r1 ≤ x4 →
      K σ1) ∧
    (¬ r1 ≤ x4 →
      tp_W shM m_Mo_entry 0 [some (.ref 0), some (.int x1), some (.int x4), none] [] σ1 (tp_Qi fun r2 σ2 => (r2 = 0 →
        tp_W shM m_Mo_lay 86 [some (.ref 0), some (.int x1), some (.int x2), none, some (.int (x4 + (nI 1)))] [] σ2 (tp_Qv K)) ∧
      (¬ r2 = 0 →
        vp_in (x2 + x4) 6000 ∧ tp_W shM m_Mo_entry 0 [some (.ref 0), some (.int x1), some (.int x4), none] [] (tp_si σ2 16 (x2 + x4).toNatClampNeg x1) (tp_Qi fun r3 σ3 => vp_in (x2 + x4) 6000 ∧ (((x2 + x4) + (nI 1)) ≤ (σ3.1 0 25) →
          tp_W shM m_Mo_lay 86 [some (.ref 0), some (.int x1), some (.int x2), none, some (.int (x4 + (nI 1)))] [] (tp_si (tp_si σ3 17 (x2 + x4).toNatClampNeg r3) 0 25 (σ3.1 0 25)) (tp_Qv K)) ∧
        (¬ ((x2 + x4) + (nI 1)) ≤ (σ3.1 0 25) →
          tp_W shM m_Mo_lay 86 [some (.ref 0), some (.int x1), some (.int x2), none, some (.int (x4 + (nI 1)))] [] (tp_si (tp_si σ3 17 (x2 + x4).toNatClampNeg r3) 0 25 ((x2 + x4) + (nI 1))) (tp_Qv K)))))))) : tp_W shM m_Mo_lay 86 [some (.ref 0), some (.int x1), some (.int x2), none, some (.int x4)] [] σ (tp_Qv K) := tp_go ⟨ok_Mo_lay, rfl⟩ 101 [(4, [true, true, true, true, false]), (13, [true, true, true, true, true]), (86, [true, true, true, false, true])] h
set_option maxRecDepth 100000 in
theorem bk_Mo_lay_13 {σ : tp_S} {K : tp_S → Prop} (x1 : Int32) (x2 : Int32) (x3 : Int32) (x4 : Int32) (h : tp_W shM m_Mo_widthOf 0 [some (.ref 0), some (.int x1)] [] σ (tp_Qi fun r1 σ1 => (r1 ≤ x4 →
      (x3 = 0 →
        tp_W shM m_Mo_lay 4 [some (.ref 0), some (.int x1), some (.int (x2 + (nI 1))), some (.int x3), none] [] σ1 (tp_Qv K)) ∧
      (¬ x3 = 0 →
        tp_W shM m_Mo_lay 4 [some (.ref 0), some (.int x1), some (.int x2), some (.int x3), none] [] σ1 (tp_Qv K))) ∧
    (¬ r1 ≤ x4 →
      (x3 = 0 →
        (x3 = 0 →
          tp_W shM m_Mo_lay 4 [some (.ref 0), some (.int x1), some (.int (x2 + (nI 1))), some (.int x3), none] [] σ1 (tp_Qv K)) ∧
        (¬ x3 = 0 →
          tp_W shM m_Mo_lay 4 [some (.ref 0), some (.int x1), some (.int x2), some (.int x3), none] [] σ1 (tp_Qv K))) ∧
      (¬ x3 = 0 →
        tp_W shM m_Mo_entry 0 [some (.ref 0), some (.int x1), some (.int x4), none] [] σ1 (tp_Qi fun r2 σ2 => (r2 = 0 →
          tp_W shM m_Mo_lay 13 [some (.ref 0), some (.int x1), some (.int x2), some (.int (nI 1)), some (.int (x4 + (nI 1)))] [] σ2 (tp_Qv K)) ∧
        (¬ r2 = 0 →
          vp_in (x2 + x4) 6000 ∧ (0 ≤ (σ2.1 16 (x2 + x4).toNatClampNeg) →
            tp_W shM m_Mo_lay 13 [some (.ref 0), some (.int x1), some (.int x2), some (.int (nI 0)), some (.int (x4 + (nI 1)))] [] σ2 (tp_Qv K)) ∧
          (¬ 0 ≤ (σ2.1 16 (x2 + x4).toNatClampNeg) →
            tp_W shM m_Mo_lay 13 [some (.ref 0), some (.int x1), some (.int x2), some (.int (nI 1)), some (.int (x4 + (nI 1)))] [] σ2 (tp_Qv K)))))))) : tp_W shM m_Mo_lay 13 [some (.ref 0), some (.int x1), some (.int x2), some (.int x3), some (.int x4)] [] σ (tp_Qv K) := tp_go ⟨ok_Mo_lay, rfl⟩ 101 [(4, [true, true, true, true, false]), (13, [true, true, true, true, true]), (86, [true, true, true, false, true])] h
set_option maxRecDepth 100000 in
theorem bk_Mo_entries_0 {σ : tp_S} {K : Int32 → tp_S → Prop}  (h : tp_W shM m_Mo_entries 4 [some (.ref 0), some (.int (nI 0)), some (.int (nI 0))] [] σ (tp_Qi K)) : tp_W shM m_Mo_entries 0 [some (.ref 0), none, none] [] σ (tp_Qi K) := tp_go ⟨ok_Mo_entries, rfl⟩ 26 [(4, [true, true, true])] h
set_option maxRecDepth 100000 in
theorem bk_Mo_entries_4 {σ : tp_S} {K : Int32 → tp_S → Prop} (x1 : Int32) (x2 : Int32) (h : ((nI 108) ≤ x2 →
      K x1 σ) ∧
    (¬ (nI 108) ≤ x2 →
      tp_W shM m_Mo_isRow 0 [some (.ref 0), some (.int x2)] [] σ (tp_Qi fun r1 σ1 => (r1 = 0 →
        tp_W shM m_Mo_entries 4 [some (.ref 0), some (.int x1), some (.int (x2 + (nI 1)))] [] σ1 (tp_Qi K)) ∧
      (¬ r1 = 0 →
        vp_in x2 108 ∧ tp_W shM m_Mo_entries 4 [some (.ref 0), some (.int (x1 + (σ1.1 14 x2.toNatClampNeg))), some (.int (x2 + (nI 1)))] [] σ1 (tp_Qi K))))) : tp_W shM m_Mo_entries 4 [some (.ref 0), some (.int x1), some (.int x2)] [] σ (tp_Qi K) := tp_go ⟨ok_Mo_entries, rfl⟩ 26 [(4, [true, true, true])] h
set_option maxRecDepth 100000 in
theorem bk_Mo_first_0 {σ : tp_S} {K : Int32 → tp_S → Prop} (x1 : Int32) (h : tp_W shM m_Mo_know 0 [some (.ref 0)] [] (tp_si σ 0 0 (nI 0)) (tp_Qi fun r1 σ1 => (x1 < 0 →
      K (-1 : Int32) σ1) ∧
    (¬ x1 < 0 →
      ((nI 8) ≤ x1 →
        K (-1 : Int32) σ1) ∧
      (¬ (nI 8) ≤ x1 →
        vp_in x1 8 ∧ K (σ1.1 6 x1.toNatClampNeg) σ1)))) : tp_W shM m_Mo_first 0 [some (.ref 0), some (.int x1), none] [] σ (tp_Qi K) := tp_go ⟨ok_Mo_first, rfl⟩ 20 [] h
set_option maxRecDepth 100000 in
theorem bk_Mo_state_0 {σ : tp_S} {K : Int32 → tp_S → Prop} (x1 : Int32) (x2 : Int32) (h : tp_W shM m_Mo_know 0 [some (.ref 0)] [] (tp_si σ 0 0 (nI 0)) (tp_Qi fun r1 σ1 => (¬ r1 = 0 →
      tp_W shM m_Mo_isState 0 [some (.ref 0), some (.int x1)] [] σ1 (tp_Qi fun r2 σ2 => (¬ r2 = 0 →
        tp_W shM m_Mo_state 30 [some (.ref 0), some (.int x1), some (.int x2), some (.int (nI 0)), some (.int (nI 0))] [] σ2 (tp_Qi K)) ∧
      (r2 = 0 →
        K (-1 : Int32) σ2))) ∧
    (r1 = 0 →
      K (-2 : Int32) σ1))) : tp_W shM m_Mo_state 0 [some (.ref 0), some (.int x1), some (.int x2), none, none] [] σ (tp_Qi K) := tp_go ⟨ok_Mo_state, rfl⟩ 63 [(30, [true, true, true, true, true])] h
set_option maxRecDepth 100000 in
theorem bk_Mo_state_30 {σ : tp_S} {K : Int32 → tp_S → Prop} (x1 : Int32) (x2 : Int32) (x3 : Int32) (x4 : Int32) (h : ((nI 200) ≤ x4 →
      (¬ x2 = 0 →
        (x2 < (nI 100) →
          K (-1 : Int32) σ) ∧
        (¬ x2 < (nI 100) →
          ((nI 128) ≤ x2 →
            K (-1 : Int32) σ) ∧
          (¬ (nI 128) ≤ x2 →
            vp_in ((((nI 28) * x1) + x2) - (nI 100)) 2800 ∧ K (σ.1 10 ((((nI 28) * x1) + x2) - (nI 100)).toNatClampNeg) σ))) ∧
      (x2 = 0 →
        K x3 σ)) ∧
    (¬ (nI 200) ≤ x4 →
      vp_in (((nI 200) * x1) + x4) 20000 ∧ ((σ.1 7 (((nI 200) * x1) + x4).toNatClampNeg) = 0 →
        tp_W shM m_Mo_state 30 [some (.ref 0), some (.int x1), some (.int x2), some (.int x3), some (.int (x4 + (nI 1)))] [] σ (tp_Qi K)) ∧
      (¬ (σ.1 7 (((nI 200) * x1) + x4).toNatClampNeg) = 0 →
        tp_W shM m_Mo_state 30 [some (.ref 0), some (.int x1), some (.int x2), some (.int (x3 + (nI 1))), some (.int (x4 + (nI 1)))] [] σ (tp_Qi K)))) : tp_W shM m_Mo_state 30 [some (.ref 0), some (.int x1), some (.int x2), some (.int x3), some (.int x4)] [] σ (tp_Qi K) := tp_go ⟨ok_Mo_state, rfl⟩ 63 [(30, [true, true, true, true, true])] h
set_option maxRecDepth 100000 in
theorem bk_Mo_isState_0 {σ : tp_S} {K : Int32 → tp_S → Prop} (x1 : Int32) (h : (x1 < 0 →
      ((nI 0) = 0 ∨ (nI 0) = 1) ∧ K (nI 0) σ) ∧
    (¬ x1 < 0 →
      ((σ.1 0 16) ≤ x1 →
        ((nI 0) = 0 ∨ (nI 0) = 1) ∧ K (nI 0) σ) ∧
      (¬ (σ.1 0 16) ≤ x1 →
        ((nI 1) = 0 ∨ (nI 1) = 1) ∧ K (nI 1) σ))) : tp_W shM m_Mo_isState 0 [some (.ref 0), some (.int x1)] [] σ (tp_Qi K) := tp_go ⟨ok_Mo_isState, rfl⟩ 12 [] h
set_option maxRecDepth 100000 in
theorem bk_Mo_ahead_0 {σ : tp_S} {K : Int32 → tp_S → Prop} (x1 : Int32) (x2 : Int32) (x3 : Int32) (h : tp_W shM m_Mo_know 0 [some (.ref 0)] [] (tp_si σ 0 0 (nI 0)) (tp_Qi fun r1 σ1 => (¬ r1 = 0 →
      tp_W shM m_Mo_ahead 15 [some (.ref 0), some (.int x1), some (.int x2), some (.int x3), none] [] σ1 (tp_Qi K)) ∧
    (r1 = 0 →
      K (-2 : Int32) σ1))) : tp_W shM m_Mo_ahead 0 [some (.ref 0), some (.int x1), some (.int x2), some (.int x3), none] [] σ (tp_Qi K) := tp_go ⟨ok_Mo_ahead, rfl⟩ 62 [(15, [true, true, true, true, false]), (58, [true, true, true, true, true])] h
set_option maxRecDepth 100000 in
theorem bk_Mo_ahead_15 {σ : tp_S} {K : Int32 → tp_S → Prop} (x1 : Int32) (x2 : Int32) (x3 : Int32) (h : tp_W shM m_Mo_isState 0 [some (.ref 0), some (.int x1)] [] σ (tp_Qi fun r1 σ1 => (r1 = 0 →
      tp_W shM m_Mo_ahead 58 [some (.ref 0), some (.int x1), some (.int x2), some (.int x3), some (.int (nI 0))] [] σ1 (tp_Qi K)) ∧
    (¬ r1 = 0 →
      (x2 < 0 →
        (¬ x2 = (nI 24) →
          tp_W shM m_Mo_ahead 58 [some (.ref 0), some (.int x1), some (.int x2), some (.int x3), some (.int (nI 0))] [] σ1 (tp_Qi K)) ∧
        (x2 = (nI 24) →
          (x3 < 0 →
            tp_W shM m_Mo_ahead 58 [some (.ref 0), some (.int x1), some (.int x2), some (.int x3), some (.int (nI 0))] [] σ1 (tp_Qi K)) ∧
          (¬ x3 < 0 →
            ((nI 6) < x3 →
              tp_W shM m_Mo_ahead 58 [some (.ref 0), some (.int x1), some (.int x2), some (.int x3), some (.int (nI 0))] [] σ1 (tp_Qi K)) ∧
            (¬ (nI 6) < x3 →
              tp_W shM m_Mo_ahead 58 [some (.ref 0), some (.int x1), some (.int x2), some (.int x3), some (.int (nI 1))] [] σ1 (tp_Qi K))))) ∧
      (¬ x2 < 0 →
        tp_W shM m_Mo_closed 0 [some (.ref 0)] [] σ1 (tp_Qi fun r2 σ2 => (x2 < r2 →
          (x3 < 0 →
            tp_W shM m_Mo_ahead 58 [some (.ref 0), some (.int x1), some (.int x2), some (.int x3), some (.int (nI 0))] [] σ2 (tp_Qi K)) ∧
          (¬ x3 < 0 →
            ((nI 6) < x3 →
              tp_W shM m_Mo_ahead 58 [some (.ref 0), some (.int x1), some (.int x2), some (.int x3), some (.int (nI 0))] [] σ2 (tp_Qi K)) ∧
            (¬ (nI 6) < x3 →
              tp_W shM m_Mo_ahead 58 [some (.ref 0), some (.int x1), some (.int x2), some (.int x3), some (.int (nI 1))] [] σ2 (tp_Qi K)))) ∧
        (¬ x2 < r2 →
          (¬ x2 = (nI 24) →
            tp_W shM m_Mo_ahead 58 [some (.ref 0), some (.int x1), some (.int x2), some (.int x3), some (.int (nI 0))] [] σ2 (tp_Qi K)) ∧
          (x2 = (nI 24) →
            (x3 < 0 →
              tp_W shM m_Mo_ahead 58 [some (.ref 0), some (.int x1), some (.int x2), some (.int x3), some (.int (nI 0))] [] σ2 (tp_Qi K)) ∧
            (¬ x3 < 0 →
              ((nI 6) < x3 →
                tp_W shM m_Mo_ahead 58 [some (.ref 0), some (.int x1), some (.int x2), some (.int x3), some (.int (nI 0))] [] σ2 (tp_Qi K)) ∧
              (¬ (nI 6) < x3 →
                tp_W shM m_Mo_ahead 58 [some (.ref 0), some (.int x1), some (.int x2), some (.int x3), some (.int (nI 1))] [] σ2 (tp_Qi K)))))))))) : tp_W shM m_Mo_ahead 15 [some (.ref 0), some (.int x1), some (.int x2), some (.int x3), none] [] σ (tp_Qi K) := tp_go ⟨ok_Mo_ahead, rfl⟩ 62 [(15, [true, true, true, true, false]), (58, [true, true, true, true, true])] h
set_option maxRecDepth 100000 in
theorem bk_Mo_ahead_58 {σ : tp_S} {K : Int32 → tp_S → Prop} (x1 : Int32) (x2 : Int32) (x3 : Int32) (x4 : Int32) (h : (x4 = 0 →
      K (-1 : Int32) σ) ∧
    (¬ x4 = 0 →
      vp_in ((((nI 200) * x1) + ((nI 8) * x2)) + x3) 20000 ∧ ((σ.1 7 ((((nI 200) * x1) + ((nI 8) * x2)) + x3).toNatClampNeg) = 0 →
        K (-1 : Int32) σ) ∧
      (¬ (σ.1 7 ((((nI 200) * x1) + ((nI 8) * x2)) + x3).toNatClampNeg) = 0 →
        vp_in ((((nI 200) * x1) + ((nI 8) * x2)) + x3) 20000 ∧ K (σ.1 9 ((((nI 200) * x1) + ((nI 8) * x2)) + x3).toNatClampNeg) σ))) : tp_W shM m_Mo_ahead 58 [some (.ref 0), some (.int x1), some (.int x2), some (.int x3), some (.int x4)] [] σ (tp_Qi K) := tp_go ⟨ok_Mo_ahead, rfl⟩ 62 [(15, [true, true, true, true, false]), (58, [true, true, true, true, true])] h
set_option maxRecDepth 100000 in
theorem bk_Mo_comes_0 {σ : tp_S} {K : Int32 → tp_S → Prop} (x1 : Int32) (x2 : Int32) (h : tp_W shM m_Mo_know 0 [some (.ref 0)] [] (tp_si σ 0 0 (nI 0)) (tp_Qi fun r1 σ1 => (¬ r1 = 0 →
      tp_W shM m_Mo_isState 0 [some (.ref 0), some (.int x1)] [] σ1 (tp_Qi fun r2 σ2 => (r2 = 0 →
        K (-1 : Int32) σ2) ∧
      (¬ r2 = 0 →
        (x2 < 0 →
          K (-1 : Int32) σ2) ∧
        (¬ x2 < 0 →
          ((nI 14) ≤ x2 →
            K (-1 : Int32) σ2) ∧
          (¬ (nI 14) ≤ x2 →
            vp_in (((nI 14) * x1) + x2) 1400 ∧ K (σ2.1 12 (((nI 14) * x1) + x2).toNatClampNeg) σ2))))) ∧
    (r1 = 0 →
      K (-2 : Int32) σ1))) : tp_W shM m_Mo_comes 0 [some (.ref 0), some (.int x1), some (.int x2)] [] σ (tp_Qi K) := tp_go ⟨ok_Mo_comes, rfl⟩ 30 [] h
set_option maxRecDepth 100000 in
theorem bk_Mo_row_0 {σ : tp_S} {K : Int32 → tp_S → Prop} (x1 : Int32) (x2 : Int32) (h : tp_W shM m_Mo_know 0 [some (.ref 0)] [] (tp_si σ 0 0 (nI 0)) (tp_Qi fun r1 σ1 => (¬ r1 = 0 →
      tp_W shM m_Mo_isRow 0 [some (.ref 0), some (.int x1)] [] σ1 (tp_Qi fun r2 σ2 => (¬ r2 = 0 →
        (¬ x2 = 0 →
          (¬ x2 = (nI 1) →
            (¬ x2 = (nI 2) →
              K (-1 : Int32) σ2) ∧
            (x2 = (nI 2) →
              vp_in x1 108 ∧ K (σ2.1 15 x1.toNatClampNeg) σ2)) ∧
          (x2 = (nI 1) →
            vp_in x1 108 ∧ K (σ2.1 14 x1.toNatClampNeg) σ2)) ∧
        (x2 = 0 →
          vp_in x1 108 ∧ K (σ2.1 13 x1.toNatClampNeg) σ2)) ∧
      (r2 = 0 →
        K (-1 : Int32) σ2))) ∧
    (r1 = 0 →
      K (-2 : Int32) σ1))) : tp_W shM m_Mo_row 0 [some (.ref 0), some (.int x1), some (.int x2)] [] σ (tp_Qi K) := tp_go ⟨ok_Mo_row, rfl⟩ 41 [] h
set_option maxRecDepth 100000 in
theorem bk_Mo_place_0 {σ : tp_S} {K : Int32 → tp_S → Prop} (x1 : Int32) (x2 : Int32) (h : tp_W shM m_Mo_know 0 [some (.ref 0)] [] (tp_si σ 0 0 (nI 0)) (tp_Qi fun r1 σ1 => (¬ r1 = 0 →
      (x1 < 0 →
        K (-1 : Int32) σ1) ∧
      (¬ x1 < 0 →
        ((σ1.1 0 25) ≤ x1 →
          K (-1 : Int32) σ1) ∧
        (¬ (σ1.1 0 25) ≤ x1 →
          vp_in x1 6000 ∧ (0 ≤ (σ1.1 16 x1.toNatClampNeg) →
            (¬ x2 = 0 →
              (¬ x2 = (nI 1) →
                K (-1 : Int32) σ1) ∧
              (x2 = (nI 1) →
                vp_in x1 6000 ∧ K (σ1.1 17 x1.toNatClampNeg) σ1)) ∧
            (x2 = 0 →
              vp_in x1 6000 ∧ K (σ1.1 16 x1.toNatClampNeg) σ1)) ∧
          (¬ 0 ≤ (σ1.1 16 x1.toNatClampNeg) →
            K (-1 : Int32) σ1)))) ∧
    (r1 = 0 →
      K (-2 : Int32) σ1))) : tp_W shM m_Mo_place 0 [some (.ref 0), some (.int x1), some (.int x2)] [] σ (tp_Qi K) := tp_go ⟨ok_Mo_place, rfl⟩ 40 [] h
set_option maxRecDepth 100000 in
theorem bk_Mo_parse_0 {σ : tp_S} {K : Int32 → tp_S → Prop} (x1 : Int32) (h : (x1 < 0 →
      K (-1 : Int32) (tp_si σ 0 0 (nI 0))) ∧
    (¬ x1 < 0 →
      (x1 ≤ (nI 1) →
        tp_W shM m_Mo_parse 20 [some (.ref 0), some (.int x1), some (.int (nI 0)), some (.int (nI 0)), none, none] [] (tp_si σ 0 0 (nI 0)) (tp_Qi K)) ∧
      (¬ x1 ≤ (nI 1) →
        K (-1 : Int32) (tp_si σ 0 0 (nI 0))))) : tp_W shM m_Mo_parse 0 [some (.ref 0), some (.int x1), none, none, none, none] [] σ (tp_Qi K) := tp_go ⟨ok_Mo_parse, rfl⟩ 142 [(20, [true, true, true, true, false, false]), (103, [true, true, false, true, false, false])] h
set_option maxRecDepth 100000 in
theorem bk_Mo_parse_20 {σ : tp_S} {K : Int32 → tp_S → Prop} (x1 : Int32) (x2 : Int32) (x3 : Int32) (h : tp_W shM m_Mo_closed 0 [some (.ref 0)] [] σ (tp_Qi fun r1 σ1 => (r1 ≤ x3 →
      (¬ x2 = 0 →
        tp_W shM m_Mo_know 0 [some (.ref 0)] [] σ1 (tp_Qi fun r2 σ2 => (¬ r2 = 0 →
          vp_in (σ2.1 0 7) 101 ∧ vp_in (nI 0) 2102 ∧ tp_W shM m_Mo_parse 103 [some (.ref 0), some (.int x1), none, some (.int (nI 0)), none, none] [] (tp_si (tp_si (tp_si (tp_si (tp_si σ2 4 (σ2.1 0 7).toNatClampNeg (nI 0)) 0 28 (nI 0)) 0 27 (nI 0)) 19 (nI 0).toNatClampNeg (nI 0)) 0 30 (nI 1)) (tp_Qi K)) ∧
        (r2 = 0 →
          K (-2 : Int32) σ2))) ∧
      (x2 = 0 →
        K (-1 : Int32) σ1)) ∧
    (¬ r1 ≤ x3 →
      (¬ x2 = 0 →
        tp_W shM m_Mo_parse 20 [some (.ref 0), some (.int x1), some (.int (nI 1)), some (.int (x3 + (nI 1))), none, none] [] σ1 (tp_Qi K)) ∧
      (x2 = 0 →
        vp_in x3 25 ∧ (¬ (σ1.1 1 x3.toNatClampNeg) = 0 →
          tp_W shM m_Mo_parse 20 [some (.ref 0), some (.int x1), some (.int (nI 0)), some (.int (x3 + (nI 1))), none, none] [] σ1 (tp_Qi K)) ∧
        ((σ1.1 1 x3.toNatClampNeg) = 0 →
          tp_W shM m_Mo_parse 20 [some (.ref 0), some (.int x1), some (.int (nI 1)), some (.int (x3 + (nI 1))), none, none] [] σ1 (tp_Qi K)))))) : tp_W shM m_Mo_parse 20 [some (.ref 0), some (.int x1), some (.int x2), some (.int x3), none, none] [] σ (tp_Qi K) := tp_go ⟨ok_Mo_parse, rfl⟩ 142 [(20, [true, true, true, true, false, false]), (103, [true, true, false, true, false, false])] h
set_option maxRecDepth 100000 in
theorem bk_Mo_parse_103 {σ : tp_S} {K : Int32 → tp_S → Prop} (x1 : Int32) (x3 : Int32) (h : vp_in ((σ.1 0 30) - (nI 1)) 2102 ∧ (¬ x1 = 0 →
      vp_in (σ.1 0 28) 101 ∧ tp_W shM m_Mo_find 0 [some (.ref 0), some (.int (σ.1 19 ((σ.1 0 30) - (nI 1)).toNatClampNeg)), some (.int (σ.1 4 (σ.1 0 28).toNatClampNeg)), none] [] σ (tp_Qi fun r1 σ1 => (¬ r1 = 0 →
        (¬ r1 = (nI 2000) →
          (¬ x3 = (nI 2000) →
            (r1 < (nI 3000) →
              vp_in (σ1.1 0 30) 2102 ∧ tp_W shM m_Mo_parse 103 [some (.ref 0), some (.int x1), none, some (.int (x3 + (nI 1))), none, none] [] (tp_si (tp_si (tp_si σ1 19 (σ1.1 0 30).toNatClampNeg (r1 - (nI 1000))) 0 30 ((σ1.1 0 30) + (nI 1))) 0 28 ((σ1.1 0 28) + (nI 1))) (tp_Qi K)) ∧
            (¬ r1 < (nI 3000) →
              tp_W shM m_Mo_reduce 0 [some (.ref 0), some (.int x1), some (.int (r1 - (nI 3000))), none] [] σ1 (tp_Qv fun σ2 => tp_W shM m_Mo_parse 103 [some (.ref 0), some (.int x1), none, some (.int (x3 + (nI 1))), none, none] [] σ2 (tp_Qi K)))) ∧
          (x3 = (nI 2000) →
            K (nI 2) σ1)) ∧
        (r1 = (nI 2000) →
          K (nI 0) σ1)) ∧
      (r1 = 0 →
        K (nI 1) σ1))) ∧
    (x1 = 0 →
      vp_in (σ.1 0 28) 101 ∧ vp_in (((nI 14) * (σ.1 19 ((σ.1 0 30) - (nI 1)).toNatClampNeg)) + (σ.1 4 (σ.1 0 28).toNatClampNeg)) 1400 ∧ (¬ (σ.1 12 (((nI 14) * (σ.1 19 ((σ.1 0 30) - (nI 1)).toNatClampNeg)) + (σ.1 4 (σ.1 0 28).toNatClampNeg)).toNatClampNeg) = 0 →
        (¬ (σ.1 12 (((nI 14) * (σ.1 19 ((σ.1 0 30) - (nI 1)).toNatClampNeg)) + (σ.1 4 (σ.1 0 28).toNatClampNeg)).toNatClampNeg) = (nI 2000) →
          (¬ x3 = (nI 2000) →
            ((σ.1 12 (((nI 14) * (σ.1 19 ((σ.1 0 30) - (nI 1)).toNatClampNeg)) + (σ.1 4 (σ.1 0 28).toNatClampNeg)).toNatClampNeg) < (nI 3000) →
              vp_in (σ.1 0 30) 2102 ∧ tp_W shM m_Mo_parse 103 [some (.ref 0), some (.int x1), none, some (.int (x3 + (nI 1))), none, none] [] (tp_si (tp_si (tp_si σ 19 (σ.1 0 30).toNatClampNeg ((σ.1 12 (((nI 14) * (σ.1 19 ((σ.1 0 30) - (nI 1)).toNatClampNeg)) + (σ.1 4 (σ.1 0 28).toNatClampNeg)).toNatClampNeg) - (nI 1000))) 0 30 ((σ.1 0 30) + (nI 1))) 0 28 ((σ.1 0 28) + (nI 1))) (tp_Qi K)) ∧
            (¬ (σ.1 12 (((nI 14) * (σ.1 19 ((σ.1 0 30) - (nI 1)).toNatClampNeg)) + (σ.1 4 (σ.1 0 28).toNatClampNeg)).toNatClampNeg) < (nI 3000) →
              tp_W shM m_Mo_reduce 0 [some (.ref 0), some (.int x1), some (.int ((σ.1 12 (((nI 14) * (σ.1 19 ((σ.1 0 30) - (nI 1)).toNatClampNeg)) + (σ.1 4 (σ.1 0 28).toNatClampNeg)).toNatClampNeg) - (nI 3000))), none] [] σ (tp_Qv fun σ3 => tp_W shM m_Mo_parse 103 [some (.ref 0), some (.int x1), none, some (.int (x3 + (nI 1))), none, none] [] σ3 (tp_Qi K)))) ∧
          (x3 = (nI 2000) →
            K (nI 2) σ)) ∧
        ((σ.1 12 (((nI 14) * (σ.1 19 ((σ.1 0 30) - (nI 1)).toNatClampNeg)) + (σ.1 4 (σ.1 0 28).toNatClampNeg)).toNatClampNeg) = (nI 2000) →
          K (nI 0) σ)) ∧
      ((σ.1 12 (((nI 14) * (σ.1 19 ((σ.1 0 30) - (nI 1)).toNatClampNeg)) + (σ.1 4 (σ.1 0 28).toNatClampNeg)).toNatClampNeg) = 0 →
        K (nI 1) σ))) : tp_W shM m_Mo_parse 103 [some (.ref 0), some (.int x1), none, some (.int x3), none, none] [] σ (tp_Qi K) := tp_go ⟨ok_Mo_parse, rfl⟩ 142 [(20, [true, true, true, true, false, false]), (103, [true, true, false, true, false, false])] h
set_option maxRecDepth 100000 in
theorem bk_Mo_find_0 {σ : tp_S} {K : Int32 → tp_S → Prop} (x1 : Int32) (x2 : Int32) (h : vp_in x1 108 ∧ (0 ≤ (σ.1 15 x1.toNatClampNeg) →
      vp_in x1 108 ∧ (((σ.1 15 x1.toNatClampNeg) + x2) < 0 →
        tp_W shM m_Mo_defaultValue 0 [some (.ref 0), some (.int x1)] [] σ (tp_Qi fun r1 σ1 => K r1 σ1)) ∧
      (¬ ((σ.1 15 x1.toNatClampNeg) + x2) < 0 →
        vp_in ((σ.1 15 x1.toNatClampNeg) + x2) 6000 ∧ (¬ (σ.1 16 ((σ.1 15 x1.toNatClampNeg) + x2).toNatClampNeg) = x1 →
          tp_W shM m_Mo_defaultValue 0 [some (.ref 0), some (.int x1)] [] σ (tp_Qi fun r2 σ2 => K r2 σ2)) ∧
        ((σ.1 16 ((σ.1 15 x1.toNatClampNeg) + x2).toNatClampNeg) = x1 →
          vp_in ((σ.1 15 x1.toNatClampNeg) + x2) 6000 ∧ K (σ.1 17 ((σ.1 15 x1.toNatClampNeg) + x2).toNatClampNeg) σ))) ∧
    (¬ 0 ≤ (σ.1 15 x1.toNatClampNeg) →
      ((-1 : Int32) < 0 →
        tp_W shM m_Mo_defaultValue 0 [some (.ref 0), some (.int x1)] [] σ (tp_Qi fun r3 σ3 => K r3 σ3)) ∧
      (¬ (-1 : Int32) < 0 →
        vp_in (-1 : Int32) 6000 ∧ (¬ (σ.1 16 (-1 : Int32).toNatClampNeg) = x1 →
          tp_W shM m_Mo_defaultValue 0 [some (.ref 0), some (.int x1)] [] σ (tp_Qi fun r4 σ4 => K r4 σ4)) ∧
        ((σ.1 16 (-1 : Int32).toNatClampNeg) = x1 →
          vp_in (-1 : Int32) 6000 ∧ K (σ.1 17 (-1 : Int32).toNatClampNeg) σ)))) : tp_W shM m_Mo_find 0 [some (.ref 0), some (.int x1), some (.int x2), none] [] σ (tp_Qi K) := tp_go ⟨ok_Mo_find, rfl⟩ 33 [] h
set_option maxRecDepth 100000 in
theorem bk_Mo_reduce_0 {σ : tp_S} {K : tp_S → Prop} (x1 : Int32) (x2 : Int32) (h : vp_in (σ.1 0 27) 2001 ∧ vp_in x2 25 ∧ vp_in (((σ.1 0 30) - (σ.1 3 x2.toNatClampNeg)) - (nI 1)) 2102 ∧ tp_W shM m_Mo_reduce 47 [some (.ref 0), some (.int x1), some (.int x2), some (.int (σ.1 19 (((σ.1 0 30) - (σ.1 3 x2.toNatClampNeg)) - (nI 1)).toNatClampNeg))] [] (tp_si (tp_si (tp_si σ 18 (σ.1 0 27).toNatClampNeg x2) 0 27 ((σ.1 0 27) + (nI 1))) 0 30 ((σ.1 0 30) - (σ.1 3 x2.toNatClampNeg))) (tp_Qv K)) : tp_W shM m_Mo_reduce 0 [some (.ref 0), some (.int x1), some (.int x2), none] [] σ (tp_Qv K) := tp_go ⟨ok_Mo_reduce, rfl⟩ 68 [(47, [true, true, true, true]), (95, [true, false, false, false])] h
set_option maxRecDepth 100000 in
theorem bk_Mo_reduce_47 {σ : tp_S} {K : tp_S → Prop} (x1 : Int32) (x2 : Int32) (x3 : Int32) (h : (¬ x1 = 0 →
      vp_in x2 25 ∧ tp_W shM m_Mo_find 0 [some (.ref 0), some (.int ((nI 100) + (σ.1 1 x2.toNatClampNeg))), some (.int x3), none] [] σ (tp_Qi fun r1 σ1 => tp_W shM m_Mo_reduce 95 [some (.ref 0), none, none, none] [.int r1, .int (σ.1 0 30), .ref 19] σ1 (tp_Qv K))) ∧
    (x1 = 0 →
      vp_in x2 25 ∧ vp_in ((((nI 28) * x3) + (nI 20)) + (σ.1 1 x2.toNatClampNeg)) 2800 ∧ tp_W shM m_Mo_reduce 95 [some (.ref 0), none, none, none] [.int (σ.1 10 ((((nI 28) * x3) + (nI 20)) + (σ.1 1 x2.toNatClampNeg)).toNatClampNeg), .int (σ.1 0 30), .ref 19] σ (tp_Qv K))) : tp_W shM m_Mo_reduce 47 [some (.ref 0), some (.int x1), some (.int x2), some (.int x3)] [] σ (tp_Qv K) := tp_go ⟨ok_Mo_reduce, rfl⟩ 68 [(47, [true, true, true, true]), (95, [true, false, false, false])] h
set_option maxRecDepth 100000 in
theorem bk_Mo_reduce_95 {σ : tp_S} {K : tp_S → Prop} (y1 : Int32) (y2 : Int32) (h : vp_in y1 2102 ∧ K (tp_si (tp_si σ 19 y1.toNatClampNeg y2) 0 30 ((σ.1 0 30) + (nI 1)))) : tp_W shM m_Mo_reduce 95 [some (.ref 0), none, none, none] [.int y2, .int y1, .ref 19] σ (tp_Qv K) := tp_go ⟨ok_Mo_reduce, rfl⟩ 68 [(47, [true, true, true, true]), (95, [true, false, false, false])] h
set_option maxRecDepth 100000 in
theorem bk_Mo_parsed_0 {σ : tp_S} {K : Int32 → tp_S → Prop} (x1 : Int32) (h : (¬ x1 = 0 →
      (¬ x1 = (nI 1) →
        (¬ x1 = (nI 2) →
          K (-1 : Int32) (tp_si σ 0 0 (nI 0))) ∧
        (x1 = (nI 2) →
          K (σ.1 0 30) (tp_si σ 0 0 (nI 0)))) ∧
      (x1 = (nI 1) →
        K (σ.1 0 28) (tp_si σ 0 0 (nI 0)))) ∧
    (x1 = 0 →
      K (σ.1 0 27) (tp_si σ 0 0 (nI 0)))) : tp_W shM m_Mo_parsed 0 [some (.ref 0), some (.int x1)] [] σ (tp_Qi K) := tp_go ⟨ok_Mo_parsed, rfl⟩ 24 [] h
set_option maxRecDepth 100000 in
theorem bk_Mo_reduction_0 {σ : tp_S} {K : Int32 → tp_S → Prop} (x1 : Int32) (h : (x1 < 0 →
      K (-1 : Int32) (tp_si σ 0 0 (nI 0))) ∧
    (¬ x1 < 0 →
      ((σ.1 0 27) ≤ x1 →
        K (-1 : Int32) (tp_si σ 0 0 (nI 0))) ∧
      (¬ (σ.1 0 27) ≤ x1 →
        vp_in x1 2001 ∧ K (σ.1 18 x1.toNatClampNeg) (tp_si σ 0 0 (nI 0))))) : tp_W shM m_Mo_reduction 0 [some (.ref 0), some (.int x1)] [] σ (tp_Qi K) := tp_go ⟨ok_Mo_reduction, rfl⟩ 18 [] h
set_option maxRecDepth 100000 in
theorem bk_Mo_check_0 {σ : tp_S} {K : Int32 → tp_S → Prop}  (h : K (nI 1) (tp_si σ 0 0 (nI 0))) : tp_W shM m_Mo_check 0 [some (.ref 0)] [] σ (tp_Qi K) := tp_go ⟨ok_Mo_check, rfl⟩ 7 [] h
