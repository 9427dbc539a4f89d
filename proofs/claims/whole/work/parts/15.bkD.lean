set_option maxRecDepth 100000 in
theorem bk_Tp_begin_0 {σ : tp_S} {K : Int32 → tp_S → Prop} (x1 : Int32) (h : tp_W shC m_Gr_openRule 0 [some (.ref 1), some (.int x1)] [] σ (tp_Qi fun r1 σ1 => K r1 σ1)) : tp_W shC m_Tp_begin 0 [some (.ref 0), some (.int x1)] [] σ (tp_Qi K) := tp_go ⟨ok_Tp_begin, rfl⟩ 7 [] h
set_option maxRecDepth 100000 in
theorem bk_Tp_isKind_0 {σ : tp_S} {K : Int32 → tp_S → Prop} (x0 : Int32) (h : (x0 < 0 →
      ((nI 0) = 0 ∨ (nI 0) = 1) ∧ K (nI 0) σ) ∧
    (¬ x0 < 0 →
      ((nI 8) ≤ x0 →
        ((nI 0) = 0 ∨ (nI 0) = 1) ∧ K (nI 0) σ) ∧
      (¬ (nI 8) ≤ x0 →
        ((nI 1) = 0 ∨ (nI 1) = 1) ∧ K (nI 1) σ))) : tp_W shC m_Tp_isKind 0 [some (.int x0)] [] σ (tp_Qi K) := tp_go ⟨ok_Tp_isKind, rfl⟩ 11 [] h
set_option maxRecDepth 100000 in
theorem bk_Tp_put_0 {σ : tp_S} {K : Int32 → tp_S → Prop} (x1 : Int32) (h : tp_W shC m_Tp_columnOf 0 [some (.int x1)] [] σ (tp_Qi fun r1 σ1 => tp_W shC m_Gr_extendRule 0 [some (.ref 1), some (.int r1), none] [] σ1 (tp_Qi fun r2 σ2 => K r2 σ2))) : tp_W shC m_Tp_put 0 [some (.ref 0), some (.int x1)] [] σ (tp_Qi K) := tp_go ⟨ok_Tp_put, rfl⟩ 8 [] h
set_option maxRecDepth 100000 in
theorem bk_Tp_columnOf_0 {σ : tp_S} {K : Int32 → tp_S → Prop} (x0 : Int32) (h : tp_W shC m_Tp_isToken 0 [some (.int x0)] [] σ (tp_Qi fun r1 σ1 => (r1 = 0 →
      (x0 < (nI 20) →
        K (-1 : Int32) σ1) ∧
      (¬ x0 < (nI 20) →
        (x0 < (nI 28) →
          K (((nI 14) + x0) - (nI 20)) σ1) ∧
        (¬ x0 < (nI 28) →
          K (-1 : Int32) σ1))) ∧
    (¬ r1 = 0 →
      K x0 σ1))) : tp_W shC m_Tp_columnOf 0 [some (.int x0)] [] σ (tp_Qi K) := tp_go ⟨ok_Tp_columnOf, rfl⟩ 21 [] h
set_option maxRecDepth 100000 in
theorem bk_Tp_isToken_0 {σ : tp_S} {K : Int32 → tp_S → Prop} (x0 : Int32) (h : (x0 < 0 →
      ((nI 0) = 0 ∨ (nI 0) = 1) ∧ K (nI 0) σ) ∧
    (¬ x0 < 0 →
      ((nI 14) ≤ x0 →
        ((nI 0) = 0 ∨ (nI 0) = 1) ∧ K (nI 0) σ) ∧
      (¬ (nI 14) ≤ x0 →
        ((nI 1) = 0 ∨ (nI 1) = 1) ∧ K (nI 1) σ))) : tp_W shC m_Tp_isToken 0 [some (.int x0)] [] σ (tp_Qi K) := tp_go ⟨ok_Tp_isToken, rfl⟩ 11 [] h
set_option maxRecDepth 100000 in
theorem bk_Tp_close_0 {σ : tp_S} {K : Int32 → tp_S → Prop}  (h : tp_W shC m_Gr_closeRule 0 [some (.ref 1)] [] σ (tp_Qi fun r1 σ1 => (¬ r1 = 0 →
      ((nI 1) = 0 ∨ (nI 1) = 1) ∧ K (nI 1) (tp_si σ1 0 7 (nI 1))) ∧
    (r1 = 0 →
      K (nI 0) σ1))) : tp_W shC m_Tp_close 0 [some (.ref 0)] [] σ (tp_Qi K) := tp_go ⟨ok_Tp_close, rfl⟩ 13 [] h
set_option maxRecDepth 100000 in
theorem bk_Tp_clear_0 {σ : tp_S} {K : Int32 → tp_S → Prop}  (h : ((nI 1) = 0 ∨ (nI 1) = 1) ∧ tp_W shC m_Gr_forgetRules 0 [some (.ref 1), none] [] (tp_si σ 0 7 (nI 1)) (tp_Qi fun r1 σ1 => K r1 σ1)) : tp_W shC m_Tp_clear 0 [some (.ref 0)] [] σ (tp_Qi K) := tp_go ⟨ok_Tp_clear, rfl⟩ 9 [] h
set_option maxRecDepth 100000 in
theorem bk_Tp_token_0 {σ : tp_S} {K : Int32 → tp_S → Prop} (x1 : Int32) (h : tp_W shC m_Ps_addToken 0 [some (.ref 24), some (.int x1)] [] σ (tp_Qi fun r1 σ1 => K r1 σ1)) : tp_W shC m_Tp_token 0 [some (.ref 0), some (.int x1)] [] σ (tp_Qi K) := tp_go ⟨ok_Tp_token, rfl⟩ 7 [] h
set_option maxRecDepth 100000 in
theorem bk_Tp_drop_0 {σ : tp_S} {K : Int32 → tp_S → Prop}  (h : tp_W shC m_Ps_forgetTokens 0 [some (.ref 24), none] [] σ (tp_Qi fun r1 σ1 => K r1 σ1)) : tp_W shC m_Tp_drop 0 [some (.ref 0)] [] σ (tp_Qi K) := tp_go ⟨ok_Tp_drop, rfl⟩ 6 [] h
set_option maxRecDepth 100000 in
theorem bk_Tp_count_0 {σ : tp_S} {K : Int32 → tp_S → Prop} (x1 : Int32) (h : tp_W shC m_Tp_refresh 0 [some (.ref 0)] [] σ (tp_Qv fun σ1 => (x1 = (nI 0) →
      tp_W shC m_Gr_rules 0 [some (.ref 1)] [] σ1 (tp_Qi fun r2 σ2 => K r2 σ2)) ∧
    (¬ x1 = (nI 0) →
      (x1 = (nI 1) →
        tp_W shC m_Ps_tokens 0 [some (.ref 24)] [] σ1 (tp_Qi fun r3 σ3 => K r3 σ3)) ∧
      (¬ x1 = (nI 1) →
        (x1 = (nI 6) →
          tp_W shC m_Op_emptyKinds 0 [some (.ref 5), none, none] [] σ1 (tp_Qi fun r4 σ4 => K r4 σ4)) ∧
        (¬ x1 = (nI 6) →
          tp_W shC m_Tp_countOfTables 0 [some (.ref 0), some (.int x1)] [] σ1 (tp_Qi fun r5 σ5 => K r5 σ5)))))) : tp_W shC m_Tp_count 0 [some (.ref 0), some (.int x1)] [] σ (tp_Qi K) := tp_go ⟨ok_Tp_count, rfl⟩ 22 [] h
set_option maxRecDepth 100000 in
theorem bk_Tp_refresh_0 {σ : tp_S} {K : tp_S → Prop}  (h : (¬ (σ.1 0 7) = 0 →
      ((nI 0) = 0 ∨ (nI 0) = 1) ∧ tp_W shC m_Op_find 0 [some (.ref 5), none, none] [] (tp_si σ 0 7 (nI 0)) (tp_Qv fun σ1 => tp_W shC m_St_find 0 [some (.ref 10), none] [] σ1 (tp_Qv fun σ2 => tp_W shC m_St_tooLarge 0 [some (.ref 10)] [] σ2 (tp_Qi fun r3 σ3 => (r3 = 0 →
        tp_W shC m_La_find 0 [some (.ref 15), none, none, none] [] σ3 (tp_Qv fun σ4 => tp_W shC m_Pl_addReductions 0 [some (.ref 8), some (.ref 1), some (.ref 10), some (.ref 15), none, none, none] [] σ4 (tp_Qv fun σ5 => tp_W shC m_St_size 0 [some (.ref 10)] [] σ5 (tp_Qi fun r6 σ6 => tp_W shC m_Pk_pack 0 [some (.ref 18), some (.int r6), none, none] [] σ6 (tp_Qv fun σ7 => K σ7))))) ∧
      (¬ r3 = 0 →
        K σ3))))) ∧
    ((σ.1 0 7) = 0 →
      K σ)) : tp_W shC m_Tp_refresh 0 [some (.ref 0)] [] σ (tp_Qv K) := tp_go ⟨ok_Tp_refresh, rfl⟩ 39 [] h
set_option maxRecDepth 100000 in
theorem bk_Tp_countOfTables_0 {σ : tp_S} {K : Int32 → tp_S → Prop} (x1 : Int32) (h : (x1 < (nI 2) →
      K (-1 : Int32) σ) ∧
    (¬ x1 < (nI 2) →
      (x1 ≤ (nI 5) →
        tp_W shC m_St_tooLarge 0 [some (.ref 10)] [] σ (tp_Qi fun r1 σ1 => (r1 = 0 →
          (x1 = (nI 2) →
            tp_W shC m_St_size 0 [some (.ref 10)] [] σ1 (tp_Qi fun r2 σ2 => K r2 σ2)) ∧
          (¬ x1 = (nI 2) →
            (x1 = (nI 3) →
              tp_W shC m_Pl_clashes 0 [some (.ref 8)] [] σ1 (tp_Qi fun r3 σ3 => K r3 σ3)) ∧
            (¬ x1 = (nI 3) →
              (x1 = (nI 4) →
                tp_W shC m_Pk_entries 0 [some (.ref 18)] [] σ1 (tp_Qi fun r4 σ4 => K r4 σ4)) ∧
              (¬ x1 = (nI 4) →
                tp_W shC m_Pk_length 0 [some (.ref 18)] [] σ1 (tp_Qi fun r5 σ5 => K r5 σ5))))) ∧
        (¬ r1 = 0 →
          K (-2 : Int32) σ1))) ∧
      (¬ x1 ≤ (nI 5) →
        K (-1 : Int32) σ))) : tp_W shC m_Tp_countOfTables 0 [some (.ref 0), some (.int x1)] [] σ (tp_Qi K) := tp_go ⟨ok_Tp_countOfTables, rfl⟩ 34 [] h
set_option maxRecDepth 100000 in
theorem bk_Tp_first_0 {σ : tp_S} {K : Int32 → tp_S → Prop} (x1 : Int32) (h : tp_W shC m_Tp_refresh 0 [some (.ref 0)] [] σ (tp_Qv fun σ1 => tp_W shC m_Tp_isKind 0 [some (.int x1)] [] σ1 (tp_Qi fun r2 σ2 => (r2 = 0 →
      K (-1 : Int32) σ2) ∧
    (¬ r2 = 0 →
      tp_W shC m_Op_ofKind 0 [some (.ref 5), some (.int x1)] [] σ2 (tp_Qi fun r3 σ3 => K (r3 &&& (nI 16383)) σ3))))) : tp_W shC m_Tp_first 0 [some (.ref 0), some (.int x1)] [] σ (tp_Qi K) := tp_go ⟨ok_Tp_first, rfl⟩ 16 [] h
set_option maxRecDepth 100000 in
theorem bk_Tp_state_0 {σ : tp_S} {K : Int32 → tp_S → Prop} (x1 : Int32) (x2 : Int32) (h : tp_W shC m_Tp_refresh 0 [some (.ref 0)] [] σ (tp_Qv fun σ1 => tp_W shC m_St_tooLarge 0 [some (.ref 10)] [] σ1 (tp_Qi fun r2 σ2 => (r2 = 0 →
      tp_W shC m_St_isState 0 [some (.ref 10), some (.int x1)] [] σ2 (tp_Qi fun r3 σ3 => (¬ r3 = 0 →
        (¬ x2 = 0 →
          ((nI 100) ≤ x2 →
            tp_W shC m_Tp_columnOf 0 [some (.int (x2 - (nI 100)))] [] σ3 (tp_Qi fun r4 σ4 => (¬ r4 = (-1 : Int32) →
              tp_W shC m_Pl_leadAt 0 [some (.ref 8), some (.int x1), some (.int r4), none] [] σ4 (tp_Qi fun r5 σ5 => K r5 σ5)) ∧
            (r4 = (-1 : Int32) →
              K (-1 : Int32) σ4))) ∧
          (¬ (nI 100) ≤ x2 →
            (¬ (-1 : Int32) = (-1 : Int32) →
              tp_W shC m_Pl_leadAt 0 [some (.ref 8), some (.int x1), some (.int (-1 : Int32)), none] [] σ3 (tp_Qi fun r6 σ6 => K r6 σ6)) ∧
            ((-1 : Int32) = (-1 : Int32) →
              K (-1 : Int32) σ3))) ∧
        (x2 = 0 →
          tp_W shC m_St_itemsOf 0 [some (.ref 10), some (.int x1), none, none] [] σ3 (tp_Qi fun r7 σ7 => K r7 σ7))) ∧
      (r3 = 0 →
        K (-1 : Int32) σ3))) ∧
    (¬ r2 = 0 →
      K (-2 : Int32) σ2)))) : tp_W shC m_Tp_state 0 [some (.ref 0), some (.int x1), some (.int x2), none] [] σ (tp_Qi K) := tp_go ⟨ok_Tp_state, rfl⟩ 45 [] h
set_option maxRecDepth 100000 in
theorem bk_Tp_ahead_0 {σ : tp_S} {K : Int32 → tp_S → Prop} (x1 : Int32) (x2 : Int32) (x3 : Int32) (h : tp_W shC m_Tp_refresh 0 [some (.ref 0)] [] σ (tp_Qv fun σ1 => tp_W shC m_St_tooLarge 0 [some (.ref 10)] [] σ1 (tp_Qi fun r2 σ2 => (r2 = 0 →
      tp_W shC m_Tp_itemOf 0 [some (.int x2), some (.int x3), none] [] σ2 (tp_Qi fun r3 σ3 => (r3 = (-1 : Int32) →
        K (-1 : Int32) σ3) ∧
      (¬ r3 = (-1 : Int32) →
        tp_W shC m_St_isState 0 [some (.ref 10), some (.int x1)] [] σ3 (tp_Qi fun r4 σ4 => (r4 = 0 →
          K (-1 : Int32) σ4) ∧
        (¬ r4 = 0 →
          tp_W shC m_St_holds 0 [some (.ref 10), some (.int x1), some (.int r3)] [] σ4 (tp_Qi fun r5 σ5 => (¬ r5 = 0 →
            tp_W shC m_La_setOf 0 [some (.ref 15), some (.int x1), some (.int r3)] [] σ5 (tp_Qi fun r6 σ6 => K r6 σ6)) ∧
          (r5 = 0 →
            K (-1 : Int32) σ5))))))) ∧
    (¬ r2 = 0 →
      K (-2 : Int32) σ2)))) : tp_W shC m_Tp_ahead 0 [some (.ref 0), some (.int x1), some (.int x2), some (.int x3), none] [] σ (tp_Qi K) := tp_go ⟨ok_Tp_ahead, rfl⟩ 36 [] h
set_option maxRecDepth 100000 in
theorem bk_Tp_itemOf_0 {σ : tp_S} {K : Int32 → tp_S → Prop} (x0 : Int32) (x1 : Int32) (h : (x0 < 0 →
      K (-1 : Int32) σ) ∧
    (¬ x0 < 0 →
      ((nI 24) < x0 →
        K (-1 : Int32) σ) ∧
      (¬ (nI 24) < x0 →
        (x1 < 0 →
          K (-1 : Int32) σ) ∧
        (¬ x1 < 0 →
          (x1 < (nI 7) →
            ((nI 170) ≤ ((x0 * (nI 7)) + x1) →
              K (-1 : Int32) σ) ∧
            (¬ (nI 170) ≤ ((x0 * (nI 7)) + x1) →
              K ((x0 * (nI 7)) + x1) σ)) ∧
          (¬ x1 < (nI 7) →
            K (-1 : Int32) σ))))) : tp_W shC m_Tp_itemOf 0 [some (.int x0), some (.int x1), none] [] σ (tp_Qi K) := tp_go ⟨ok_Tp_itemOf, rfl⟩ 27 [] h
set_option maxRecDepth 100000 in
theorem bk_Tp_comes_0 {σ : tp_S} {K : Int32 → tp_S → Prop} (x1 : Int32) (x2 : Int32) (h : tp_W shC m_Tp_refresh 0 [some (.ref 0)] [] σ (tp_Qv fun σ1 => tp_W shC m_St_tooLarge 0 [some (.ref 10)] [] σ1 (tp_Qi fun r2 σ2 => (r2 = 0 →
      tp_W shC m_St_isState 0 [some (.ref 10), some (.int x1)] [] σ2 (tp_Qi fun r3 σ3 => (r3 = 0 →
        K (-1 : Int32) σ3) ∧
      (¬ r3 = 0 →
        tp_W shC m_Tp_isToken 0 [some (.int x2)] [] σ3 (tp_Qi fun r4 σ4 => (r4 = 0 →
          K (-1 : Int32) σ4) ∧
        (¬ r4 = 0 →
          tp_W shC m_Pl_moveOn 0 [some (.ref 8), some (.int x1), some (.int x2)] [] σ4 (tp_Qi fun r5 σ5 => K r5 σ5)))))) ∧
    (¬ r2 = 0 →
      K (-2 : Int32) σ2)))) : tp_W shC m_Tp_comes 0 [some (.ref 0), some (.int x1), some (.int x2)] [] σ (tp_Qi K) := tp_go ⟨ok_Tp_comes, rfl⟩ 26 [] h
set_option maxRecDepth 100000 in
theorem bk_Tp_row_0 {σ : tp_S} {K : Int32 → tp_S → Prop} (x1 : Int32) (x2 : Int32) (h : tp_W shC m_Tp_refresh 0 [some (.ref 0)] [] σ (tp_Qv fun σ1 => tp_W shC m_St_tooLarge 0 [some (.ref 10)] [] σ1 (tp_Qi fun r2 σ2 => (r2 = 0 →
      tp_W shC m_St_isState 0 [some (.ref 10), some (.int x1)] [] σ2 (tp_Qi fun r3 σ3 => (¬ r3 = 0 →
        (x2 = (nI 0) →
          tp_W shC m_Pk_defaultOf 0 [some (.ref 18), some (.int x1)] [] σ3 (tp_Qi fun r4 σ4 => K r4 σ4)) ∧
        (¬ x2 = (nI 0) →
          (x2 = (nI 1) →
            tp_W shC m_Pk_entriesOf 0 [some (.ref 18), some (.int x1)] [] σ3 (tp_Qi fun r5 σ5 => K r5 σ5)) ∧
          (¬ x2 = (nI 1) →
            (x2 = (nI 2) →
              tp_W shC m_Pk_baseOf 0 [some (.ref 18), some (.int x1)] [] σ3 (tp_Qi fun r6 σ6 => K r6 σ6)) ∧
            (¬ x2 = (nI 2) →
              K (-1 : Int32) σ3)))) ∧
      (r3 = 0 →
        tp_W shC m_Tp_isKindRow 0 [some (.int x1)] [] σ3 (tp_Qi fun r7 σ7 => (¬ r7 = 0 →
          (x2 = (nI 0) →
            tp_W shC m_Pk_defaultOf 0 [some (.ref 18), some (.int x1)] [] σ7 (tp_Qi fun r8 σ8 => K r8 σ8)) ∧
          (¬ x2 = (nI 0) →
            (x2 = (nI 1) →
              tp_W shC m_Pk_entriesOf 0 [some (.ref 18), some (.int x1)] [] σ7 (tp_Qi fun r9 σ9 => K r9 σ9)) ∧
            (¬ x2 = (nI 1) →
              (x2 = (nI 2) →
                tp_W shC m_Pk_baseOf 0 [some (.ref 18), some (.int x1)] [] σ7 (tp_Qi fun r10 σ10 => K r10 σ10)) ∧
              (¬ x2 = (nI 2) →
                K (-1 : Int32) σ7)))) ∧
        (r7 = 0 →
          K (-1 : Int32) σ7))))) ∧
    (¬ r2 = 0 →
      K (-2 : Int32) σ2)))) : tp_W shC m_Tp_row 0 [some (.ref 0), some (.int x1), some (.int x2)] [] σ (tp_Qi K) := tp_go ⟨ok_Tp_row, rfl⟩ 39 [] h
set_option maxRecDepth 100000 in
theorem bk_Tp_isKindRow_0 {σ : tp_S} {K : Int32 → tp_S → Prop} (x0 : Int32) (h : (x0 < (nI 100) →
      ((nI 0) = 0 ∨ (nI 0) = 1) ∧ K (nI 0) σ) ∧
    (¬ x0 < (nI 100) →
      ((nI 108) ≤ x0 →
        ((nI 0) = 0 ∨ (nI 0) = 1) ∧ K (nI 0) σ) ∧
      (¬ (nI 108) ≤ x0 →
        ((nI 1) = 0 ∨ (nI 1) = 1) ∧ K (nI 1) σ))) : tp_W shC m_Tp_isKindRow 0 [some (.int x0)] [] σ (tp_Qi K) := tp_go ⟨ok_Tp_isKindRow, rfl⟩ 12 [] h
set_option maxRecDepth 100000 in
theorem bk_Tp_place_0 {σ : tp_S} {K : Int32 → tp_S → Prop} (x1 : Int32) (x2 : Int32) (h : tp_W shC m_Tp_refresh 0 [some (.ref 0)] [] σ (tp_Qv fun σ1 => tp_W shC m_St_tooLarge 0 [some (.ref 10)] [] σ1 (tp_Qi fun r2 σ2 => (r2 = 0 →
      (x2 = (nI 0) →
        tp_W shC m_Pk_ownerAt 0 [some (.ref 18), some (.int x1)] [] σ2 (tp_Qi fun r3 σ3 => K r3 σ3)) ∧
      (¬ x2 = (nI 0) →
        (x2 = (nI 1) →
          tp_W shC m_Pk_entryAt 0 [some (.ref 18), some (.int x1)] [] σ2 (tp_Qi fun r4 σ4 => K r4 σ4)) ∧
        (¬ x2 = (nI 1) →
          K (-1 : Int32) σ2))) ∧
    (¬ r2 = 0 →
      K (-2 : Int32) σ2)))) : tp_W shC m_Tp_place 0 [some (.ref 0), some (.int x1), some (.int x2)] [] σ (tp_Qi K) := tp_go ⟨ok_Tp_place, rfl⟩ 24 [] h
set_option maxRecDepth 100000 in
theorem bk_Tp_parse_0 {σ : tp_S} {K : Int32 → tp_S → Prop} (x1 : Int32) (h : (x1 < 0 →
      K (-1 : Int32) σ) ∧
    (¬ x1 < 0 →
      ((nI 1) < x1 →
        K (-1 : Int32) σ) ∧
      (¬ (nI 1) < x1 →
        tp_W shC m_Gr_hasRuleOf 0 [some (.ref 1), some (.int (nI 0)), none] [] σ (tp_Qi fun r1 σ1 => (¬ r1 = 0 →
          tp_W shC m_Tp_refresh 0 [some (.ref 0)] [] σ1 (tp_Qv fun σ2 => tp_W shC m_St_tooLarge 0 [some (.ref 10)] [] σ2 (tp_Qi fun r3 σ3 => (r3 = 0 →
            (¬ x1 = 0 →
              tp_W shC m_Ps_run 0 [some (.ref 24), some (.ref 18), none, none] [] σ3 (tp_Qi fun r4 σ4 => K r4 σ4)) ∧
            (x1 = 0 →
              tp_W shC m_Ps_run 0 [some (.ref 24), some (.ref 8), none, none] [] σ3 (tp_Qi fun r5 σ5 => K r5 σ5))) ∧
          (¬ r3 = 0 →
            K (-2 : Int32) σ3)))) ∧
        (r1 = 0 →
          K (-1 : Int32) σ1))))) : tp_W shC m_Tp_parse 0 [some (.ref 0), some (.int x1), none] [] σ (tp_Qi K) := tp_go ⟨ok_Tp_parse, rfl⟩ 35 [] h
set_option maxRecDepth 100000 in
theorem bk_Tp_parsed_0 {σ : tp_S} {K : Int32 → tp_S → Prop} (x1 : Int32) (h : (x1 = (nI 0) →
      tp_W shC m_Ps_reductions 0 [some (.ref 24)] [] σ (tp_Qi fun r1 σ1 => K r1 σ1)) ∧
    (¬ x1 = (nI 0) →
      (x1 = (nI 1) →
        tp_W shC m_Ps_endedAt 0 [some (.ref 24)] [] σ (tp_Qi fun r2 σ2 => K r2 σ2)) ∧
      (¬ x1 = (nI 1) →
        (x1 = (nI 2) →
          tp_W shC m_Ps_pileHeight 0 [some (.ref 24)] [] σ (tp_Qi fun r3 σ3 => K r3 σ3)) ∧
        (¬ x1 = (nI 2) →
          K (-1 : Int32) σ)))) : tp_W shC m_Tp_parsed 0 [some (.ref 0), some (.int x1)] [] σ (tp_Qi K) := tp_go ⟨ok_Tp_parsed, rfl⟩ 18 [] h
set_option maxRecDepth 100000 in
theorem bk_Tp_reduction_0 {σ : tp_S} {K : Int32 → tp_S → Prop} (x1 : Int32) (h : tp_W shC m_Ps_reducedBy 0 [some (.ref 24), some (.int x1)] [] σ (tp_Qi fun r1 σ1 => K r1 σ1)) : tp_W shC m_Tp_reduction 0 [some (.ref 0), some (.int x1)] [] σ (tp_Qi K) := tp_go ⟨ok_Tp_reduction, rfl⟩ 7 [] h
set_option maxRecDepth 100000 in
theorem bk_Tp_check_0 {σ : tp_S} {K : Int32 → tp_S → Prop}  (h : tp_W shC m_Tp_refresh 0 [some (.ref 0)] [] σ (tp_Qv fun σ1 => tp_W shC m_St_tooLarge 0 [some (.ref 10)] [] σ1 (tp_Qi fun r2 σ2 => (¬ r2 = 0 →
      K (nI 1) σ2) ∧
    (r2 = 0 →
      tp_W shC m_Pk_isSound 0 [some (.ref 18), none, none, none] [] σ2 (tp_Qi fun r3 σ3 => (r3 = 0 →
        K (nI 0) σ3) ∧
      (¬ r3 = 0 →
        K (nI 1) σ3)))))) : tp_W shC m_Tp_check 0 [some (.ref 0)] [] σ (tp_Qi K) := tp_go ⟨ok_Tp_check, rfl⟩ 16 [] h
