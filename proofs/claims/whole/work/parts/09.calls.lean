/-! the tables of calls: place in the pool, receiver's class, parameters, kind (0: its own class names it; 1: an abstract method, or a nest mate's), what is called -/
def tp_cn (o : Nat) : String := match o with
  | 0 => R_Gr
  | 1 => R_La
  | 2 => R_Op
  | 3 => R_Pk
  | 4 => R_Ps
  | 5 => R_Pl
  | 6 => R_St
  | 7 => R_Tp
  | 8 => R_Mo
  | 9 => R_JL
  | 10 => R_JM
  | 11 => R_JA
  | _ => ""
def tp_cvT (o : Nat) : List (Nat × Nat × Nat × Nat × tp_M) := match o with
  | 1 => [(41, 6, 0, 0, m_St_size), (47, 1, 3, 0, m_La_join), (52, 1, 1, 0, m_La_spreadState), (56, 0, 1, 0, m_Gr_lengthOf), (62, 6, 2, 0, m_St_holds), (66, 1, 2, 0, m_La_spreadItem), (70, 0, 1, 0, m_Gr_columnAt), (73, 1, 2, 0, m_La_setOf), (77, 5, 2, 0, m_Pl_leadAt), (82, 2, 1, 0, m_Op_ofRest), (87, 1, 3, 0, m_La_joinRulesOf), (90, 0, 0, 0, m_Gr_rules), (93, 0, 1, 0, m_Gr_kindOf)]
  | 2 => [(28, 2, 0, 0, m_Op_widenKinds), (32, 0, 0, 0, m_Gr_rules), (38, 2, 1, 0, m_Op_findRests), (42, 0, 1, 0, m_Gr_kindOf), (46, 2, 2, 0, m_Op_ofRow), (50, 0, 1, 0, m_Gr_lengthOf), (53, 0, 1, 0, m_Gr_columnAt)]
  | 3 => [(47, 3, 1, 0, m_Pk_mostCommon), (51, 3, 1, 0, m_Pk_findSpots), (60, 3, 1, 0, m_Pk_seatRowsWith), (64, 3, 1, 0, m_Pk_isOwned), (68, 3, 2, 0, m_Pk_lookUp), (71, 3, 1, 0, m_Pk_moveByDefault), (74, 3, 1, 0, m_Pk_widthOf), (77, 3, 2, 0, m_Pk_entryOf), (83, 5, 2, 0, m_Pl_leadAt), (88, 5, 2, 0, m_Pl_moveOn), (91, 3, 2, 0, m_Pk_choiceAt), (94, 3, 1, 0, m_Pk_leastBase), (97, 3, 2, 0, m_Pk_seat), (101, 3, 2, 0, m_Pk_allFree)]
  | 4 => [(42, 4, 0, 0, m_Ps_nextToken), (46, 3, 2, 1, m_Pk_moveOn), (46, 5, 2, 1, m_Pl_moveOn), (52, 4, 2, 0, m_Ps_go), (56, 4, 2, 0, m_Ps_reduce), (59, 4, 1, 0, m_Ps_putOn), (63, 0, 1, 0, m_Gr_lengthOf), (69, 0, 1, 0, m_Gr_kindOf), (72, 3, 2, 1, m_Pk_leadOf), (72, 5, 2, 1, m_Pl_leadOf)]
  | 5 => [(25, 6, 0, 0, m_St_size), (31, 6, 2, 0, m_St_holds), (35, 0, 0, 0, m_Gr_rules), (40, 0, 1, 0, m_Gr_lengthOf), (44, 1, 2, 0, m_La_setOf), (50, 5, 3, 0, m_Pl_addReduction), (54, 5, 2, 0, m_Pl_leadAt)]
  | 6 => [(32, 6, 0, 0, m_St_markItems), (35, 6, 0, 0, m_St_bringRules), (38, 5, 0, 0, m_Pl_forgetMoves), (61, 6, 0, 0, m_St_complete), (64, 6, 0, 0, m_St_numberOfCandidate), (68, 6, 1, 0, m_St_leadOn), (78, 0, 1, 0, m_Gr_columnAt), (84, 0, 0, 0, m_Gr_rules), (87, 0, 1, 0, m_Gr_kindOf), (90, 0, 1, 0, m_Gr_lengthOf), (93, 6, 2, 0, m_St_bringAlong), (97, 6, 2, 0, m_St_step), (101, 5, 3, 0, m_Pl_addLead), (105, 6, 1, 0, m_St_candidateStandsBefore), (109, 6, 1, 0, m_St_isCandidate)]
  | 7 => [(70, 0, 1, 0, m_Gr_openRule), (77, 0, 1, 0, m_Gr_extendRule), (80, 0, 0, 0, m_Gr_closeRule), (84, 0, 0, 0, m_Gr_forgetRules), (88, 4, 1, 0, m_Ps_addToken), (91, 4, 0, 0, m_Ps_forgetTokens), (94, 7, 0, 0, m_Tp_refresh), (97, 0, 0, 0, m_Gr_rules), (100, 4, 0, 0, m_Ps_tokens), (103, 2, 0, 0, m_Op_emptyKinds), (106, 7, 1, 0, m_Tp_countOfTables), (113, 2, 1, 0, m_Op_ofKind), (116, 6, 0, 0, m_St_tooLarge), (119, 6, 1, 0, m_St_isState), (122, 6, 1, 0, m_St_itemsOf), (125, 5, 2, 0, m_Pl_leadAt), (132, 6, 2, 0, m_St_holds), (136, 1, 2, 0, m_La_setOf), (142, 5, 2, 0, m_Pl_moveOn), (148, 3, 1, 0, m_Pk_defaultOf), (151, 3, 1, 0, m_Pk_entriesOf), (154, 3, 1, 0, m_Pk_baseOf), (157, 3, 1, 0, m_Pk_ownerAt), (160, 3, 1, 0, m_Pk_entryAt), (163, 0, 1, 0, m_Gr_hasRuleOf), (166, 4, 1, 0, m_Ps_run), (170, 4, 0, 0, m_Ps_reductions), (173, 4, 0, 0, m_Ps_endedAt), (176, 4, 0, 0, m_Ps_pileHeight), (179, 4, 1, 0, m_Ps_reducedBy), (182, 3, 0, 0, m_Pk_isSound), (185, 6, 0, 0, m_St_size), (188, 5, 0, 0, m_Pl_clashes), (191, 3, 0, 0, m_Pk_entries), (194, 3, 0, 0, m_Pk_length), (197, 2, 0, 0, m_Op_find), (200, 6, 0, 0, m_St_find), (201, 1, 0, 0, m_La_find), (202, 5, 3, 0, m_Pl_addReductions), (206, 3, 1, 0, m_Pk_pack)]
  | 8 => [(89, 8, 0, 0, m_Mo_closed), (93, 8, 2, 0, m_Mo_isEmptyFrom), (97, 8, 2, 0, m_Mo_firstFrom), (107, 8, 1, 0, m_Mo_complete), (111, 8, 2, 0, m_Mo_symbolAt), (114, 8, 0, 0, m_Mo_stateOfNext), (117, 8, 2, 0, m_Mo_lead), (124, 8, 3, 0, m_Mo_addAhead), (128, 8, 2, 0, m_Mo_spread), (134, 8, 2, 0, m_Mo_whole), (137, 8, 1, 0, m_Mo_defaultValue), (141, 8, 1, 0, m_Mo_widthOf), (144, 8, 2, 0, m_Mo_entry), (150, 8, 1, 0, m_Mo_isRow), (153, 8, 1, 0, m_Mo_findDefault), (156, 8, 1, 0, m_Mo_lay), (159, 8, 0, 0, m_Mo_findFirsts), (162, 8, 0, 0, m_Mo_makeStates), (165, 8, 0, 0, m_Mo_findAhead), (168, 8, 0, 0, m_Mo_findActions), (171, 8, 0, 0, m_Mo_pack), (174, 8, 0, 0, m_Mo_know), (178, 8, 0, 0, m_Mo_entries), (181, 8, 1, 0, m_Mo_isState), (193, 8, 2, 0, m_Mo_find), (196, 8, 2, 0, m_Mo_reduce)]
  | _ => []
def tp_csT (o : Nat) : List (Nat × Nat × Nat × tp_M) := match o with
  | 0 => [(25, 1, 1, m_Tp_isKind)]
  | 1 => [(35, 2, 0, m_JA_fillL)]
  | 2 => [(22, 2, 0, m_JA_fillI)]
  | 3 => [(41, 2, 0, m_JA_fillI), (80, 1, 0, m_Pk_isStateRow)]
  | 4 => [(25, 1, 1, m_Tp_isToken)]
  | 5 => [(15, 2, 0, m_JA_fillI)]
  | 6 => [(51, 2, 0, m_JA_fillL), (57, 3, 0, m_St_mark), (72, 1, 0, m_JL_bitCount)]
  | 7 => [(74, 1, 0, m_Tp_columnOf), (109, 1, 0, m_Tp_isKind), (129, 2, 0, m_Tp_itemOf), (139, 1, 0, m_Tp_isToken), (145, 1, 0, m_Tp_isKindRow)]
  | 8 => [(85, 1, 0, m_Mo_isKind)]
  | _ => []
abbrev tp_in4 (w : Cond) : Bool := decide (w ∈ lw_tbl) && goodWord w
def tp_cvq (o : Nat) (e : Nat × Nat × Nat × Nat × tp_M) : Bool := match tp_cl[e.2.1]? with
  | some q => (match e.2.2.2.1 with
    | 0 => decide ((tp_y e.2.2.2.2).cls = q.1) && tp_in4 (.methodLink (tp_cn o) e.1 (tp_y e.2.2.2.2)) && tp_in4 (.instanceMethod (tp_y e.2.2.2.2)) && tp_in4 (.selects q.1 (tp_y e.2.2.2.2) (tp_y e.2.2.2.2)) && tp_in4 (.initialized q.1) && decide (tp_nMH (tp_y e.2.2.2.2) e.2.2.1)
    | _ => tp_in4 (.methodLink (tp_cn o) e.1 ⟨R_Ta, (tp_y e.2.2.2.2).name, (tp_y e.2.2.2.2).desc⟩) && tp_in4 (.sameMethod R_Ta R_Ta (tp_y e.2.2.2.2).name (tp_y e.2.2.2.2).desc) && tp_in4 (.selects q.1 ⟨R_Ta, (tp_y e.2.2.2.2).name, (tp_y e.2.2.2.2).desc⟩ (tp_y e.2.2.2.2)) && tp_in4 (.instanceMethod (tp_y e.2.2.2.2)) && tp_in4 (.initialized (tp_y e.2.2.2.2).cls) && decide (Cond.declares ⟨R_Ta, (tp_y e.2.2.2.2).name, (tp_y e.2.2.2.2).desc⟩ ∈ tp_Nw) && decide (tp_nMH ⟨R_Ta, (tp_y e.2.2.2.2).name, (tp_y e.2.2.2.2).desc⟩ e.2.2.1))
  | none => false
def tp_csq (o : Nat) (e : Nat × Nat × Nat × tp_M) : Bool := tp_in4 (.static (tp_y e.2.2.2)) && tp_in4 (.initialized (tp_y e.2.2.2).cls) && decide (tp_nMH (tp_y e.2.2.2) e.2.1) && (match e.2.2.1 with
    | 0 => tp_in4 (.methodLink (tp_cn o) e.1 (tp_y e.2.2.2))
    | _ => decide (Cond.methodLinkNest (tp_cn o) e.1 (tp_y e.2.2.2) R_Tp ∈ tp_Nw))
set_option maxRecDepth 100000 in
theorem tp_cso_0 : (tp_csT 0).all (tp_csq 0) = true := by decide +kernel
theorem tp_csg_0 : ∀ e ∈ tp_csT 0, tp_good e.2.2.2 = true := List.forall_mem_cons.mpr ⟨ok_Tp_isKind, fun _ h => absurd h List.not_mem_nil⟩
set_option maxRecDepth 100000 in
theorem tp_cvo_1 : (tp_cvT 1).all (tp_cvq 1) = true := by decide +kernel
theorem tp_cvg_1 : ∀ e ∈ tp_cvT 1, tp_good e.2.2.2.2 = true := List.forall_mem_cons.mpr ⟨ok_St_size, List.forall_mem_cons.mpr ⟨ok_La_join, List.forall_mem_cons.mpr ⟨ok_La_spreadState, List.forall_mem_cons.mpr ⟨ok_Gr_lengthOf, List.forall_mem_cons.mpr ⟨ok_St_holds, List.forall_mem_cons.mpr ⟨ok_La_spreadItem, List.forall_mem_cons.mpr ⟨ok_Gr_columnAt, List.forall_mem_cons.mpr ⟨ok_La_setOf, List.forall_mem_cons.mpr ⟨ok_Pl_leadAt, List.forall_mem_cons.mpr ⟨ok_Op_ofRest, List.forall_mem_cons.mpr ⟨ok_La_joinRulesOf, List.forall_mem_cons.mpr ⟨ok_Gr_rules, List.forall_mem_cons.mpr ⟨ok_Gr_kindOf, fun _ h => absurd h List.not_mem_nil⟩⟩⟩⟩⟩⟩⟩⟩⟩⟩⟩⟩⟩
set_option maxRecDepth 100000 in
theorem tp_cso_1 : (tp_csT 1).all (tp_csq 1) = true := by decide +kernel
theorem tp_csg_1 : ∀ e ∈ tp_csT 1, tp_good e.2.2.2 = true := List.forall_mem_cons.mpr ⟨ok_JA_fillL, fun _ h => absurd h List.not_mem_nil⟩
set_option maxRecDepth 100000 in
theorem tp_cvo_2 : (tp_cvT 2).all (tp_cvq 2) = true := by decide +kernel
theorem tp_cvg_2 : ∀ e ∈ tp_cvT 2, tp_good e.2.2.2.2 = true := List.forall_mem_cons.mpr ⟨ok_Op_widenKinds, List.forall_mem_cons.mpr ⟨ok_Gr_rules, List.forall_mem_cons.mpr ⟨ok_Op_findRests, List.forall_mem_cons.mpr ⟨ok_Gr_kindOf, List.forall_mem_cons.mpr ⟨ok_Op_ofRow, List.forall_mem_cons.mpr ⟨ok_Gr_lengthOf, List.forall_mem_cons.mpr ⟨ok_Gr_columnAt, fun _ h => absurd h List.not_mem_nil⟩⟩⟩⟩⟩⟩⟩
set_option maxRecDepth 100000 in
theorem tp_cso_2 : (tp_csT 2).all (tp_csq 2) = true := by decide +kernel
theorem tp_csg_2 : ∀ e ∈ tp_csT 2, tp_good e.2.2.2 = true := List.forall_mem_cons.mpr ⟨ok_JA_fillI, fun _ h => absurd h List.not_mem_nil⟩
set_option maxRecDepth 100000 in
theorem tp_cvo_3 : (tp_cvT 3).all (tp_cvq 3) = true := by decide +kernel
theorem tp_cvg_3 : ∀ e ∈ tp_cvT 3, tp_good e.2.2.2.2 = true := List.forall_mem_cons.mpr ⟨ok_Pk_mostCommon, List.forall_mem_cons.mpr ⟨ok_Pk_findSpots, List.forall_mem_cons.mpr ⟨ok_Pk_seatRowsWith, List.forall_mem_cons.mpr ⟨ok_Pk_isOwned, List.forall_mem_cons.mpr ⟨ok_Pk_lookUp, List.forall_mem_cons.mpr ⟨ok_Pk_moveByDefault, List.forall_mem_cons.mpr ⟨ok_Pk_widthOf, List.forall_mem_cons.mpr ⟨ok_Pk_entryOf, List.forall_mem_cons.mpr ⟨ok_Pl_leadAt, List.forall_mem_cons.mpr ⟨ok_Pl_moveOn, List.forall_mem_cons.mpr ⟨ok_Pk_choiceAt, List.forall_mem_cons.mpr ⟨ok_Pk_leastBase, List.forall_mem_cons.mpr ⟨ok_Pk_seat, List.forall_mem_cons.mpr ⟨ok_Pk_allFree, fun _ h => absurd h List.not_mem_nil⟩⟩⟩⟩⟩⟩⟩⟩⟩⟩⟩⟩⟩⟩
set_option maxRecDepth 100000 in
theorem tp_cso_3 : (tp_csT 3).all (tp_csq 3) = true := by decide +kernel
theorem tp_csg_3 : ∀ e ∈ tp_csT 3, tp_good e.2.2.2 = true := List.forall_mem_cons.mpr ⟨ok_JA_fillI, List.forall_mem_cons.mpr ⟨ok_Pk_isStateRow, fun _ h => absurd h List.not_mem_nil⟩⟩
set_option maxRecDepth 100000 in
theorem tp_cvo_4 : (tp_cvT 4).all (tp_cvq 4) = true := by decide +kernel
theorem tp_cvg_4 : ∀ e ∈ tp_cvT 4, tp_good e.2.2.2.2 = true := List.forall_mem_cons.mpr ⟨ok_Ps_nextToken, List.forall_mem_cons.mpr ⟨ok_Pk_moveOn, List.forall_mem_cons.mpr ⟨ok_Pl_moveOn, List.forall_mem_cons.mpr ⟨ok_Ps_go, List.forall_mem_cons.mpr ⟨ok_Ps_reduce, List.forall_mem_cons.mpr ⟨ok_Ps_putOn, List.forall_mem_cons.mpr ⟨ok_Gr_lengthOf, List.forall_mem_cons.mpr ⟨ok_Gr_kindOf, List.forall_mem_cons.mpr ⟨ok_Pk_leadOf, List.forall_mem_cons.mpr ⟨ok_Pl_leadOf, fun _ h => absurd h List.not_mem_nil⟩⟩⟩⟩⟩⟩⟩⟩⟩⟩
set_option maxRecDepth 100000 in
theorem tp_cso_4 : (tp_csT 4).all (tp_csq 4) = true := by decide +kernel
theorem tp_csg_4 : ∀ e ∈ tp_csT 4, tp_good e.2.2.2 = true := List.forall_mem_cons.mpr ⟨ok_Tp_isToken, fun _ h => absurd h List.not_mem_nil⟩
set_option maxRecDepth 100000 in
theorem tp_cvo_5 : (tp_cvT 5).all (tp_cvq 5) = true := by decide +kernel
theorem tp_cvg_5 : ∀ e ∈ tp_cvT 5, tp_good e.2.2.2.2 = true := List.forall_mem_cons.mpr ⟨ok_St_size, List.forall_mem_cons.mpr ⟨ok_St_holds, List.forall_mem_cons.mpr ⟨ok_Gr_rules, List.forall_mem_cons.mpr ⟨ok_Gr_lengthOf, List.forall_mem_cons.mpr ⟨ok_La_setOf, List.forall_mem_cons.mpr ⟨ok_Pl_addReduction, List.forall_mem_cons.mpr ⟨ok_Pl_leadAt, fun _ h => absurd h List.not_mem_nil⟩⟩⟩⟩⟩⟩⟩
set_option maxRecDepth 100000 in
theorem tp_cso_5 : (tp_csT 5).all (tp_csq 5) = true := by decide +kernel
theorem tp_csg_5 : ∀ e ∈ tp_csT 5, tp_good e.2.2.2 = true := List.forall_mem_cons.mpr ⟨ok_JA_fillI, fun _ h => absurd h List.not_mem_nil⟩
set_option maxRecDepth 100000 in
theorem tp_cvo_6 : (tp_cvT 6).all (tp_cvq 6) = true := by decide +kernel
theorem tp_cvg_6 : ∀ e ∈ tp_cvT 6, tp_good e.2.2.2.2 = true := List.forall_mem_cons.mpr ⟨ok_St_markItems, List.forall_mem_cons.mpr ⟨ok_St_bringRules, List.forall_mem_cons.mpr ⟨ok_Pl_forgetMoves, List.forall_mem_cons.mpr ⟨ok_St_complete, List.forall_mem_cons.mpr ⟨ok_St_numberOfCandidate, List.forall_mem_cons.mpr ⟨ok_St_leadOn, List.forall_mem_cons.mpr ⟨ok_Gr_columnAt, List.forall_mem_cons.mpr ⟨ok_Gr_rules, List.forall_mem_cons.mpr ⟨ok_Gr_kindOf, List.forall_mem_cons.mpr ⟨ok_Gr_lengthOf, List.forall_mem_cons.mpr ⟨ok_St_bringAlong, List.forall_mem_cons.mpr ⟨ok_St_step, List.forall_mem_cons.mpr ⟨ok_Pl_addLead, List.forall_mem_cons.mpr ⟨ok_St_candidateStandsBefore, List.forall_mem_cons.mpr ⟨ok_St_isCandidate, fun _ h => absurd h List.not_mem_nil⟩⟩⟩⟩⟩⟩⟩⟩⟩⟩⟩⟩⟩⟩⟩
set_option maxRecDepth 100000 in
theorem tp_cso_6 : (tp_csT 6).all (tp_csq 6) = true := by decide +kernel
theorem tp_csg_6 : ∀ e ∈ tp_csT 6, tp_good e.2.2.2 = true := List.forall_mem_cons.mpr ⟨ok_JA_fillL, List.forall_mem_cons.mpr ⟨ok_St_mark, List.forall_mem_cons.mpr ⟨ok_JL_bitCount, fun _ h => absurd h List.not_mem_nil⟩⟩⟩
set_option maxRecDepth 100000 in
theorem tp_cvo_7 : (tp_cvT 7).all (tp_cvq 7) = true := by decide +kernel
theorem tp_cvg_7 : ∀ e ∈ tp_cvT 7, tp_good e.2.2.2.2 = true := List.forall_mem_cons.mpr ⟨ok_Gr_openRule, List.forall_mem_cons.mpr ⟨ok_Gr_extendRule, List.forall_mem_cons.mpr ⟨ok_Gr_closeRule, List.forall_mem_cons.mpr ⟨ok_Gr_forgetRules, List.forall_mem_cons.mpr ⟨ok_Ps_addToken, List.forall_mem_cons.mpr ⟨ok_Ps_forgetTokens, List.forall_mem_cons.mpr ⟨ok_Tp_refresh, List.forall_mem_cons.mpr ⟨ok_Gr_rules, List.forall_mem_cons.mpr ⟨ok_Ps_tokens, List.forall_mem_cons.mpr ⟨ok_Op_emptyKinds, List.forall_mem_cons.mpr ⟨ok_Tp_countOfTables, List.forall_mem_cons.mpr ⟨ok_Op_ofKind, List.forall_mem_cons.mpr ⟨ok_St_tooLarge, List.forall_mem_cons.mpr ⟨ok_St_isState, List.forall_mem_cons.mpr ⟨ok_St_itemsOf, List.forall_mem_cons.mpr ⟨ok_Pl_leadAt, List.forall_mem_cons.mpr ⟨ok_St_holds, List.forall_mem_cons.mpr ⟨ok_La_setOf, List.forall_mem_cons.mpr ⟨ok_Pl_moveOn, List.forall_mem_cons.mpr ⟨ok_Pk_defaultOf, List.forall_mem_cons.mpr ⟨ok_Pk_entriesOf, List.forall_mem_cons.mpr ⟨ok_Pk_baseOf, List.forall_mem_cons.mpr ⟨ok_Pk_ownerAt, List.forall_mem_cons.mpr ⟨ok_Pk_entryAt, List.forall_mem_cons.mpr ⟨ok_Gr_hasRuleOf, List.forall_mem_cons.mpr ⟨ok_Ps_run, List.forall_mem_cons.mpr ⟨ok_Ps_reductions, List.forall_mem_cons.mpr ⟨ok_Ps_endedAt, List.forall_mem_cons.mpr ⟨ok_Ps_pileHeight, List.forall_mem_cons.mpr ⟨ok_Ps_reducedBy, List.forall_mem_cons.mpr ⟨ok_Pk_isSound, List.forall_mem_cons.mpr ⟨ok_St_size, List.forall_mem_cons.mpr ⟨ok_Pl_clashes, List.forall_mem_cons.mpr ⟨ok_Pk_entries, List.forall_mem_cons.mpr ⟨ok_Pk_length, List.forall_mem_cons.mpr ⟨ok_Op_find, List.forall_mem_cons.mpr ⟨ok_St_find, List.forall_mem_cons.mpr ⟨ok_La_find, List.forall_mem_cons.mpr ⟨ok_Pl_addReductions, List.forall_mem_cons.mpr ⟨ok_Pk_pack, fun _ h => absurd h List.not_mem_nil⟩⟩⟩⟩⟩⟩⟩⟩⟩⟩⟩⟩⟩⟩⟩⟩⟩⟩⟩⟩⟩⟩⟩⟩⟩⟩⟩⟩⟩⟩⟩⟩⟩⟩⟩⟩⟩⟩⟩⟩
set_option maxRecDepth 100000 in
theorem tp_cso_7 : (tp_csT 7).all (tp_csq 7) = true := by decide +kernel
theorem tp_csg_7 : ∀ e ∈ tp_csT 7, tp_good e.2.2.2 = true := List.forall_mem_cons.mpr ⟨ok_Tp_columnOf, List.forall_mem_cons.mpr ⟨ok_Tp_isKind, List.forall_mem_cons.mpr ⟨ok_Tp_itemOf, List.forall_mem_cons.mpr ⟨ok_Tp_isToken, List.forall_mem_cons.mpr ⟨ok_Tp_isKindRow, fun _ h => absurd h List.not_mem_nil⟩⟩⟩⟩⟩
set_option maxRecDepth 100000 in
theorem tp_cvo_8 : (tp_cvT 8).all (tp_cvq 8) = true := by decide +kernel
theorem tp_cvg_8 : ∀ e ∈ tp_cvT 8, tp_good e.2.2.2.2 = true := List.forall_mem_cons.mpr ⟨ok_Mo_closed, List.forall_mem_cons.mpr ⟨ok_Mo_isEmptyFrom, List.forall_mem_cons.mpr ⟨ok_Mo_firstFrom, List.forall_mem_cons.mpr ⟨ok_Mo_complete, List.forall_mem_cons.mpr ⟨ok_Mo_symbolAt, List.forall_mem_cons.mpr ⟨ok_Mo_stateOfNext, List.forall_mem_cons.mpr ⟨ok_Mo_lead, List.forall_mem_cons.mpr ⟨ok_Mo_addAhead, List.forall_mem_cons.mpr ⟨ok_Mo_spread, List.forall_mem_cons.mpr ⟨ok_Mo_whole, List.forall_mem_cons.mpr ⟨ok_Mo_defaultValue, List.forall_mem_cons.mpr ⟨ok_Mo_widthOf, List.forall_mem_cons.mpr ⟨ok_Mo_entry, List.forall_mem_cons.mpr ⟨ok_Mo_isRow, List.forall_mem_cons.mpr ⟨ok_Mo_findDefault, List.forall_mem_cons.mpr ⟨ok_Mo_lay, List.forall_mem_cons.mpr ⟨ok_Mo_findFirsts, List.forall_mem_cons.mpr ⟨ok_Mo_makeStates, List.forall_mem_cons.mpr ⟨ok_Mo_findAhead, List.forall_mem_cons.mpr ⟨ok_Mo_findActions, List.forall_mem_cons.mpr ⟨ok_Mo_pack, List.forall_mem_cons.mpr ⟨ok_Mo_know, List.forall_mem_cons.mpr ⟨ok_Mo_entries, List.forall_mem_cons.mpr ⟨ok_Mo_isState, List.forall_mem_cons.mpr ⟨ok_Mo_find, List.forall_mem_cons.mpr ⟨ok_Mo_reduce, fun _ h => absurd h List.not_mem_nil⟩⟩⟩⟩⟩⟩⟩⟩⟩⟩⟩⟩⟩⟩⟩⟩⟩⟩⟩⟩⟩⟩⟩⟩⟩⟩
set_option maxRecDepth 100000 in
theorem tp_cso_8 : (tp_csT 8).all (tp_csq 8) = true := by decide +kernel
theorem tp_csg_8 : ∀ e ∈ tp_csT 8, tp_good e.2.2.2 = true := List.forall_mem_cons.mpr ⟨ok_Mo_isKind, fun _ h => absurd h List.not_mem_nil⟩
theorem tp_cvT_q (o : Nat) : (tp_cvT o).all (tp_cvq o) = true := by
  match o with
  | 0 => simp [tp_cvT]
  | 1 => exact tp_cvo_1
  | 2 => exact tp_cvo_2
  | 3 => exact tp_cvo_3
  | 4 => exact tp_cvo_4
  | 5 => exact tp_cvo_5
  | 6 => exact tp_cvo_6
  | 7 => exact tp_cvo_7
  | 8 => exact tp_cvo_8
  | 9 => simp [tp_cvT]
  | 10 => simp [tp_cvT]
  | 11 => simp [tp_cvT]
  | n + 12 => simp [tp_cvT]
theorem tp_cvT_g (o : Nat) : ∀ e ∈ tp_cvT o, tp_good e.2.2.2.2 = true := by
  match o with
  | 0 => simp [tp_cvT]
  | 1 => exact tp_cvg_1
  | 2 => exact tp_cvg_2
  | 3 => exact tp_cvg_3
  | 4 => exact tp_cvg_4
  | 5 => exact tp_cvg_5
  | 6 => exact tp_cvg_6
  | 7 => exact tp_cvg_7
  | 8 => exact tp_cvg_8
  | 9 => simp [tp_cvT]
  | 10 => simp [tp_cvT]
  | 11 => simp [tp_cvT]
  | n + 12 => simp [tp_cvT]
theorem tp_csT_q (o : Nat) : (tp_csT o).all (tp_csq o) = true := by
  match o with
  | 0 => exact tp_cso_0
  | 1 => exact tp_cso_1
  | 2 => exact tp_cso_2
  | 3 => exact tp_cso_3
  | 4 => exact tp_cso_4
  | 5 => exact tp_cso_5
  | 6 => exact tp_cso_6
  | 7 => exact tp_cso_7
  | 8 => exact tp_cso_8
  | 9 => simp [tp_csT]
  | 10 => simp [tp_csT]
  | 11 => simp [tp_csT]
  | n + 12 => simp [tp_csT]
theorem tp_csT_g (o : Nat) : ∀ e ∈ tp_csT o, tp_good e.2.2.2 = true := by
  match o with
  | 0 => exact tp_csg_0
  | 1 => exact tp_csg_1
  | 2 => exact tp_csg_2
  | 3 => exact tp_csg_3
  | 4 => exact tp_csg_4
  | 5 => exact tp_csg_5
  | 6 => exact tp_csg_6
  | 7 => exact tp_csg_7
  | 8 => exact tp_csg_8
  | 9 => simp [tp_csT]
  | 10 => simp [tp_csT]
  | 11 => simp [tp_csT]
  | n + 12 => simp [tp_csT]
def tp_mx (o idx : Nat) : Bool := Nat.beq o 3 && Nat.beq idx 54
def tp_ac (o idx : Nat) : Bool := Nat.beq o 6 && Nat.beq idx 112
set_option maxRecDepth 100000 in
theorem tp_mx_q : (([.methodLink R_Pk 54 Lib.Math.max.name, .static Lib.Math.max.name, .initialized "java/lang/Math", .code Lib.Math.max.name Lib.Math.max.code 2 (some .int)] : List Cond).all tp_in4) = true := by decide +kernel
set_option maxRecDepth 100000 in
theorem tp_ac_q : (([.methodLink R_St 112 arraycopyName, .native arraycopyName, .static arraycopyName, .initialized "java/lang/System"] : List Cond).all tp_in4) = true := by decide +kernel
