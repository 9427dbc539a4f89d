set_option maxRecDepth 100000 in
theorem ok_Tp_begin : tp_good m_Tp_begin = true := by decide +kernel
set_option maxRecDepth 100000 in
theorem ok_Gr_openRule : tp_good m_Gr_openRule = true := by decide +kernel
set_option maxRecDepth 100000 in
theorem ok_Tp_isKind : tp_good m_Tp_isKind = true := by decide +kernel
set_option maxRecDepth 100000 in
theorem ok_Tp_put : tp_good m_Tp_put = true := by decide +kernel
set_option maxRecDepth 100000 in
theorem ok_Tp_columnOf : tp_good m_Tp_columnOf = true := by decide +kernel
set_option maxRecDepth 100000 in
theorem ok_Tp_isToken : tp_good m_Tp_isToken = true := by decide +kernel
set_option maxRecDepth 100000 in
theorem ok_Gr_extendRule : tp_good m_Gr_extendRule = true := by decide +kernel
set_option maxRecDepth 100000 in
theorem ok_Tp_close : tp_good m_Tp_close = true := by decide +kernel
set_option maxRecDepth 100000 in
theorem ok_Gr_closeRule : tp_good m_Gr_closeRule = true := by decide +kernel
set_option maxRecDepth 100000 in
theorem ok_Tp_clear : tp_good m_Tp_clear = true := by decide +kernel
set_option maxRecDepth 100000 in
theorem ok_Gr_forgetRules : tp_good m_Gr_forgetRules = true := by decide +kernel
set_option maxRecDepth 100000 in
theorem ok_Tp_token : tp_good m_Tp_token = true := by decide +kernel
set_option maxRecDepth 100000 in
theorem ok_Ps_addToken : tp_good m_Ps_addToken = true := by decide +kernel
set_option maxRecDepth 100000 in
theorem ok_Tp_drop : tp_good m_Tp_drop = true := by decide +kernel
set_option maxRecDepth 100000 in
theorem ok_Ps_forgetTokens : tp_good m_Ps_forgetTokens = true := by decide +kernel
set_option maxRecDepth 100000 in
theorem ok_Tp_count : tp_good m_Tp_count = true := by decide +kernel
set_option maxRecDepth 100000 in
theorem ok_Tp_refresh : tp_good m_Tp_refresh = true := by decide +kernel
set_option maxRecDepth 100000 in
theorem ok_Op_find : tp_good m_Op_find = true := by decide +kernel
set_option maxRecDepth 100000 in
theorem ok_JA_fillI : tp_good m_JA_fillI = true := by decide +kernel
set_option maxRecDepth 100000 in
theorem ok_Op_widenKinds : tp_good m_Op_widenKinds = true := by decide +kernel
set_option maxRecDepth 100000 in
theorem ok_Gr_rules : tp_good m_Gr_rules = true := by decide +kernel
set_option maxRecDepth 100000 in
theorem ok_Gr_kindOf : tp_good m_Gr_kindOf = true := by decide +kernel
set_option maxRecDepth 100000 in
theorem ok_Op_ofRow : tp_good m_Op_ofRow = true := by decide +kernel
set_option maxRecDepth 100000 in
theorem ok_Gr_lengthOf : tp_good m_Gr_lengthOf = true := by decide +kernel
set_option maxRecDepth 100000 in
theorem ok_Gr_columnAt : tp_good m_Gr_columnAt = true := by decide +kernel
set_option maxRecDepth 100000 in
theorem ok_Op_findRests : tp_good m_Op_findRests = true := by decide +kernel
set_option maxRecDepth 100000 in
theorem ok_St_find : tp_good m_St_find = true := by decide +kernel
set_option maxRecDepth 100000 in
theorem ok_St_markItems : tp_good m_St_markItems = true := by decide +kernel
set_option maxRecDepth 100000 in
theorem ok_JA_fillL : tp_good m_JA_fillL = true := by decide +kernel
set_option maxRecDepth 100000 in
theorem ok_St_mark : tp_good m_St_mark = true := by decide +kernel
set_option maxRecDepth 100000 in
theorem ok_St_bringRules : tp_good m_St_bringRules = true := by decide +kernel
set_option maxRecDepth 100000 in
theorem ok_St_bringAlong : tp_good m_St_bringAlong = true := by decide +kernel
set_option maxRecDepth 100000 in
theorem ok_Pl_forgetMoves : tp_good m_Pl_forgetMoves = true := by decide +kernel
set_option maxRecDepth 100000 in
theorem ok_St_complete : tp_good m_St_complete = true := by decide +kernel
set_option maxRecDepth 100000 in
theorem ok_St_candidateStandsBefore : tp_good m_St_candidateStandsBefore = true := by decide +kernel
set_option maxRecDepth 100000 in
theorem ok_St_numberOfCandidate : tp_good m_St_numberOfCandidate = true := by decide +kernel
set_option maxRecDepth 100000 in
theorem ok_St_isCandidate : tp_good m_St_isCandidate = true := by decide +kernel
set_option maxRecDepth 100000 in
theorem ok_St_leadOn : tp_good m_St_leadOn = true := by decide +kernel
set_option maxRecDepth 100000 in
theorem ok_St_step : tp_good m_St_step = true := by decide +kernel
set_option maxRecDepth 100000 in
theorem ok_Pl_addLead : tp_good m_Pl_addLead = true := by decide +kernel
set_option maxRecDepth 100000 in
theorem ok_St_tooLarge : tp_good m_St_tooLarge = true := by decide +kernel
set_option maxRecDepth 100000 in
theorem ok_La_find : tp_good m_La_find = true := by decide +kernel
set_option maxRecDepth 100000 in
theorem ok_St_size : tp_good m_St_size = true := by decide +kernel
set_option maxRecDepth 100000 in
theorem ok_La_join : tp_good m_La_join = true := by decide +kernel
set_option maxRecDepth 100000 in
theorem ok_La_spreadState : tp_good m_La_spreadState = true := by decide +kernel
set_option maxRecDepth 100000 in
theorem ok_St_holds : tp_good m_St_holds = true := by decide +kernel
set_option maxRecDepth 100000 in
theorem ok_La_spreadItem : tp_good m_La_spreadItem = true := by decide +kernel
set_option maxRecDepth 100000 in
theorem ok_La_setOf : tp_good m_La_setOf = true := by decide +kernel
set_option maxRecDepth 100000 in
theorem ok_Pl_leadAt : tp_good m_Pl_leadAt = true := by decide +kernel
set_option maxRecDepth 100000 in
theorem ok_Op_ofRest : tp_good m_Op_ofRest = true := by decide +kernel
set_option maxRecDepth 100000 in
theorem ok_La_joinRulesOf : tp_good m_La_joinRulesOf = true := by decide +kernel
set_option maxRecDepth 100000 in
theorem ok_Pl_addReductions : tp_good m_Pl_addReductions = true := by decide +kernel
set_option maxRecDepth 100000 in
theorem ok_Pl_addReduction : tp_good m_Pl_addReduction = true := by decide +kernel
set_option maxRecDepth 100000 in
theorem ok_Pk_pack : tp_good m_Pk_pack = true := by decide +kernel
set_option maxRecDepth 100000 in
theorem ok_Pk_mostCommon : tp_good m_Pk_mostCommon = true := by decide +kernel
set_option maxRecDepth 100000 in
theorem ok_Pk_widthOf : tp_good m_Pk_widthOf = true := by decide +kernel
set_option maxRecDepth 100000 in
theorem ok_Pk_isStateRow : tp_good m_Pk_isStateRow = true := by decide +kernel
set_option maxRecDepth 100000 in
theorem ok_Pk_choiceAt : tp_good m_Pk_choiceAt = true := by decide +kernel
set_option maxRecDepth 100000 in
theorem ok_Pl_moveOn : tp_good m_Pl_moveOn = true := by decide +kernel
set_option maxRecDepth 100000 in
theorem ok_Pk_findSpots : tp_good m_Pk_findSpots = true := by decide +kernel
set_option maxRecDepth 100000 in
theorem ok_Pk_entryOf : tp_good m_Pk_entryOf = true := by decide +kernel
set_option maxRecDepth 100000 in
theorem ok_Pk_moveByDefault : tp_good m_Pk_moveByDefault = true := by decide +kernel
set_option maxRecDepth 100000 in
theorem ok_Pk_seatRowsWith : tp_good m_Pk_seatRowsWith = true := by decide +kernel
set_option maxRecDepth 100000 in
theorem ok_Pk_leastBase : tp_good m_Pk_leastBase = true := by decide +kernel
set_option maxRecDepth 100000 in
theorem ok_Pk_allFree : tp_good m_Pk_allFree = true := by decide +kernel
set_option maxRecDepth 100000 in
theorem ok_Pk_seat : tp_good m_Pk_seat = true := by decide +kernel
set_option maxRecDepth 100000 in
theorem ok_Ps_tokens : tp_good m_Ps_tokens = true := by decide +kernel
set_option maxRecDepth 100000 in
theorem ok_Op_emptyKinds : tp_good m_Op_emptyKinds = true := by decide +kernel
set_option maxRecDepth 100000 in
theorem ok_Tp_countOfTables : tp_good m_Tp_countOfTables = true := by decide +kernel
set_option maxRecDepth 100000 in
theorem ok_Pl_clashes : tp_good m_Pl_clashes = true := by decide +kernel
set_option maxRecDepth 100000 in
theorem ok_Pk_entries : tp_good m_Pk_entries = true := by decide +kernel
set_option maxRecDepth 100000 in
theorem ok_Pk_length : tp_good m_Pk_length = true := by decide +kernel
set_option maxRecDepth 100000 in
theorem ok_Tp_first : tp_good m_Tp_first = true := by decide +kernel
set_option maxRecDepth 100000 in
theorem ok_Op_ofKind : tp_good m_Op_ofKind = true := by decide +kernel
set_option maxRecDepth 100000 in
theorem ok_Tp_state : tp_good m_Tp_state = true := by decide +kernel
set_option maxRecDepth 100000 in
theorem ok_St_isState : tp_good m_St_isState = true := by decide +kernel
set_option maxRecDepth 100000 in
theorem ok_St_itemsOf : tp_good m_St_itemsOf = true := by decide +kernel
set_option maxRecDepth 100000 in
theorem ok_JL_bitCount : tp_good m_JL_bitCount = true := by decide +kernel
set_option maxRecDepth 100000 in
theorem ok_Tp_ahead : tp_good m_Tp_ahead = true := by decide +kernel
set_option maxRecDepth 100000 in
theorem ok_Tp_itemOf : tp_good m_Tp_itemOf = true := by decide +kernel
set_option maxRecDepth 100000 in
theorem ok_Tp_comes : tp_good m_Tp_comes = true := by decide +kernel
set_option maxRecDepth 100000 in
theorem ok_Tp_row : tp_good m_Tp_row = true := by decide +kernel
set_option maxRecDepth 100000 in
theorem ok_Tp_isKindRow : tp_good m_Tp_isKindRow = true := by decide +kernel
set_option maxRecDepth 100000 in
theorem ok_Pk_defaultOf : tp_good m_Pk_defaultOf = true := by decide +kernel
set_option maxRecDepth 100000 in
theorem ok_Pk_entriesOf : tp_good m_Pk_entriesOf = true := by decide +kernel
set_option maxRecDepth 100000 in
theorem ok_Pk_baseOf : tp_good m_Pk_baseOf = true := by decide +kernel
set_option maxRecDepth 100000 in
theorem ok_Tp_place : tp_good m_Tp_place = true := by decide +kernel
set_option maxRecDepth 100000 in
theorem ok_Pk_ownerAt : tp_good m_Pk_ownerAt = true := by decide +kernel
set_option maxRecDepth 100000 in
theorem ok_Pk_isOwned : tp_good m_Pk_isOwned = true := by decide +kernel
set_option maxRecDepth 100000 in
theorem ok_Pk_entryAt : tp_good m_Pk_entryAt = true := by decide +kernel
set_option maxRecDepth 100000 in
theorem ok_Tp_parse : tp_good m_Tp_parse = true := by decide +kernel
set_option maxRecDepth 100000 in
theorem ok_Gr_hasRuleOf : tp_good m_Gr_hasRuleOf = true := by decide +kernel
set_option maxRecDepth 100000 in
theorem ok_Ps_run : tp_good m_Ps_run = true := by decide +kernel
set_option maxRecDepth 100000 in
theorem ok_Ps_nextToken : tp_good m_Ps_nextToken = true := by decide +kernel
set_option maxRecDepth 100000 in
theorem ok_Pk_moveOn : tp_good m_Pk_moveOn = true := by decide +kernel
set_option maxRecDepth 100000 in
theorem ok_Pk_lookUp : tp_good m_Pk_lookUp = true := by decide +kernel
set_option maxRecDepth 100000 in
theorem ok_Ps_go : tp_good m_Ps_go = true := by decide +kernel
set_option maxRecDepth 100000 in
theorem ok_Ps_reduce : tp_good m_Ps_reduce = true := by decide +kernel
set_option maxRecDepth 100000 in
theorem ok_Pk_leadOf : tp_good m_Pk_leadOf = true := by decide +kernel
set_option maxRecDepth 100000 in
theorem ok_Pl_leadOf : tp_good m_Pl_leadOf = true := by decide +kernel
set_option maxRecDepth 100000 in
theorem ok_Ps_putOn : tp_good m_Ps_putOn = true := by decide +kernel
set_option maxRecDepth 100000 in
theorem ok_Tp_parsed : tp_good m_Tp_parsed = true := by decide +kernel
set_option maxRecDepth 100000 in
theorem ok_Ps_reductions : tp_good m_Ps_reductions = true := by decide +kernel
set_option maxRecDepth 100000 in
theorem ok_Ps_endedAt : tp_good m_Ps_endedAt = true := by decide +kernel
set_option maxRecDepth 100000 in
theorem ok_Ps_pileHeight : tp_good m_Ps_pileHeight = true := by decide +kernel
set_option maxRecDepth 100000 in
theorem ok_Tp_reduction : tp_good m_Tp_reduction = true := by decide +kernel
set_option maxRecDepth 100000 in
theorem ok_Ps_reducedBy : tp_good m_Ps_reducedBy = true := by decide +kernel
set_option maxRecDepth 100000 in
theorem ok_Tp_check : tp_good m_Tp_check = true := by decide +kernel
set_option maxRecDepth 100000 in
theorem ok_Pk_isSound : tp_good m_Pk_isSound = true := by decide +kernel
set_option maxRecDepth 100000 in
theorem ok_Mo_begin : tp_good m_Mo_begin = true := by decide +kernel
set_option maxRecDepth 100000 in
theorem ok_Mo_put : tp_good m_Mo_put = true := by decide +kernel
set_option maxRecDepth 100000 in
theorem ok_Mo_close : tp_good m_Mo_close = true := by decide +kernel
set_option maxRecDepth 100000 in
theorem ok_Mo_clear : tp_good m_Mo_clear = true := by decide +kernel
set_option maxRecDepth 100000 in
theorem ok_Mo_token : tp_good m_Mo_token = true := by decide +kernel
set_option maxRecDepth 100000 in
theorem ok_Mo_drop : tp_good m_Mo_drop = true := by decide +kernel
set_option maxRecDepth 100000 in
theorem ok_Mo_count : tp_good m_Mo_count = true := by decide +kernel
set_option maxRecDepth 100000 in
theorem ok_Mo_know : tp_good m_Mo_know = true := by decide +kernel
set_option maxRecDepth 100000 in
theorem ok_Mo_findFirsts : tp_good m_Mo_findFirsts = true := by decide +kernel
set_option maxRecDepth 100000 in
theorem ok_Mo_closed : tp_good m_Mo_closed = true := by decide +kernel
set_option maxRecDepth 100000 in
theorem ok_Mo_isEmptyFrom : tp_good m_Mo_isEmptyFrom = true := by decide +kernel
set_option maxRecDepth 100000 in
theorem ok_Mo_isKind : tp_good m_Mo_isKind = true := by decide +kernel
set_option maxRecDepth 100000 in
theorem ok_Mo_firstFrom : tp_good m_Mo_firstFrom = true := by decide +kernel
set_option maxRecDepth 100000 in
theorem ok_Mo_makeStates : tp_good m_Mo_makeStates = true := by decide +kernel
set_option maxRecDepth 100000 in
theorem ok_Mo_stateOfNext : tp_good m_Mo_stateOfNext = true := by decide +kernel
set_option maxRecDepth 100000 in
theorem ok_Mo_complete : tp_good m_Mo_complete = true := by decide +kernel
set_option maxRecDepth 100000 in
theorem ok_Mo_symbolAt : tp_good m_Mo_symbolAt = true := by decide +kernel
set_option maxRecDepth 100000 in
theorem ok_Mo_lead : tp_good m_Mo_lead = true := by decide +kernel
set_option maxRecDepth 100000 in
theorem ok_Mo_findAhead : tp_good m_Mo_findAhead = true := by decide +kernel
set_option maxRecDepth 100000 in
theorem ok_Mo_spread : tp_good m_Mo_spread = true := by decide +kernel
set_option maxRecDepth 100000 in
theorem ok_Mo_addAhead : tp_good m_Mo_addAhead = true := by decide +kernel
set_option maxRecDepth 100000 in
theorem ok_Mo_findActions : tp_good m_Mo_findActions = true := by decide +kernel
set_option maxRecDepth 100000 in
theorem ok_Mo_pack : tp_good m_Mo_pack = true := by decide +kernel
set_option maxRecDepth 100000 in
theorem ok_Mo_isRow : tp_good m_Mo_isRow = true := by decide +kernel
set_option maxRecDepth 100000 in
theorem ok_Mo_findDefault : tp_good m_Mo_findDefault = true := by decide +kernel
set_option maxRecDepth 100000 in
theorem ok_Mo_widthOf : tp_good m_Mo_widthOf = true := by decide +kernel
set_option maxRecDepth 100000 in
theorem ok_Mo_whole : tp_good m_Mo_whole = true := by decide +kernel
set_option maxRecDepth 100000 in
theorem ok_Mo_entry : tp_good m_Mo_entry = true := by decide +kernel
set_option maxRecDepth 100000 in
theorem ok_Mo_defaultValue : tp_good m_Mo_defaultValue = true := by decide +kernel
set_option maxRecDepth 100000 in
theorem ok_Mo_lay : tp_good m_Mo_lay = true := by decide +kernel
set_option maxRecDepth 100000 in
theorem ok_Mo_entries : tp_good m_Mo_entries = true := by decide +kernel
set_option maxRecDepth 100000 in
theorem ok_Mo_first : tp_good m_Mo_first = true := by decide +kernel
set_option maxRecDepth 100000 in
theorem ok_Mo_state : tp_good m_Mo_state = true := by decide +kernel
set_option maxRecDepth 100000 in
theorem ok_Mo_isState : tp_good m_Mo_isState = true := by decide +kernel
set_option maxRecDepth 100000 in
theorem ok_Mo_ahead : tp_good m_Mo_ahead = true := by decide +kernel
set_option maxRecDepth 100000 in
theorem ok_Mo_comes : tp_good m_Mo_comes = true := by decide +kernel
set_option maxRecDepth 100000 in
theorem ok_Mo_row : tp_good m_Mo_row = true := by decide +kernel
set_option maxRecDepth 100000 in
theorem ok_Mo_place : tp_good m_Mo_place = true := by decide +kernel
set_option maxRecDepth 100000 in
theorem ok_Mo_parse : tp_good m_Mo_parse = true := by decide +kernel
set_option maxRecDepth 100000 in
theorem ok_Mo_find : tp_good m_Mo_find = true := by decide +kernel
set_option maxRecDepth 100000 in
theorem ok_Mo_reduce : tp_good m_Mo_reduce = true := by decide +kernel
set_option maxRecDepth 100000 in
theorem ok_Mo_parsed : tp_good m_Mo_parsed = true := by decide +kernel
set_option maxRecDepth 100000 in
theorem ok_Mo_reduction : tp_good m_Mo_reduction = true := by decide +kernel
set_option maxRecDepth 100000 in
theorem ok_Mo_check : tp_good m_Mo_check = true := by decide +kernel
