set_option maxRecDepth 20000 in
theorem gL_law_X6_loadStandard : GoodIn lw_tbl (wsV RL 45 RX6 yX6_loadStandard wsX6_loadStandard) := goodIn_p _ [215, 176, 145, 219, 101, 39, 224, 201, 153, 156, 115] (by decide +kernel) (by decide +kernel)
set_option maxRecDepth 20000 in
theorem gL_law_X7_loadStandard : GoodIn lw_tbl (wsV RL 48 RX7 yX7_loadStandard wsX7_loadStandard) := goodIn_p _ [558, 531, 562, 566, 551, 505, 508] (by decide +kernel) (by decide +kernel)
set_option maxRecDepth 20000 in
theorem gL_law_X6_append : GoodIn lw_tbl (wsV RL 49 RX6 yX6_append wsX6_append) := goodIn_p _ [230, 101, 39, 201, 153, 156, 115] (by decide +kernel) (by decide +kernel)
set_option maxRecDepth 20000 in
theorem gL_law_X7_append : GoodIn lw_tbl (wsV RL 52 RX7 yX7_append wsX7_append) := goodIn_p _ [570, 501, 505, 508] (by decide +kernel) (by decide +kernel)
set_option maxRecDepth 20000 in
theorem gL_law_X6_removeLast : GoodIn lw_tbl (wsV RL 53 RX6 yX6_removeLast wsX6_removeLast) := goodIn_p _ [234, 101, 39, 201, 153, 156, 115, 238, 242] (by decide +kernel) (by decide +kernel)
set_option maxRecDepth 20000 in
theorem gL_law_X7_removeLast : GoodIn lw_tbl (wsV RL 56 RX7 yX7_removeLast wsX7_removeLast) := goodIn_p _ [574, 505, 508] (by decide +kernel) (by decide +kernel)
set_option maxRecDepth 20000 in
theorem gL_law_X6_clear : GoodIn lw_tbl (wsV RL 57 RX6 yX6_clear wsX6_clear) := goodIn_p _ [246, 101, 39, 201, 153, 156, 115] (by decide +kernel) (by decide +kernel)
set_option maxRecDepth 20000 in
theorem gL_law_X7_clear : GoodIn lw_tbl (wsV RL 60 RX7 yX7_clear wsX7_clear) := goodIn_p _ [578, 505, 508] (by decide +kernel) (by decide +kernel)
set_option maxRecDepth 20000 in
theorem gL_law_X6_reverse : GoodIn lw_tbl (wsV RL 61 RX6 yX6_reverse wsX6_reverse) := goodIn_p _ [250, 254, 101, 39, 201, 153, 156, 115] (by decide +kernel) (by decide +kernel)
set_option maxRecDepth 20000 in
theorem gL_law_X7_reverse : GoodIn lw_tbl (wsV RL 64 RX7 yX7_reverse wsX7_reverse) := goodIn_p _ [582, 586, 551, 505, 508] (by decide +kernel) (by decide +kernel)
set_option maxRecDepth 20000 in
theorem gL_law_X6_applyMorphism : GoodIn lw_tbl (wsV RL 65 RX6 yX6_applyMorphism wsX6_applyMorphism) := goodIn_p _ [258, 261, 275, 238, 242, 280, 284, 101, 39, 201, 153, 156, 115] (by decide +kernel) (by decide +kernel)
set_option maxRecDepth 20000 in
theorem gL_law_X7_applyMorphism : GoodIn lw_tbl (wsV RL 68 RX7 yX7_applyMorphism wsX7_applyMorphism) := goodIn_p _ [590, 501, 593, 566, 551, 505, 508] (by decide +kernel) (by decide +kernel)
set_option maxRecDepth 20000 in
theorem gL_law_X6_invertMorphism : GoodIn lw_tbl (wsV RL 69 RX6 yX6_invertMorphism wsX6_invertMorphism) := goodIn_p _ [290, 261, 294, 298, 302, 280, 242, 284, 101, 39, 201, 153, 156, 115] (by decide +kernel) (by decide +kernel)
set_option maxRecDepth 20000 in
theorem gL_law_X7_invertMorphism : GoodIn lw_tbl (wsV RL 72 RX7 yX7_invertMorphism wsX7_invertMorphism) := goodIn_p _ [597, 501, 593, 601, 566, 551, 505, 508] (by decide +kernel) (by decide +kernel)
set_option maxRecDepth 20000 in
theorem gL_law_X6_undo : GoodIn lw_tbl (wsV RL 73 RX6 yX6_undo wsX6_undo) := goodIn_p _ [307, 311] (by decide +kernel) (by decide +kernel)
set_option maxRecDepth 20000 in
theorem gL_law_X7_undo : GoodIn lw_tbl (wsV RL 76 RX7 yX7_undo wsX7_undo) := goodIn_p _ [605, 508] (by decide +kernel) (by decide +kernel)
