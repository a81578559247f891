set_option maxRecDepth 20000 in
theorem gL_law_X6_init : GoodIn lw_tbl (wsX6_init) := goodIn_p _ [36, 39, 44, 63, 80, 101, 115] (by decide +kernel) (by decide +kernel)
set_option maxRecDepth 20000 in
theorem gL_law_X7_init : GoodIn lw_tbl (wsX7_init) := goodIn_p _ [459, 39] (by decide +kernel) (by decide +kernel)
set_option maxRecDepth 20000 in
theorem gL_law_X6_setSlope : GoodIn lw_tbl (wsV RL 13 RX6 yX6_setSlope wsX6_setSlope) := goodIn_p _ [139, 142, 145, 80, 39, 149, 153, 156, 115] (by decide +kernel) (by decide +kernel)
set_option maxRecDepth 20000 in
theorem gL_law_X7_setSlope : GoodIn lw_tbl (wsV RL 17 RX7 yX7_setSlope wsX7_setSlope) := goodIn_p _ [498, 501, 505, 508, 511] (by decide +kernel) (by decide +kernel)
set_option maxRecDepth 20000 in
theorem gL_law_X6_setIntercept : GoodIn lw_tbl (wsV RL 18 RX6 yX6_setIntercept wsX6_setIntercept) := goodIn_p _ [160, 80, 39, 149, 153, 156, 115] (by decide +kernel) (by decide +kernel)
set_option maxRecDepth 20000 in
theorem gL_law_X7_setIntercept : GoodIn lw_tbl (wsV RL 22 RX7 yX7_setIntercept wsX7_setIntercept) := goodIn_p _ [515, 501, 505, 508] (by decide +kernel) (by decide +kernel)
set_option maxRecDepth 20000 in
theorem gL_law_X6_slopeNumerator : GoodIn lw_tbl (wsV RL 23 RX6 yX6_slopeNumerator wsX6_slopeNumerator) := goodIn_p _ [164] (by decide +kernel) (by decide +kernel)
set_option maxRecDepth 20000 in
theorem gL_law_X7_slopeNumerator : GoodIn lw_tbl (wsV RL 27 RX7 yX7_slopeNumerator wsX7_slopeNumerator) := goodIn_p _ [519] (by decide +kernel) (by decide +kernel)
set_option maxRecDepth 20000 in
theorem gL_law_X6_slopeDenominator : GoodIn lw_tbl (wsV RL 28 RX6 yX6_slopeDenominator wsX6_slopeDenominator) := goodIn_p _ [168] (by decide +kernel) (by decide +kernel)
set_option maxRecDepth 20000 in
theorem gL_law_X7_slopeDenominator : GoodIn lw_tbl (wsV RL 31 RX7 yX7_slopeDenominator wsX7_slopeDenominator) := goodIn_p _ [523] (by decide +kernel) (by decide +kernel)
set_option maxRecDepth 20000 in
theorem gL_law_X6_continuedFractionTerm : GoodIn lw_tbl (wsV RL 32 RX6 yX6_continuedFractionTerm wsX6_continuedFractionTerm) := goodIn_p _ [172, 176, 145] (by decide +kernel) (by decide +kernel)
set_option maxRecDepth 20000 in
theorem gL_law_X7_continuedFractionTerm : GoodIn lw_tbl (wsV RL 35 RX7 yX7_continuedFractionTerm wsX7_continuedFractionTerm) := goodIn_p _ [527, 531] (by decide +kernel) (by decide +kernel)
set_option maxRecDepth 20000 in
theorem gL_law_X6_mechanicalLetter : GoodIn lw_tbl (wsV RL 36 RX6 yX6_mechanicalLetter wsX6_mechanicalLetter) := goodIn_p _ [181, 186, 145] (by decide +kernel) (by decide +kernel)
set_option maxRecDepth 20000 in
theorem gL_law_X7_mechanicalLetter : GoodIn lw_tbl (wsV RL 40 RX7 yX7_mechanicalLetter wsX7_mechanicalLetter) := goodIn_p _ [535, 501, 540, 543] (by decide +kernel) (by decide +kernel)
set_option maxRecDepth 20000 in
theorem gL_law_X6_loadMechanical : GoodIn lw_tbl (wsV RL 41 RX6 yX6_loadMechanical wsX6_loadMechanical) := goodIn_p _ [190, 194, 186, 145, 101, 39, 201, 153, 156, 115, 205, 208] (by decide +kernel) (by decide +kernel)
set_option maxRecDepth 20000 in
theorem gL_law_X7_loadMechanical : GoodIn lw_tbl (wsV RL 44 RX7 yX7_loadMechanical wsX7_loadMechanical) := goodIn_p _ [547, 540, 543, 551, 505, 508, 554] (by decide +kernel) (by decide +kernel)
