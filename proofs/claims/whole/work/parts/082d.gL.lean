set_option maxRecDepth 20000 in
theorem gL_law_X6_leastPeriod : GoodIn lw_tbl (wsV RL 109 RX6 yX6_leastPeriod wsX6_leastPeriod) := goodIn_p _ [383, 387, 242] (by decide +kernel) (by decide +kernel)
set_option maxRecDepth 20000 in
theorem gL_law_X7_leastPeriod : GoodIn lw_tbl (wsV RL 112 RX7 yX7_leastPeriod wsX7_leastPeriod) := goodIn_p _ [653, 657] (by decide +kernel) (by decide +kernel)
set_option maxRecDepth 20000 in
theorem gL_law_X6_isCentral : GoodIn lw_tbl (wsV RL 113 RX6 yX6_isCentral wsX6_isCentral) := goodIn_p _ [391, 387, 242, 142, 145] (by decide +kernel) (by decide +kernel)
set_option maxRecDepth 20000 in
theorem gL_law_X7_isCentral : GoodIn lw_tbl (wsV RL 116 RX7 yX7_isCentral wsX7_isCentral) := goodIn_p _ [661, 511, 657] (by decide +kernel) (by decide +kernel)
set_option maxRecDepth 20000 in
theorem gL_law_X6_simplestSlope : GoodIn lw_tbl (wsV RL 117 RX6 yX6_simplestSlope wsX6_simplestSlope) := goodIn_p _ [395, 399, 403, 361, 156, 238, 242, 142, 145, 80, 39] (by decide +kernel) (by decide +kernel)
set_option maxRecDepth 20000 in
theorem gL_law_X7_simplestSlope : GoodIn lw_tbl (wsV RL 120 RX7 yX7_simplestSlope wsX7_simplestSlope) := goodIn_p _ [665, 501, 669, 511, 673] (by decide +kernel) (by decide +kernel)
set_option maxRecDepth 20000 in
theorem gL_law_X6_gapSizeCount : GoodIn lw_tbl (wsV RL 121 RX6 yX6_gapSizeCount wsX6_gapSizeCount) := goodIn_p _ [411, 415, 419, 422, 426, 430, 434] (by decide +kernel) (by decide +kernel)
set_option maxRecDepth 20000 in
theorem gL_law_X7_gapSizeCount : GoodIn lw_tbl (wsV RL 124 RX7 yX7_gapSizeCount wsX7_gapSizeCount) := goodIn_p _ [677, 501, 681, 685, 689] (by decide +kernel) (by decide +kernel)
set_option maxRecDepth 20000 in
theorem gL_law_X6_gapSize : GoodIn lw_tbl (wsV RL 125 RX6 yX6_gapSize wsX6_gapSize) := goodIn_p _ [438, 415, 419, 422, 426, 430, 442] (by decide +kernel) (by decide +kernel)
set_option maxRecDepth 20000 in
theorem gL_law_X7_gapSize : GoodIn lw_tbl (wsV RL 128 RX7 yX7_gapSize wsX7_gapSize) := goodIn_p _ [693, 501, 681, 685, 689] (by decide +kernel) (by decide +kernel)
set_option maxRecDepth 20000 in
theorem gL_law_X6_gapsOfSize : GoodIn lw_tbl (wsV RL 129 RX6 yX6_gapsOfSize wsX6_gapsOfSize) := goodIn_p _ [446, 415, 419, 422, 426, 430, 450] (by decide +kernel) (by decide +kernel)
set_option maxRecDepth 20000 in
theorem gL_law_X7_gapsOfSize : GoodIn lw_tbl (wsV RL 132 RX7 yX7_gapsOfSize wsX7_gapsOfSize) := goodIn_p _ [697, 501, 685, 689] (by decide +kernel) (by decide +kernel)
set_option maxRecDepth 20000 in
theorem gL_law_X6_historySize : GoodIn lw_tbl (wsV RL 133 RX6 yX6_historySize wsX6_historySize) := goodIn_p _ [454] (by decide +kernel) (by decide +kernel)
set_option maxRecDepth 20000 in
theorem gL_law_X7_historySize : GoodIn lw_tbl (wsV RL 136 RX7 yX7_historySize wsX7_historySize) := goodIn_p _ [701] (by decide +kernel) (by decide +kernel)
