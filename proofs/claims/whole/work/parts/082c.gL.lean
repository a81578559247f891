set_option maxRecDepth 20000 in
theorem gL_law_X6_length : GoodIn lw_tbl (wsV RL 77 RX6 yX6_length wsX6_length) := goodIn_p _ [315] (by decide +kernel) (by decide +kernel)
set_option maxRecDepth 20000 in
theorem gL_law_X7_length : GoodIn lw_tbl (wsV RL 80 RX7 yX7_length wsX7_length) := goodIn_p _ [609] (by decide +kernel) (by decide +kernel)
set_option maxRecDepth 20000 in
theorem gL_law_X6_weight : GoodIn lw_tbl (wsV RL 81 RX6 yX6_weight wsX6_weight) := goodIn_p _ [319, 205, 208] (by decide +kernel) (by decide +kernel)
set_option maxRecDepth 20000 in
theorem gL_law_X7_weight : GoodIn lw_tbl (wsV RL 84 RX7 yX7_weight wsX7_weight) := goodIn_p _ [613, 554] (by decide +kernel) (by decide +kernel)
set_option maxRecDepth 20000 in
theorem gL_law_X6_letterAt : GoodIn lw_tbl (wsV RL 85 RX6 yX6_letterAt wsX6_letterAt) := goodIn_p _ [323, 238, 242] (by decide +kernel) (by decide +kernel)
set_option maxRecDepth 20000 in
theorem gL_law_X7_letterAt : GoodIn lw_tbl (wsV RL 88 RX7 yX7_letterAt wsX7_letterAt) := goodIn_p _ [617] (by decide +kernel) (by decide +kernel)
set_option maxRecDepth 20000 in
theorem gL_law_X6_factorCount : GoodIn lw_tbl (wsV RL 89 RX6 yX6_factorCount wsX6_factorCount) := goodIn_p _ [327, 331, 335, 242] (by decide +kernel) (by decide +kernel)
set_option maxRecDepth 20000 in
theorem gL_law_X7_factorCount : GoodIn lw_tbl (wsV RL 92 RX7 yX7_factorCount wsX7_factorCount) := goodIn_p _ [621, 625, 629] (by decide +kernel) (by decide +kernel)
set_option maxRecDepth 20000 in
theorem gL_law_X6_factorAt : GoodIn lw_tbl (wsV RL 93 RX6 yX6_factorAt wsX6_factorAt) := goodIn_p _ [339, 343, 348, 242] (by decide +kernel) (by decide +kernel)
set_option maxRecDepth 20000 in
theorem gL_law_X7_factorAt : GoodIn lw_tbl (wsV RL 96 RX7 yX7_factorAt wsX7_factorAt) := goodIn_p _ [633, 501, 625, 629, 637] (by decide +kernel) (by decide +kernel)
set_option maxRecDepth 20000 in
theorem gL_law_X6_unbalancedLength : GoodIn lw_tbl (wsV RL 97 RX6 yX6_unbalancedLength wsX6_unbalancedLength) := goodIn_p _ [353, 357, 156, 361, 242, 208] (by decide +kernel) (by decide +kernel)
set_option maxRecDepth 20000 in
theorem gL_law_X7_unbalancedLength : GoodIn lw_tbl (wsV RL 100 RX7 yX7_unbalancedLength wsX7_unbalancedLength) := goodIn_p _ [641] (by decide +kernel) (by decide +kernel)
set_option maxRecDepth 20000 in
theorem gL_law_X6_palindromeCount : GoodIn lw_tbl (wsV RL 101 RX6 yX6_palindromeCount wsX6_palindromeCount) := goodIn_p _ [365, 369, 254, 101, 39, 374, 242, 335] (by decide +kernel) (by decide +kernel)
set_option maxRecDepth 20000 in
theorem gL_law_X7_palindromeCount : GoodIn lw_tbl (wsV RL 104 RX7 yX7_palindromeCount wsX7_palindromeCount) := goodIn_p _ [645, 586, 625, 629] (by decide +kernel) (by decide +kernel)
set_option maxRecDepth 20000 in
theorem gL_law_X6_longestPalindromicPrefix : GoodIn lw_tbl (wsV RL 105 RX6 yX6_longestPalindromicPrefix wsX6_longestPalindromicPrefix) := goodIn_p _ [378, 254, 101, 39, 374, 242] (by decide +kernel) (by decide +kernel)
set_option maxRecDepth 20000 in
theorem gL_law_X7_longestPalindromicPrefix : GoodIn lw_tbl (wsV RL 108 RX7 yX7_longestPalindromicPrefix wsX7_longestPalindromicPrefix) := goodIn_p _ [649, 586] (by decide +kernel) (by decide +kernel)
