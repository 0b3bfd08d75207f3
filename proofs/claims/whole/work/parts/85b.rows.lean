def vsX3_told : List Cond := .code yX3_told cX3_told 4 (some .int) :: ((wsX3_told_r1 ++ wsX3_told_r2) ++ wsX20 ++ wsX30 ++ wsX10 ++ lNS.filter goodWord)
set_option maxRecDepth 20000 in
theorem ghX3_told_X3_pictureAt : GoodIn vsX3_told wsX3_pictureAt := goodIn_r _ [8, 9, 10, 39, 40, 41, 42, 43, 44, 45, 46, 47] (by decide +kernel) (by decide +kernel)
set_option maxRecDepth 20000 in
theorem hX3_told_X3_pictureAt : GoodIn vsX3_told (wsV RX3 54 RX3 yX3_pictureAt wsX3_pictureAt) := goodIn_app (goodIn_of _ (by decide +kernel)) ghX3_told_X3_pictureAt
set_option maxRecDepth 20000 in
theorem ghX3_told_X3_within : GoodIn vsX3_told wsX3_within := goodIn_r _ [13] (by decide +kernel) (by decide +kernel)
set_option maxRecDepth 20000 in
theorem hX3_told_X3_within : GoodIn vsX3_told (va_wsS RX3 39 yX3_within wsX3_within) := goodIn_app (goodIn_of _ (by decide +kernel)) ghX3_told_X3_within
set_option maxRecDepth 20000 in
theorem ghX3_told_X1_pageOf : GoodIn vsX3_told wsX1_pageOf := goodIn_r _ [18, 19, 20, 48, 49, 50, 51, 52, 53, 54, 55, 56, 57] (by decide +kernel) (by decide +kernel)
set_option maxRecDepth 20000 in
theorem hX3_told_X1_pageOf : GoodIn vsX3_told (wsV RX3 120 RX1 yX1_pageOf wsX1_pageOf) := goodIn_app (goodIn_of _ (by decide +kernel)) ghX3_told_X1_pageOf
set_option maxRecDepth 20000 in
theorem ghX3_told_X2_edge : GoodIn vsX3_told wsX2_edge := goodIn_r _ [25, 26, 27, 28, 29, 30, 31, 32, 33, 34, 35, 36, 37, 38] (by decide +kernel) (by decide +kernel)
set_option maxRecDepth 20000 in
theorem hX3_told_X2_edge : GoodIn vsX3_told (wsV RX3 124 RX2 yX2_edge wsX2_edge) := goodIn_app (goodIn_of _ (by decide +kernel)) ghX3_told_X2_edge
def vsL_told : List Cond := .codeWith yL_told cL_told 5 (some .int) [(0, 10, 13, 13)] :: ((wsL_told_r1 ++ wsL_told_r2) ++ wsX20 ++ wsX30 ++ wsX10 ++ lNS.filter goodWord)
def vsL_law : List Cond := wsL_law0 ++ lNS.filter goodWord
