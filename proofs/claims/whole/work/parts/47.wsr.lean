def wsX11_runner : List Cond := .code yX11_runner cX11_runner 4 (some .int) :: ((wsX11_runner_r1 ++ wsX11_runner_r2) ++ wsX110 ++ wsX70 ++ wsX60 ++ (nx_atS RX11 135 "java/util/NoSuchElementException" "java/lang/RuntimeException" 13 prog_27_method_4_code ["java/lang/Exception"]).filter goodWord)
set_option maxRecDepth 20000 in
theorem ggX11_runner_X6_at : GoodIn wsX11_runner wsX6_at := goodIn_r _ [13, 14, 15, 54, 55] (by decide +kernel) (by decide +kernel)
set_option maxRecDepth 20000 in
theorem gX11_runner_X6_at : GoodIn wsX11_runner (wsV RX11 127 RX6 yX6_at wsX6_at) := goodIn_app (goodIn_of _ (by decide +kernel)) ggX11_runner_X6_at
set_option maxRecDepth 20000 in
theorem ggX11_runner_X7_place : GoodIn wsX11_runner wsX7_place := goodIn_r _ [20, 21, 22, 39, 40, 41, 42, 43, 44, 45, 46, 47, 48, 49, 50, 51, 52, 53] (by decide +kernel) (by decide +kernel)
set_option maxRecDepth 20000 in
theorem gX11_runner_X7_place : GoodIn wsX11_runner (wsV RX11 138 RX7 yX7_place wsX7_place) := goodIn_app (goodIn_of _ (by decide +kernel)) ggX11_runner_X7_place
set_option maxRecDepth 20000 in
theorem ggX11_runner_J13_bitCount_95d88 : GoodIn wsX11_runner wsJ13_bitCount_95d88 := goodIn_r _ [26, 27, 28, 29] (by decide +kernel) (by decide +kernel)
set_option maxRecDepth 20000 in
theorem gX11_runner_J13_bitCount_95d88 : GoodIn wsX11_runner (va_wsS RX11 155 yJ13_bitCount_95d88 wsJ13_bitCount_95d88) := goodIn_app (goodIn_of _ (by decide +kernel)) ggX11_runner_J13_bitCount_95d88
