set_option maxRecDepth 20000 in
theorem gk_X11_back_2 : GoodIn wsR wsX11_back_r1 := goodIn_r _ [34, 31, 32, 38, 935, 1659, 1660, 1661, 30, 1662, 90, 91, 1663, 452, 453, 454, 93, 94, 95, 96, 97, 98, 442, 443] (by decide +kernel) (by decide +kernel)
set_option maxRecDepth 20000 in
theorem gk_X11_back_3 : GoodIn wsR wsX11_back_r2 := goodIn_r _ [444, 445, 446, 1664, 1665, 439, 440, 441, 447, 448, 449, 18, 450, 65, 451, 66, 67, 68, 69, 70, 71, 72, 223, 224] (by decide +kernel) (by decide +kernel)
set_option maxRecDepth 20000 in
theorem gk_X11_back_4 : GoodIn wsR wsX11_back_r3 := goodIn_r _ [225, 226, 1666, 1285, 1286, 100, 1287, 945, 946, 947, 948, 949, 950, 951, 952, 954, 1288, 942, 943, 944, 953, 455, 456, 457] (by decide +kernel) (by decide +kernel)
set_option maxRecDepth 20000 in
theorem gk_X11_back_5 : GoodIn wsR wsX11_back_r4 := goodIn_r _ [37, 458, 112] (by decide +kernel) (by decide +kernel)
theorem ggL_law_X11_back : GoodIn wsR wsX11_back := goodIn_app gk_X11_back_1 (goodIn_app (goodIn_app (goodIn_app (goodIn_app (goodIn_app (goodIn_app (gk_X11_back_2) (goodIn_app (gk_X11_back_3) (goodIn_app (gk_X11_back_4) (gk_X11_back_5)))) (gc_X110)) (gc_X50)) (gc_X70)) (gc_X90)) (gc_X00))
theorem gL_law_X11_back : GoodIn wsR (wsV RL 143 RX11 yX11_back wsX11_back) := goodIn_app (goodIn_r _ [1671, 1672, 1673, 2] (by decide +kernel) (by decide +kernel)) ggL_law_X11_back
set_option maxRecDepth 20000 in
theorem gk_X12_back_1 : GoodIn wsR [Cond.code yX12_back cX12_back 3 (some .int)] := goodIn_r _ [1678] (by decide +kernel) (by decide +kernel)
set_option maxRecDepth 20000 in
theorem gk_X12_back_2 : GoodIn wsR ([Cond.constantLong RX12 345 (3), Cond.fieldLink RX12 80 "MondayMapsModel" "isMade" "[Z", Cond.fieldLink RX12 45 "MondayMapsModel" "said" "[I", Cond.fieldLink RX12 77 "MondayMapsModel" "images" "[I", Cond.methodLink RX12 122 yX12_in, Cond.static yX12_in, Cond.initialized RX12, Cond.code yX12_in cX12_in 6 (some .boolean)] : List Cond) := goodIn_r _ [842, 180, 169, 179, 529, 530, 5, 531] (by decide +kernel) (by decide +kernel)
theorem ggL_law_X12_back : GoodIn wsR wsX12_back := goodIn_app gk_X12_back_1 (goodIn_app (gk_X12_back_2) (gc_X120))
theorem gL_law_X12_back : GoodIn wsR (wsV RL 146 RX12 yX12_back wsX12_back) := goodIn_app (goodIn_r _ [1675, 1676, 1677, 5] (by decide +kernel) (by decide +kernel)) ggL_law_X12_back
