set_option maxRecDepth 20000 in
theorem gk_L_addNet_r1 : GoodIn wsL_law wsL_addNet_r1 := goodIn_r _ [102, 103, 104, 105, 106, 2, 107, 108, 109, 110, 111, 112, 113, 17, 114, 115, 116, 117, 118, 119, 120, 121, 16, 122] (by decide +kernel) (by decide +kernel)
set_option maxRecDepth 20000 in
theorem gk_L_addNet_r2 : GoodIn wsL_law wsL_addNet_r2 := goodIn_r _ [30, 31, 123, 124, 125, 29, 126, 127, 46, 128, 129, 130, 131, 21, 22] (by decide +kernel) (by decide +kernel)
set_option maxRecDepth 20000 in
theorem ggL_law_L_addNet : GoodIn wsL_law wsL_addNet := goodIn_ca (goodIn_ca (goodIn_ca (goodIn_c1 (goodIn_r _ [101] (by decide +kernel) (by decide +kernel)) (goodIn_app (goodIn_app (goodIn_app (goodIn_app (goodIn_app gk_L_addNet_r1 gk_L_addNet_r2) (goodIn_sub inlX5 (by decide +kernel))) (goodIn_sub inlX4 (by decide +kernel))) (goodIn_sub inlX0 (by decide +kernel))) (goodIn_sub inlX2 (by decide +kernel)))) (goodIn_sub (fun _ h => List.mem_append_left _ (List.mem_append_left _ (List.mem_append_left _ (List.mem_append_left _ (List.mem_append_left _ (List.mem_append_left _ (List.mem_append_left _ (List.mem_append_right _ h)))))))) (by decide +kernel))) (goodIn_sub (fun _ h => List.mem_append_left _ (List.mem_append_left _ (List.mem_append_left _ (List.mem_append_left _ (List.mem_append_left _ (List.mem_append_left _ (List.mem_append_right _ h))))))) (by decide +kernel))) (goodIn_sub (fun _ h => List.mem_append_left _ (List.mem_append_left _ (List.mem_append_left _ (List.mem_append_left _ (List.mem_append_left _ (List.mem_append_right _ h)))))) (by decide +kernel))
set_option maxRecDepth 20000 in
theorem gL_law_L_addNet : GoodIn wsL_law (va_wsS RL 144 yL_addNet wsL_addNet) := goodIn_app (goodIn_of _ (by decide +kernel)) ggL_law_L_addNet
set_option maxRecDepth 20000 in
theorem ggL_law_X6_addNet : GoodIn wsL_law wsX6_addNet := goodIn_ca (goodIn_r _ [135, 82, 136, 84, 137, 138, 5, 139, 1411, 1412, 1413, 1414, 1415, 1416, 1417, 1418, 1419, 1420, 1421, 1422, 1423, 1424, 1425, 1426, 1427, 1428, 1429] (by decide +kernel) (by decide +kernel)) (goodIn_sub (fun _ h => List.mem_append_left _ (List.mem_append_left _ (List.mem_append_left _ (List.mem_append_left _ (List.mem_append_left _ (List.mem_append_left _ (List.mem_append_left _ (List.mem_append_right _ h)))))))) (by decide +kernel))
set_option maxRecDepth 20000 in
theorem gL_law_X6_addNet : GoodIn wsL_law (wsV RL 149 RX6 yX6_addNet wsX6_addNet) := goodIn_app (goodIn_of _ (by decide +kernel)) ggL_law_X6_addNet
set_option maxRecDepth 20000 in
theorem ggL_law_X6_thrown : GoodIn wsL_law wsX6_thrown := goodIn_r _ [143, 136, 1411, 1412, 1413, 1414, 1415, 1416, 1417, 1418, 1419, 1420, 1421, 1422, 1423, 1424, 1425, 1426, 1427, 1428, 1429] (by decide +kernel) (by decide +kernel)
set_option maxRecDepth 20000 in
theorem gL_law_X6_thrown : GoodIn wsL_law (wsV RL 150 RX6 yX6_thrown wsX6_thrown) := goodIn_app (goodIn_of _ (by decide +kernel)) ggL_law_X6_thrown
set_option maxRecDepth 20000 in
theorem gk_L_setPort_r1 : GoodIn wsL_law wsL_setPort_r1 := goodIn_r _ [102, 147, 103, 148, 149, 150, 2, 151, 117, 118, 108, 109, 110, 111, 112, 113, 17, 114, 115, 116, 119, 120, 121, 16] (by decide +kernel) (by decide +kernel)
set_option maxRecDepth 20000 in
theorem gk_L_setPort_r2 : GoodIn wsL_law wsL_setPort_r2 := goodIn_r _ [122, 30, 31, 152, 153, 154, 155, 156, 157, 158, 159, 160, 29, 161, 127, 162, 163, 164, 165, 166, 167, 168, 169, 46] (by decide +kernel) (by decide +kernel)
set_option maxRecDepth 20000 in
theorem gk_L_setPort_r3 : GoodIn wsL_law wsL_setPort_r3 := goodIn_r _ [128, 129, 130, 131, 21, 22, 170, 171, 172, 173] (by decide +kernel) (by decide +kernel)
set_option maxRecDepth 20000 in
theorem ggL_law_L_setPort : GoodIn wsL_law wsL_setPort := goodIn_ca (goodIn_ca (goodIn_ca (goodIn_ca (goodIn_c1 (goodIn_r _ [146] (by decide +kernel) (by decide +kernel)) (goodIn_app (goodIn_app (goodIn_app (goodIn_app (goodIn_app gk_L_setPort_r1 (goodIn_app gk_L_setPort_r2 gk_L_setPort_r3)) (goodIn_sub inlX5 (by decide +kernel))) (goodIn_sub inlX4 (by decide +kernel))) (goodIn_sub inlX0 (by decide +kernel))) (goodIn_sub inlX2 (by decide +kernel)))) (goodIn_sub (fun _ h => List.mem_append_left _ (List.mem_append_left _ (List.mem_append_left _ (List.mem_append_left _ (List.mem_append_left _ (List.mem_append_left _ (List.mem_append_left _ (List.mem_append_right _ h)))))))) (by decide +kernel))) (goodIn_sub (fun _ h => List.mem_append_left _ (List.mem_append_left _ (List.mem_append_left _ (List.mem_append_left _ (List.mem_append_left _ (List.mem_append_right _ h)))))) (by decide +kernel))) (goodIn_sub (fun _ h => List.mem_append_left _ (List.mem_append_left _ (List.mem_append_left _ (List.mem_append_left _ (List.mem_append_left _ (List.mem_append_left _ (List.mem_append_right _ h))))))) (by decide +kernel))) (goodIn_sub (fun _ h => List.mem_append_left _ (List.mem_append_left _ (List.mem_append_left _ (List.mem_append_left _ (List.mem_append_right _ h))))) (by decide +kernel))
set_option maxRecDepth 20000 in
theorem gL_law_L_setPort : GoodIn wsL_law (va_wsS RL 154 yL_setPort wsL_setPort) := goodIn_app (goodIn_of _ (by decide +kernel)) ggL_law_L_setPort
set_option maxRecDepth 20000 in
theorem ggL_law_X6_setPort : GoodIn wsL_law wsX6_setPort := goodIn_ca (goodIn_r _ [177, 178, 179, 136, 82, 84, 180, 181, 5, 182, 137, 138, 139, 183, 184, 185, 186, 1411, 1412, 1413, 1414, 1415, 1416, 1417, 1418, 1419, 1420, 1421, 1422, 1423, 1424, 1425, 1426, 1427, 1428, 1429] (by decide +kernel) (by decide +kernel)) (goodIn_sub (fun _ h => List.mem_append_left _ (List.mem_append_left _ (List.mem_append_left _ (List.mem_append_left _ (List.mem_append_left _ (List.mem_append_left _ (List.mem_append_left _ (List.mem_append_right _ h)))))))) (by decide +kernel))
set_option maxRecDepth 20000 in
theorem gL_law_X6_setPort : GoodIn wsL_law (wsV RL 157 RX6 yX6_setPort wsX6_setPort) := goodIn_app (goodIn_of _ (by decide +kernel)) ggL_law_X6_setPort
set_option maxRecDepth 20000 in
theorem gk_L_addPart_r1 : GoodIn wsL_law wsL_addPart_r1 := goodIn_r _ [102, 147, 103, 190, 191, 192, 2, 193, 117, 118, 108, 109, 110, 111, 112, 113, 17, 114, 115, 116, 119, 120, 121, 16] (by decide +kernel) (by decide +kernel)
set_option maxRecDepth 20000 in
theorem gk_L_addPart_r2 : GoodIn wsL_law wsL_addPart_r2 := goodIn_r _ [122, 30, 31, 194, 195, 196, 197, 198, 199, 152, 153, 154, 155, 156, 157, 158, 159, 160, 29, 161, 127, 200, 201, 202] (by decide +kernel) (by decide +kernel)
set_option maxRecDepth 20000 in
theorem gk_L_addPart_r3 : GoodIn wsL_law wsL_addPart_r3 := goodIn_r _ [203, 204, 47, 49, 51, 128, 129, 130, 131, 21, 22] (by decide +kernel) (by decide +kernel)
set_option maxRecDepth 20000 in
theorem ggL_law_L_addPart : GoodIn wsL_law wsL_addPart := goodIn_ca (goodIn_ca (goodIn_ca (goodIn_ca (goodIn_c1 (goodIn_r _ [189] (by decide +kernel) (by decide +kernel)) (goodIn_app (goodIn_app (goodIn_app (goodIn_app (goodIn_app gk_L_addPart_r1 (goodIn_app gk_L_addPart_r2 gk_L_addPart_r3)) (goodIn_sub inlX5 (by decide +kernel))) (goodIn_sub inlX4 (by decide +kernel))) (goodIn_sub inlX0 (by decide +kernel))) (goodIn_sub inlX2 (by decide +kernel)))) (goodIn_sub (fun _ h => List.mem_append_left _ (List.mem_append_left _ (List.mem_append_left _ (List.mem_append_left _ (List.mem_append_left _ (List.mem_append_left _ (List.mem_append_left _ (List.mem_append_right _ h)))))))) (by decide +kernel))) (goodIn_sub (fun _ h => List.mem_append_left _ (List.mem_append_left _ (List.mem_append_left _ (List.mem_append_left _ (List.mem_append_left _ (List.mem_append_right _ h)))))) (by decide +kernel))) (goodIn_sub (fun _ h => List.mem_append_left _ (List.mem_append_left _ (List.mem_append_left _ (List.mem_append_left _ (List.mem_append_left _ (List.mem_append_left _ (List.mem_append_right _ h))))))) (by decide +kernel))) (goodIn_sub (fun _ h => List.mem_append_left _ (List.mem_append_left _ (List.mem_append_left _ (List.mem_append_left _ (List.mem_append_right _ h))))) (by decide +kernel))
set_option maxRecDepth 20000 in
theorem gL_law_L_addPart : GoodIn wsL_law (va_wsS RL 158 yL_addPart wsL_addPart) := goodIn_app (goodIn_of _ (by decide +kernel)) ggL_law_L_addPart
set_option maxRecDepth 20000 in
theorem ggL_law_X6_addPart : GoodIn wsL_law wsX6_addPart := goodIn_ca (goodIn_r _ [208, 209, 136, 83, 85, 86, 88, 137, 138, 5, 139, 180, 181, 182, 183, 184, 185, 186, 82, 210, 211, 212, 213, 89, 1411, 1412, 1413, 1414, 1415, 1416, 1417, 1418, 1419, 1420, 1421, 1422, 1423, 1424, 1425, 1426, 1427, 1428, 1429] (by decide +kernel) (by decide +kernel)) (goodIn_sub (fun _ h => List.mem_append_left _ (List.mem_append_left _ (List.mem_append_left _ (List.mem_append_left _ (List.mem_append_left _ (List.mem_append_left _ (List.mem_append_left _ (List.mem_append_right _ h)))))))) (by decide +kernel))
set_option maxRecDepth 20000 in
theorem gL_law_X6_addPart : GoodIn wsL_law (wsV RL 161 RX6 yX6_addPart wsX6_addPart) := goodIn_app (goodIn_of _ (by decide +kernel)) ggL_law_X6_addPart
set_option maxRecDepth 20000 in
theorem gk_L_removePart_r1 : GoodIn wsL_law wsL_removePart_r1 := goodIn_r _ [102, 147, 217, 218, 219, 2, 220, 110, 111, 112, 113, 17, 114, 115, 116, 117, 118, 119, 120, 121, 16, 122, 30, 31] (by decide +kernel) (by decide +kernel)
set_option maxRecDepth 20000 in
theorem gk_L_removePart_r2 : GoodIn wsL_law wsL_removePart_r2 := goodIn_r _ [221, 222, 223, 224, 156, 157, 225, 226, 227, 29, 228, 229, 230, 231, 232, 49, 128, 129, 130, 131, 21, 22, 233, 234] (by decide +kernel) (by decide +kernel)
set_option maxRecDepth 20000 in
theorem gk_L_removePart_r3 : GoodIn wsL_law wsL_removePart_r3 := goodIn_r _ [235, 236, 237, 238, 239, 240, 241, 242, 243, 244, 51, 245, 246, 247, 248, 249, 250, 251, 252] (by decide +kernel) (by decide +kernel)
set_option maxRecDepth 20000 in
theorem ggL_law_L_removePart : GoodIn wsL_law wsL_removePart := goodIn_ca (goodIn_ca (goodIn_ca (goodIn_c1 (goodIn_r _ [216] (by decide +kernel) (by decide +kernel)) (goodIn_app (goodIn_app (goodIn_app (goodIn_app (goodIn_app gk_L_removePart_r1 (goodIn_app gk_L_removePart_r2 gk_L_removePart_r3)) (goodIn_sub inlX5 (by decide +kernel))) (goodIn_sub inlX4 (by decide +kernel))) (goodIn_sub inlX0 (by decide +kernel))) (goodIn_sub inlX2 (by decide +kernel)))) (goodIn_sub (fun _ h => List.mem_append_left _ (List.mem_append_left _ (List.mem_append_left _ (List.mem_append_left _ (List.mem_append_left _ (List.mem_append_left _ (List.mem_append_left _ (List.mem_append_right _ h)))))))) (by decide +kernel))) (goodIn_sub (fun _ h => List.mem_append_left _ (List.mem_append_left _ (List.mem_append_left _ (List.mem_append_left _ (List.mem_append_left _ (List.mem_append_right _ h)))))) (by decide +kernel))) (goodIn_sub (fun _ h => List.mem_append_left _ (List.mem_append_left _ (List.mem_append_left _ (List.mem_append_left _ (List.mem_append_right _ h))))) (by decide +kernel))
set_option maxRecDepth 20000 in
theorem gL_law_L_removePart : GoodIn wsL_law (va_wsS RL 162 yL_removePart wsL_removePart) := goodIn_app (goodIn_of _ (by decide +kernel)) ggL_law_L_removePart
set_option maxRecDepth 20000 in
theorem ggL_law_X6_removePart : GoodIn wsL_law wsX6_removePart := goodIn_ca (goodIn_r _ [256, 88, 257, 258, 259, 5, 260, 136, 137, 138, 139, 261, 262, 263, 264, 83, 180, 181, 182, 265, 266, 267, 268, 1411, 1412, 1413, 1414, 1415, 1416, 1417, 1418, 1419, 1420, 1421, 1422, 1423, 1424, 1425, 1426, 1427, 1428, 1429] (by decide +kernel) (by decide +kernel)) (goodIn_sub (fun _ h => List.mem_append_left _ (List.mem_append_left _ (List.mem_append_left _ (List.mem_append_left _ (List.mem_append_left _ (List.mem_append_left _ (List.mem_append_left _ (List.mem_append_right _ h)))))))) (by decide +kernel))
set_option maxRecDepth 20000 in
theorem gL_law_X6_removePart : GoodIn wsL_law (wsV RL 165 RX6 yX6_removePart wsX6_removePart) := goodIn_app (goodIn_of _ (by decide +kernel)) ggL_law_X6_removePart
set_option maxRecDepth 20000 in
theorem gk_L_setValue_r1 : GoodIn wsL_law wsL_setValue_r1 := goodIn_r _ [102, 147, 272, 273, 274, 2, 275, 110, 111, 112, 113, 17, 114, 115, 116, 117, 118, 119, 120, 121, 16, 122, 30, 31] (by decide +kernel) (by decide +kernel)
set_option maxRecDepth 20000 in
theorem gk_L_setValue_r2 : GoodIn wsL_law wsL_setValue_r2 := goodIn_r _ [197, 198, 199, 221, 222, 223, 224, 156, 157, 225, 226, 227, 29, 228, 229, 230, 231, 232, 49, 128, 129, 130, 131, 21] (by decide +kernel) (by decide +kernel)
set_option maxRecDepth 20000 in
theorem gk_L_setValue_r3 : GoodIn wsL_law wsL_setValue_r3 := goodIn_r _ [22, 276, 238, 239, 240] (by decide +kernel) (by decide +kernel)
set_option maxRecDepth 20000 in
theorem ggL_law_L_setValue : GoodIn wsL_law wsL_setValue := goodIn_ca (goodIn_ca (goodIn_ca (goodIn_c1 (goodIn_r _ [271] (by decide +kernel) (by decide +kernel)) (goodIn_app (goodIn_app (goodIn_app (goodIn_app (goodIn_app gk_L_setValue_r1 (goodIn_app gk_L_setValue_r2 gk_L_setValue_r3)) (goodIn_sub inlX5 (by decide +kernel))) (goodIn_sub inlX4 (by decide +kernel))) (goodIn_sub inlX0 (by decide +kernel))) (goodIn_sub inlX2 (by decide +kernel)))) (goodIn_sub (fun _ h => List.mem_append_left _ (List.mem_append_left _ (List.mem_append_left _ (List.mem_append_left _ (List.mem_append_left _ (List.mem_append_left _ (List.mem_append_left _ (List.mem_append_right _ h)))))))) (by decide +kernel))) (goodIn_sub (fun _ h => List.mem_append_left _ (List.mem_append_left _ (List.mem_append_left _ (List.mem_append_left _ (List.mem_append_left _ (List.mem_append_right _ h)))))) (by decide +kernel))) (goodIn_sub (fun _ h => List.mem_append_left _ (List.mem_append_left _ (List.mem_append_left _ (List.mem_append_left _ (List.mem_append_right _ h))))) (by decide +kernel))
set_option maxRecDepth 20000 in
theorem gL_law_L_setValue : GoodIn wsL_law (va_wsS RL 166 yL_setValue wsL_setValue) := goodIn_app (goodIn_of _ (by decide +kernel)) ggL_law_L_setValue
set_option maxRecDepth 20000 in
theorem ggL_law_X6_setValue : GoodIn wsL_law wsX6_setValue := goodIn_ca (goodIn_r _ [280, 209, 136, 86, 137, 138, 5, 139, 180, 181, 182, 261, 262, 263, 264, 83, 88, 281, 282, 283, 284, 1411, 1412, 1413, 1414, 1415, 1416, 1417, 1418, 1419, 1420, 1421, 1422, 1423, 1424, 1425, 1426, 1427, 1428, 1429] (by decide +kernel) (by decide +kernel)) (goodIn_sub (fun _ h => List.mem_append_left _ (List.mem_append_left _ (List.mem_append_left _ (List.mem_append_left _ (List.mem_append_left _ (List.mem_append_left _ (List.mem_append_left _ (List.mem_append_right _ h)))))))) (by decide +kernel))
set_option maxRecDepth 20000 in
theorem gL_law_X6_setValue : GoodIn wsL_law (wsV RL 169 RX6 yX6_setValue wsX6_setValue) := goodIn_app (goodIn_of _ (by decide +kernel)) ggL_law_X6_setValue
set_option maxRecDepth 20000 in
theorem gk_L_rewire_r1 : GoodIn wsL_law wsL_rewire_r1 := goodIn_r _ [102, 147, 288, 289, 290, 291, 292, 2, 293, 294, 295, 110, 111, 112, 113, 17, 114, 115, 116, 117, 118, 119, 120, 121] (by decide +kernel) (by decide +kernel)
set_option maxRecDepth 20000 in
theorem gk_L_rewire_r2 : GoodIn wsL_law wsL_rewire_r2 := goodIn_r _ [16, 122, 30, 31, 221, 222, 223, 224, 156, 157, 225, 226, 227, 29, 228, 229, 230, 231, 232, 49, 296, 297, 298, 299] (by decide +kernel) (by decide +kernel)
set_option maxRecDepth 20000 in
theorem gk_L_rewire_r3 : GoodIn wsL_law wsL_rewire_r3 := goodIn_r _ [300, 301, 302, 246, 247, 248, 51, 158, 159, 160, 161, 127, 128, 129, 130, 131, 21, 22, 303, 242, 243, 244, 245] (by decide +kernel) (by decide +kernel)
set_option maxRecDepth 20000 in
theorem ggL_law_L_rewire : GoodIn wsL_law wsL_rewire := goodIn_ca (goodIn_ca (goodIn_ca (goodIn_ca (goodIn_ca (goodIn_c1 (goodIn_r _ [287] (by decide +kernel) (by decide +kernel)) (goodIn_app (goodIn_app (goodIn_app (goodIn_app (goodIn_app gk_L_rewire_r1 (goodIn_app gk_L_rewire_r2 gk_L_rewire_r3)) (goodIn_sub inlX5 (by decide +kernel))) (goodIn_sub inlX4 (by decide +kernel))) (goodIn_sub inlX0 (by decide +kernel))) (goodIn_sub inlX2 (by decide +kernel)))) (goodIn_sub (fun _ h => List.mem_append_left _ (List.mem_append_left _ (List.mem_append_left _ (List.mem_append_left _ (List.mem_append_left _ (List.mem_append_left _ (List.mem_append_left _ (List.mem_append_right _ h)))))))) (by decide +kernel))) (goodIn_sub (fun _ h => List.mem_append_left _ (List.mem_append_left _ (List.mem_append_left _ (List.mem_append_right _ h)))) (by decide +kernel))) (goodIn_sub (fun _ h => List.mem_append_left _ (List.mem_append_left _ (List.mem_append_left _ (List.mem_append_left _ (List.mem_append_left _ (List.mem_append_right _ h)))))) (by decide +kernel))) (goodIn_sub (fun _ h => List.mem_append_left _ (List.mem_append_left _ (List.mem_append_left _ (List.mem_append_left _ (List.mem_append_right _ h))))) (by decide +kernel))) (goodIn_sub (fun _ h => List.mem_append_left _ (List.mem_append_left _ (List.mem_append_right _ h))) (by decide +kernel))
set_option maxRecDepth 20000 in
theorem gL_law_L_rewire : GoodIn wsL_law (va_wsS RL 170 yL_rewire wsL_rewire) := goodIn_app (goodIn_of _ (by decide +kernel)) ggL_law_L_rewire
set_option maxRecDepth 20000 in
theorem gk_X6_rewire_r1 : GoodIn wsL_law wsX6_rewire_r1 := goodIn_r _ [136, 257, 258, 259, 5, 260, 137, 138, 139, 261, 262, 263, 264, 83, 88, 180, 181, 182, 308, 309, 310, 311, 85, 312] (by decide +kernel) (by decide +kernel)
set_option maxRecDepth 20000 in
theorem gk_X6_rewire_r2 : GoodIn wsL_law wsX6_rewire_r2 := goodIn_r _ [313, 314, 183, 184, 185, 186, 82, 315, 316, 317, 318, 89, 210, 211, 212, 213] (by decide +kernel) (by decide +kernel)
set_option maxRecDepth 20000 in
theorem ggL_law_X6_rewire : GoodIn wsL_law wsX6_rewire := goodIn_ca (goodIn_c1 (goodIn_r _ [307] (by decide +kernel) (by decide +kernel)) (goodIn_app (goodIn_app gk_X6_rewire_r1 gk_X6_rewire_r2) (goodIn_sub inlX6 (by decide +kernel)))) (goodIn_sub (fun _ h => List.mem_append_left _ (List.mem_append_left _ (List.mem_append_left _ (List.mem_append_left _ (List.mem_append_left _ (List.mem_append_left _ (List.mem_append_left _ (List.mem_append_right _ h)))))))) (by decide +kernel))
set_option maxRecDepth 20000 in
theorem gL_law_X6_rewire : GoodIn wsL_law (wsV RL 173 RX6 yX6_rewire wsX6_rewire) := goodIn_app (goodIn_of _ (by decide +kernel)) ggL_law_X6_rewire
set_option maxRecDepth 20000 in
theorem gk_L_swapPins_r1 : GoodIn wsL_law wsL_swapPins_r1 := goodIn_r _ [102, 147, 289, 322, 323, 324, 2, 325, 294, 295, 110, 111, 112, 113, 17, 114, 115, 116, 117, 118, 119, 120, 121, 16] (by decide +kernel) (by decide +kernel)
set_option maxRecDepth 20000 in
theorem gk_L_swapPins_r2 : GoodIn wsL_law wsL_swapPins_r2 := goodIn_r _ [122, 30, 31, 221, 222, 223, 224, 156, 157, 225, 226, 227, 29, 228, 229, 230, 231, 232, 49, 326, 327, 328, 329, 330] (by decide +kernel) (by decide +kernel)
set_option maxRecDepth 20000 in
theorem gk_L_swapPins_r3 : GoodIn wsL_law wsL_swapPins_r3 := goodIn_r _ [331, 332, 333, 47, 128, 129, 130, 131, 21, 22, 334, 335, 336, 337, 338, 245, 246, 247, 248, 51, 241, 242, 243, 244] (by decide +kernel) (by decide +kernel)
set_option maxRecDepth 20000 in
theorem ggL_law_L_swapPins : GoodIn wsL_law wsL_swapPins := goodIn_ca (goodIn_ca (goodIn_ca (goodIn_ca (goodIn_c1 (goodIn_r _ [321] (by decide +kernel) (by decide +kernel)) (goodIn_app (goodIn_app (goodIn_app (goodIn_app (goodIn_app gk_L_swapPins_r1 (goodIn_app gk_L_swapPins_r2 gk_L_swapPins_r3)) (goodIn_sub inlX5 (by decide +kernel))) (goodIn_sub inlX4 (by decide +kernel))) (goodIn_sub inlX0 (by decide +kernel))) (goodIn_sub inlX2 (by decide +kernel)))) (goodIn_sub (fun _ h => List.mem_append_left _ (List.mem_append_left _ (List.mem_append_left _ (List.mem_append_left _ (List.mem_append_left _ (List.mem_append_left _ (List.mem_append_left _ (List.mem_append_right _ h)))))))) (by decide +kernel))) (goodIn_sub (fun _ h => List.mem_append_left _ (List.mem_append_left _ (List.mem_append_left _ (List.mem_append_right _ h)))) (by decide +kernel))) (goodIn_sub (fun _ h => List.mem_append_left _ (List.mem_append_left _ (List.mem_append_left _ (List.mem_append_left _ (List.mem_append_left _ (List.mem_append_right _ h)))))) (by decide +kernel))) (goodIn_sub (fun _ h => List.mem_append_left _ (List.mem_append_left _ (List.mem_append_left _ (List.mem_append_left _ (List.mem_append_right _ h))))) (by decide +kernel))
set_option maxRecDepth 20000 in
theorem gL_law_L_swapPins : GoodIn wsL_law (va_wsS RL 174 yL_swapPins wsL_swapPins) := goodIn_app (goodIn_of _ (by decide +kernel)) ggL_law_L_swapPins
set_option maxRecDepth 20000 in
theorem gk_X6_swapPins_r1 : GoodIn wsL_law wsX6_swapPins_r1 := goodIn_r _ [136, 257, 258, 259, 5, 260, 137, 138, 139, 261, 262, 263, 264, 83, 88, 180, 181, 182, 308, 309, 310, 311, 85, 315] (by decide +kernel) (by decide +kernel)
set_option maxRecDepth 20000 in
theorem gk_X6_swapPins_r2 : GoodIn wsL_law wsX6_swapPins_r2 := goodIn_r _ [316, 317, 318, 89, 210, 211, 212, 213] (by decide +kernel) (by decide +kernel)
set_option maxRecDepth 20000 in
theorem ggL_law_X6_swapPins : GoodIn wsL_law wsX6_swapPins := goodIn_ca (goodIn_c1 (goodIn_r _ [342] (by decide +kernel) (by decide +kernel)) (goodIn_app (goodIn_app gk_X6_swapPins_r1 gk_X6_swapPins_r2) (goodIn_sub inlX6 (by decide +kernel)))) (goodIn_sub (fun _ h => List.mem_append_left _ (List.mem_append_left _ (List.mem_append_left _ (List.mem_append_left _ (List.mem_append_left _ (List.mem_append_left _ (List.mem_append_left _ (List.mem_append_right _ h)))))))) (by decide +kernel))
set_option maxRecDepth 20000 in
theorem gL_law_X6_swapPins : GoodIn wsL_law (wsV RL 176 RX6 yX6_swapPins wsX6_swapPins) := goodIn_app (goodIn_of _ (by decide +kernel)) ggL_law_X6_swapPins
theorem dL_law_28 : decode cL_law 28 = .ok (.iload 5, 2) := by decide +kernel
theorem dL_law_30 : decode cL_law 30 = .ok (.aload_n 0, 1) := by decide +kernel
theorem dL_law_31 : decode cL_law 31 = .ok (.arraylength, 1) := by decide +kernel
theorem dL_law_32 : decode cL_law 32 = .ok (.bipush 7, 2) := by decide +kernel
theorem dL_law_34 : decode cL_law 34 = .ok (.isub, 1) := by decide +kernel
theorem dL_law_35 : decode cL_law 35 = .ok (.if_icmp .gt 2691, 3) := by decide +kernel
theorem dL_law_224 : decode cL_law 224 = .ok (.aload_n 1, 1) := by decide +kernel
theorem dL_law_225 : decode cL_law 225 = .ok (.aload_n 0, 1) := by decide +kernel
theorem dL_law_226 : decode cL_law 226 = .ok (.iload 5, 2) := by decide +kernel
theorem dL_law_228 : decode cL_law 228 = .ok (.iconst 1, 1) := by decide +kernel
theorem dL_law_229 : decode cL_law 229 = .ok (.iadd, 1) := by decide +kernel
theorem dL_law_230 : decode cL_law 230 = .ok (.iaload, 1) := by decide +kernel
theorem dL_law_231 : decode cL_law 231 = .ok (.aload_n 3, 1) := by decide +kernel
theorem dL_law_232 : decode cL_law 232 = .ok (.invokestatic 144, 3) := by decide +kernel
theorem dL_law_235 : decode cL_law 235 = .ok (.istore 6, 2) := by decide +kernel
theorem dL_law_237 : decode cL_law 237 = .ok (.aload_n 2, 1) := by decide +kernel
theorem dL_law_238 : decode cL_law 238 = .ok (.aload_n 0, 1) := by decide +kernel
theorem dL_law_239 : decode cL_law 239 = .ok (.iload 5, 2) := by decide +kernel
theorem dL_law_241 : decode cL_law 241 = .ok (.iconst 1, 1) := by decide +kernel
theorem dL_law_242 : decode cL_law 242 = .ok (.iadd, 1) := by decide +kernel
theorem dL_law_243 : decode cL_law 243 = .ok (.iaload, 1) := by decide +kernel
theorem dL_law_244 : decode cL_law 244 = .ok (.invokevirtual 149, 3) := by decide +kernel
theorem dL_law_247 : decode cL_law 247 = .ok (.istore 7, 2) := by decide +kernel
theorem dL_law_249 : decode cL_law 249 = .ok (.aload_n 2, 1) := by decide +kernel
theorem dL_law_250 : decode cL_law 250 = .ok (.invokevirtual 150, 3) := by decide +kernel
theorem dL_law_253 : decode cL_law 253 = .ok (.iload 6, 2) := by decide +kernel
theorem dL_law_255 : decode cL_law 255 = .ok (.if_icmp .eq 5, 3) := by decide +kernel
theorem dL_law_260 : decode cL_law 260 = .ok (.iload 6, 2) := by decide +kernel
theorem dL_law_262 : decode cL_law 262 = .ok (.ifCond .ne 15, 3) := by decide +kernel
theorem dL_law_265 : decode cL_law 265 = .ok (.aload_n 3, 1) := by decide +kernel
theorem dL_law_266 : decode cL_law 266 = .ok (.iconst 0, 1) := by decide +kernel
theorem dL_law_267 : decode cL_law 267 = .ok (.laload, 1) := by decide +kernel
theorem dL_law_268 : decode cL_law 268 = .ok (.iload 7, 2) := by decide +kernel
theorem dL_law_270 : decode cL_law 270 = .ok (.i2l, 1) := by decide +kernel
theorem dL_law_271 : decode cL_law 271 = .ok (.lcmp, 1) := by decide +kernel
theorem dL_law_272 : decode cL_law 272 = .ok (.ifCond .eq 5, 3) := by decide +kernel
theorem dL_law_277 : decode cL_law 277 = .ok (.goto 2443, 3) := by decide +kernel
theorem dL_law_280 : decode cL_law 280 = .ok (.aload_n 1, 1) := by decide +kernel
theorem dL_law_281 : decode cL_law 281 = .ok (.aload_n 0, 1) := by decide +kernel
theorem dL_law_282 : decode cL_law 282 = .ok (.iload 5, 2) := by decide +kernel
theorem dL_law_284 : decode cL_law 284 = .ok (.iconst 1, 1) := by decide +kernel
theorem dL_law_285 : decode cL_law 285 = .ok (.iadd, 1) := by decide +kernel
theorem dL_law_286 : decode cL_law 286 = .ok (.iaload, 1) := by decide +kernel
theorem dL_law_287 : decode cL_law 287 = .ok (.aload_n 0, 1) := by decide +kernel
theorem dL_law_288 : decode cL_law 288 = .ok (.iload 5, 2) := by decide +kernel
theorem dL_law_290 : decode cL_law 290 = .ok (.iconst 2, 1) := by decide +kernel
theorem dL_law_291 : decode cL_law 291 = .ok (.iadd, 1) := by decide +kernel
theorem dL_law_292 : decode cL_law 292 = .ok (.iaload, 1) := by decide +kernel
theorem dL_law_293 : decode cL_law 293 = .ok (.aload_n 0, 1) := by decide +kernel
theorem dL_law_294 : decode cL_law 294 = .ok (.iload 5, 2) := by decide +kernel
theorem dL_law_296 : decode cL_law 296 = .ok (.iconst 3, 1) := by decide +kernel
theorem dL_law_297 : decode cL_law 297 = .ok (.iadd, 1) := by decide +kernel
theorem dL_law_298 : decode cL_law 298 = .ok (.iaload, 1) := by decide +kernel
theorem dL_law_299 : decode cL_law 299 = .ok (.i2c, 1) := by decide +kernel
theorem dL_law_300 : decode cL_law 300 = .ok (.aload_n 3, 1) := by decide +kernel
theorem dL_law_301 : decode cL_law 301 = .ok (.invokestatic 154, 3) := by decide +kernel
theorem dL_law_304 : decode cL_law 304 = .ok (.istore 6, 2) := by decide +kernel
theorem dL_law_306 : decode cL_law 306 = .ok (.aload_n 2, 1) := by decide +kernel
theorem dL_law_307 : decode cL_law 307 = .ok (.aload_n 0, 1) := by decide +kernel
theorem dL_law_308 : decode cL_law 308 = .ok (.iload 5, 2) := by decide +kernel
theorem dL_law_310 : decode cL_law 310 = .ok (.iconst 1, 1) := by decide +kernel
theorem dL_law_311 : decode cL_law 311 = .ok (.iadd, 1) := by decide +kernel
theorem dL_law_312 : decode cL_law 312 = .ok (.iaload, 1) := by decide +kernel
theorem dL_law_313 : decode cL_law 313 = .ok (.aload_n 0, 1) := by decide +kernel
theorem dL_law_314 : decode cL_law 314 = .ok (.iload 5, 2) := by decide +kernel
theorem dL_law_316 : decode cL_law 316 = .ok (.iconst 2, 1) := by decide +kernel
theorem dL_law_317 : decode cL_law 317 = .ok (.iadd, 1) := by decide +kernel
theorem dL_law_318 : decode cL_law 318 = .ok (.iaload, 1) := by decide +kernel
theorem dL_law_319 : decode cL_law 319 = .ok (.aload_n 0, 1) := by decide +kernel
theorem dL_law_320 : decode cL_law 320 = .ok (.iload 5, 2) := by decide +kernel
theorem dL_law_322 : decode cL_law 322 = .ok (.iconst 3, 1) := by decide +kernel
theorem dL_law_323 : decode cL_law 323 = .ok (.iadd, 1) := by decide +kernel
theorem dL_law_324 : decode cL_law 324 = .ok (.iaload, 1) := by decide +kernel
theorem dL_law_325 : decode cL_law 325 = .ok (.i2c, 1) := by decide +kernel
theorem dL_law_326 : decode cL_law 326 = .ok (.invokevirtual 157, 3) := by decide +kernel
theorem dL_law_329 : decode cL_law 329 = .ok (.istore 7, 2) := by decide +kernel
theorem dL_law_331 : decode cL_law 331 = .ok (.aload_n 2, 1) := by decide +kernel
theorem dL_law_332 : decode cL_law 332 = .ok (.invokevirtual 150, 3) := by decide +kernel
theorem dL_law_335 : decode cL_law 335 = .ok (.iload 6, 2) := by decide +kernel
theorem dL_law_337 : decode cL_law 337 = .ok (.if_icmp .eq 5, 3) := by decide +kernel
theorem dL_law_342 : decode cL_law 342 = .ok (.iload 6, 2) := by decide +kernel
theorem dL_law_344 : decode cL_law 344 = .ok (.ifCond .ne 15, 3) := by decide +kernel
theorem dL_law_359 : decode cL_law 359 = .ok (.goto 2361, 3) := by decide +kernel
theorem dL_law_362 : decode cL_law 362 = .ok (.aload_n 1, 1) := by decide +kernel
theorem dL_law_363 : decode cL_law 363 = .ok (.aload_n 0, 1) := by decide +kernel
theorem dL_law_364 : decode cL_law 364 = .ok (.iload 5, 2) := by decide +kernel
theorem dL_law_366 : decode cL_law 366 = .ok (.iconst 1, 1) := by decide +kernel
theorem dL_law_367 : decode cL_law 367 = .ok (.iadd, 1) := by decide +kernel
theorem dL_law_368 : decode cL_law 368 = .ok (.iaload, 1) := by decide +kernel
theorem dL_law_369 : decode cL_law 369 = .ok (.aload_n 0, 1) := by decide +kernel
theorem dL_law_370 : decode cL_law 370 = .ok (.iload 5, 2) := by decide +kernel
theorem dL_law_372 : decode cL_law 372 = .ok (.iconst 2, 1) := by decide +kernel
theorem dL_law_373 : decode cL_law 373 = .ok (.iadd, 1) := by decide +kernel
theorem dL_law_374 : decode cL_law 374 = .ok (.iaload, 1) := by decide +kernel
theorem dL_law_375 : decode cL_law 375 = .ok (.i2c, 1) := by decide +kernel
theorem dL_law_376 : decode cL_law 376 = .ok (.aload_n 0, 1) := by decide +kernel
theorem dL_law_377 : decode cL_law 377 = .ok (.iload 5, 2) := by decide +kernel
theorem dL_law_379 : decode cL_law 379 = .ok (.iconst 3, 1) := by decide +kernel
theorem dL_law_380 : decode cL_law 380 = .ok (.iadd, 1) := by decide +kernel
theorem dL_law_381 : decode cL_law 381 = .ok (.iaload, 1) := by decide +kernel
theorem dL_law_382 : decode cL_law 382 = .ok (.aload_n 0, 1) := by decide +kernel
theorem dL_law_383 : decode cL_law 383 = .ok (.iload 5, 2) := by decide +kernel
theorem dL_law_385 : decode cL_law 385 = .ok (.iconst 4, 1) := by decide +kernel
theorem dL_law_386 : decode cL_law 386 = .ok (.iadd, 1) := by decide +kernel
theorem dL_law_387 : decode cL_law 387 = .ok (.iaload, 1) := by decide +kernel
theorem dL_law_388 : decode cL_law 388 = .ok (.aload_n 0, 1) := by decide +kernel
theorem dL_law_389 : decode cL_law 389 = .ok (.iload 5, 2) := by decide +kernel
theorem dL_law_391 : decode cL_law 391 = .ok (.iconst 5, 1) := by decide +kernel
theorem dL_law_392 : decode cL_law 392 = .ok (.iadd, 1) := by decide +kernel
theorem dL_law_393 : decode cL_law 393 = .ok (.iaload, 1) := by decide +kernel
theorem dL_law_394 : decode cL_law 394 = .ok (.aload_n 0, 1) := by decide +kernel
theorem dL_law_395 : decode cL_law 395 = .ok (.iload 5, 2) := by decide +kernel
theorem dL_law_397 : decode cL_law 397 = .ok (.bipush 6, 2) := by decide +kernel
theorem dL_law_399 : decode cL_law 399 = .ok (.iadd, 1) := by decide +kernel
theorem dL_law_400 : decode cL_law 400 = .ok (.iaload, 1) := by decide +kernel
theorem dL_law_401 : decode cL_law 401 = .ok (.aload_n 3, 1) := by decide +kernel
theorem dL_law_402 : decode cL_law 402 = .ok (.invokestatic 158, 3) := by decide +kernel
theorem dL_law_405 : decode cL_law 405 = .ok (.istore 6, 2) := by decide +kernel
theorem dL_law_407 : decode cL_law 407 = .ok (.aload_n 2, 1) := by decide +kernel
theorem dL_law_408 : decode cL_law 408 = .ok (.aload_n 0, 1) := by decide +kernel
theorem dL_law_409 : decode cL_law 409 = .ok (.iload 5, 2) := by decide +kernel
theorem dL_law_411 : decode cL_law 411 = .ok (.iconst 1, 1) := by decide +kernel
theorem dL_law_412 : decode cL_law 412 = .ok (.iadd, 1) := by decide +kernel
theorem dL_law_413 : decode cL_law 413 = .ok (.iaload, 1) := by decide +kernel
theorem dL_law_414 : decode cL_law 414 = .ok (.aload_n 0, 1) := by decide +kernel
theorem dL_law_415 : decode cL_law 415 = .ok (.iload 5, 2) := by decide +kernel
theorem dL_law_417 : decode cL_law 417 = .ok (.iconst 2, 1) := by decide +kernel
theorem dL_law_418 : decode cL_law 418 = .ok (.iadd, 1) := by decide +kernel
theorem dL_law_419 : decode cL_law 419 = .ok (.iaload, 1) := by decide +kernel
theorem dL_law_420 : decode cL_law 420 = .ok (.i2c, 1) := by decide +kernel
theorem dL_law_421 : decode cL_law 421 = .ok (.aload_n 0, 1) := by decide +kernel
theorem dL_law_422 : decode cL_law 422 = .ok (.iload 5, 2) := by decide +kernel
theorem dL_law_424 : decode cL_law 424 = .ok (.iconst 3, 1) := by decide +kernel
theorem dL_law_425 : decode cL_law 425 = .ok (.iadd, 1) := by decide +kernel
theorem dL_law_426 : decode cL_law 426 = .ok (.iaload, 1) := by decide +kernel
theorem dL_law_427 : decode cL_law 427 = .ok (.aload_n 0, 1) := by decide +kernel
theorem dL_law_428 : decode cL_law 428 = .ok (.iload 5, 2) := by decide +kernel
theorem dL_law_430 : decode cL_law 430 = .ok (.iconst 4, 1) := by decide +kernel
theorem dL_law_431 : decode cL_law 431 = .ok (.iadd, 1) := by decide +kernel
theorem dL_law_432 : decode cL_law 432 = .ok (.iaload, 1) := by decide +kernel
theorem dL_law_433 : decode cL_law 433 = .ok (.aload_n 0, 1) := by decide +kernel
theorem dL_law_434 : decode cL_law 434 = .ok (.iload 5, 2) := by decide +kernel
theorem dL_law_436 : decode cL_law 436 = .ok (.iconst 5, 1) := by decide +kernel
theorem dL_law_437 : decode cL_law 437 = .ok (.iadd, 1) := by decide +kernel
theorem dL_law_438 : decode cL_law 438 = .ok (.iaload, 1) := by decide +kernel
theorem dL_law_439 : decode cL_law 439 = .ok (.aload_n 0, 1) := by decide +kernel
theorem dL_law_440 : decode cL_law 440 = .ok (.iload 5, 2) := by decide +kernel
theorem dL_law_442 : decode cL_law 442 = .ok (.bipush 6, 2) := by decide +kernel
theorem dL_law_444 : decode cL_law 444 = .ok (.iadd, 1) := by decide +kernel
theorem dL_law_445 : decode cL_law 445 = .ok (.iaload, 1) := by decide +kernel
theorem dL_law_446 : decode cL_law 446 = .ok (.invokevirtual 161, 3) := by decide +kernel
theorem dL_law_449 : decode cL_law 449 = .ok (.istore 7, 2) := by decide +kernel
theorem dL_law_451 : decode cL_law 451 = .ok (.aload_n 2, 1) := by decide +kernel
theorem dL_law_452 : decode cL_law 452 = .ok (.invokevirtual 150, 3) := by decide +kernel
theorem dL_law_455 : decode cL_law 455 = .ok (.iload 6, 2) := by decide +kernel
theorem dL_law_457 : decode cL_law 457 = .ok (.if_icmp .eq 5, 3) := by decide +kernel
theorem dL_law_462 : decode cL_law 462 = .ok (.iload 6, 2) := by decide +kernel
theorem dL_law_464 : decode cL_law 464 = .ok (.ifCond .ne 15, 3) := by decide +kernel
theorem dL_law_479 : decode cL_law 479 = .ok (.goto 2241, 3) := by decide +kernel
theorem dL_law_482 : decode cL_law 482 = .ok (.aload_n 1, 1) := by decide +kernel
theorem dL_law_483 : decode cL_law 483 = .ok (.aload_n 0, 1) := by decide +kernel
theorem dL_law_484 : decode cL_law 484 = .ok (.iload 5, 2) := by decide +kernel
theorem dL_law_486 : decode cL_law 486 = .ok (.iconst 1, 1) := by decide +kernel
theorem dL_law_487 : decode cL_law 487 = .ok (.iadd, 1) := by decide +kernel
theorem dL_law_488 : decode cL_law 488 = .ok (.iaload, 1) := by decide +kernel
theorem dL_law_489 : decode cL_law 489 = .ok (.aload_n 0, 1) := by decide +kernel
theorem dL_law_490 : decode cL_law 490 = .ok (.iload 5, 2) := by decide +kernel
theorem dL_law_492 : decode cL_law 492 = .ok (.iconst 2, 1) := by decide +kernel
theorem dL_law_493 : decode cL_law 493 = .ok (.iadd, 1) := by decide +kernel
theorem dL_law_494 : decode cL_law 494 = .ok (.iaload, 1) := by decide +kernel
theorem dL_law_495 : decode cL_law 495 = .ok (.aload_n 3, 1) := by decide +kernel
theorem dL_law_496 : decode cL_law 496 = .ok (.invokestatic 162, 3) := by decide +kernel
theorem dL_law_499 : decode cL_law 499 = .ok (.istore 6, 2) := by decide +kernel
theorem dL_law_501 : decode cL_law 501 = .ok (.aload_n 2, 1) := by decide +kernel
theorem dL_law_502 : decode cL_law 502 = .ok (.aload_n 0, 1) := by decide +kernel
theorem dL_law_503 : decode cL_law 503 = .ok (.iload 5, 2) := by decide +kernel
theorem dL_law_505 : decode cL_law 505 = .ok (.iconst 1, 1) := by decide +kernel
theorem dL_law_506 : decode cL_law 506 = .ok (.iadd, 1) := by decide +kernel
theorem dL_law_507 : decode cL_law 507 = .ok (.iaload, 1) := by decide +kernel
theorem dL_law_508 : decode cL_law 508 = .ok (.aload_n 0, 1) := by decide +kernel
theorem dL_law_509 : decode cL_law 509 = .ok (.iload 5, 2) := by decide +kernel
theorem dL_law_511 : decode cL_law 511 = .ok (.iconst 2, 1) := by decide +kernel
theorem dL_law_512 : decode cL_law 512 = .ok (.iadd, 1) := by decide +kernel
theorem dL_law_513 : decode cL_law 513 = .ok (.iaload, 1) := by decide +kernel
theorem dL_law_514 : decode cL_law 514 = .ok (.invokevirtual 165, 3) := by decide +kernel
theorem dL_law_517 : decode cL_law 517 = .ok (.istore 7, 2) := by decide +kernel
theorem dL_law_519 : decode cL_law 519 = .ok (.aload_n 2, 1) := by decide +kernel
theorem dL_law_520 : decode cL_law 520 = .ok (.invokevirtual 150, 3) := by decide +kernel
theorem dL_law_523 : decode cL_law 523 = .ok (.iload 6, 2) := by decide +kernel
theorem dL_law_525 : decode cL_law 525 = .ok (.if_icmp .eq 5, 3) := by decide +kernel
theorem dL_law_530 : decode cL_law 530 = .ok (.iload 6, 2) := by decide +kernel
theorem dL_law_532 : decode cL_law 532 = .ok (.ifCond .ne 15, 3) := by decide +kernel
theorem dL_law_547 : decode cL_law 547 = .ok (.goto 2173, 3) := by decide +kernel
theorem dL_law_550 : decode cL_law 550 = .ok (.aload_n 1, 1) := by decide +kernel
theorem dL_law_551 : decode cL_law 551 = .ok (.aload_n 0, 1) := by decide +kernel
theorem dL_law_552 : decode cL_law 552 = .ok (.iload 5, 2) := by decide +kernel
theorem dL_law_554 : decode cL_law 554 = .ok (.iconst 1, 1) := by decide +kernel
theorem dL_law_555 : decode cL_law 555 = .ok (.iadd, 1) := by decide +kernel
theorem dL_law_556 : decode cL_law 556 = .ok (.iaload, 1) := by decide +kernel
theorem dL_law_557 : decode cL_law 557 = .ok (.aload_n 0, 1) := by decide +kernel
theorem dL_law_558 : decode cL_law 558 = .ok (.iload 5, 2) := by decide +kernel
theorem dL_law_560 : decode cL_law 560 = .ok (.iconst 2, 1) := by decide +kernel
theorem dL_law_561 : decode cL_law 561 = .ok (.iadd, 1) := by decide +kernel
theorem dL_law_562 : decode cL_law 562 = .ok (.iaload, 1) := by decide +kernel
theorem dL_law_563 : decode cL_law 563 = .ok (.aload_n 0, 1) := by decide +kernel
theorem dL_law_564 : decode cL_law 564 = .ok (.iload 5, 2) := by decide +kernel
theorem dL_law_566 : decode cL_law 566 = .ok (.iconst 3, 1) := by decide +kernel
theorem dL_law_567 : decode cL_law 567 = .ok (.iadd, 1) := by decide +kernel
theorem dL_law_568 : decode cL_law 568 = .ok (.iaload, 1) := by decide +kernel
theorem dL_law_569 : decode cL_law 569 = .ok (.aload_n 3, 1) := by decide +kernel
theorem dL_law_570 : decode cL_law 570 = .ok (.invokestatic 166, 3) := by decide +kernel
theorem dL_law_573 : decode cL_law 573 = .ok (.istore 6, 2) := by decide +kernel
theorem dL_law_575 : decode cL_law 575 = .ok (.aload_n 2, 1) := by decide +kernel
theorem dL_law_576 : decode cL_law 576 = .ok (.aload_n 0, 1) := by decide +kernel
theorem dL_law_577 : decode cL_law 577 = .ok (.iload 5, 2) := by decide +kernel
theorem dL_law_579 : decode cL_law 579 = .ok (.iconst 1, 1) := by decide +kernel
theorem dL_law_580 : decode cL_law 580 = .ok (.iadd, 1) := by decide +kernel
theorem dL_law_581 : decode cL_law 581 = .ok (.iaload, 1) := by decide +kernel
theorem dL_law_582 : decode cL_law 582 = .ok (.aload_n 0, 1) := by decide +kernel
theorem dL_law_583 : decode cL_law 583 = .ok (.iload 5, 2) := by decide +kernel
theorem dL_law_585 : decode cL_law 585 = .ok (.iconst 2, 1) := by decide +kernel
theorem dL_law_586 : decode cL_law 586 = .ok (.iadd, 1) := by decide +kernel
theorem dL_law_587 : decode cL_law 587 = .ok (.iaload, 1) := by decide +kernel
theorem dL_law_588 : decode cL_law 588 = .ok (.aload_n 0, 1) := by decide +kernel
theorem dL_law_589 : decode cL_law 589 = .ok (.iload 5, 2) := by decide +kernel
theorem dL_law_591 : decode cL_law 591 = .ok (.iconst 3, 1) := by decide +kernel
theorem dL_law_592 : decode cL_law 592 = .ok (.iadd, 1) := by decide +kernel
theorem dL_law_593 : decode cL_law 593 = .ok (.iaload, 1) := by decide +kernel
theorem dL_law_594 : decode cL_law 594 = .ok (.invokevirtual 169, 3) := by decide +kernel
theorem dL_law_597 : decode cL_law 597 = .ok (.istore 7, 2) := by decide +kernel
theorem dL_law_599 : decode cL_law 599 = .ok (.aload_n 2, 1) := by decide +kernel
theorem dL_law_600 : decode cL_law 600 = .ok (.invokevirtual 150, 3) := by decide +kernel
theorem dL_law_603 : decode cL_law 603 = .ok (.iload 6, 2) := by decide +kernel
theorem dL_law_605 : decode cL_law 605 = .ok (.if_icmp .eq 5, 3) := by decide +kernel
theorem dL_law_610 : decode cL_law 610 = .ok (.iload 6, 2) := by decide +kernel
theorem dL_law_612 : decode cL_law 612 = .ok (.ifCond .ne 15, 3) := by decide +kernel
theorem dL_law_627 : decode cL_law 627 = .ok (.goto 2093, 3) := by decide +kernel
theorem dL_law_630 : decode cL_law 630 = .ok (.aload_n 1, 1) := by decide +kernel
theorem dL_law_631 : decode cL_law 631 = .ok (.aload_n 0, 1) := by decide +kernel
theorem dL_law_632 : decode cL_law 632 = .ok (.iload 5, 2) := by decide +kernel
theorem dL_law_634 : decode cL_law 634 = .ok (.iconst 1, 1) := by decide +kernel
theorem dL_law_635 : decode cL_law 635 = .ok (.iadd, 1) := by decide +kernel
theorem dL_law_636 : decode cL_law 636 = .ok (.iaload, 1) := by decide +kernel
theorem dL_law_637 : decode cL_law 637 = .ok (.aload_n 0, 1) := by decide +kernel
theorem dL_law_638 : decode cL_law 638 = .ok (.iload 5, 2) := by decide +kernel
theorem dL_law_640 : decode cL_law 640 = .ok (.iconst 2, 1) := by decide +kernel
theorem dL_law_641 : decode cL_law 641 = .ok (.iadd, 1) := by decide +kernel
theorem dL_law_642 : decode cL_law 642 = .ok (.iaload, 1) := by decide +kernel
theorem dL_law_643 : decode cL_law 643 = .ok (.aload_n 0, 1) := by decide +kernel
theorem dL_law_644 : decode cL_law 644 = .ok (.iload 5, 2) := by decide +kernel
theorem dL_law_646 : decode cL_law 646 = .ok (.iconst 3, 1) := by decide +kernel
theorem dL_law_647 : decode cL_law 647 = .ok (.iadd, 1) := by decide +kernel
theorem dL_law_648 : decode cL_law 648 = .ok (.iaload, 1) := by decide +kernel
theorem dL_law_649 : decode cL_law 649 = .ok (.aload_n 0, 1) := by decide +kernel
theorem dL_law_650 : decode cL_law 650 = .ok (.iload 5, 2) := by decide +kernel
theorem dL_law_652 : decode cL_law 652 = .ok (.iconst 4, 1) := by decide +kernel
theorem dL_law_653 : decode cL_law 653 = .ok (.iadd, 1) := by decide +kernel
theorem dL_law_654 : decode cL_law 654 = .ok (.iaload, 1) := by decide +kernel
theorem dL_law_655 : decode cL_law 655 = .ok (.aload_n 3, 1) := by decide +kernel
theorem dL_law_656 : decode cL_law 656 = .ok (.invokestatic 170, 3) := by decide +kernel
theorem dL_law_659 : decode cL_law 659 = .ok (.istore 6, 2) := by decide +kernel
theorem dL_law_661 : decode cL_law 661 = .ok (.aload_n 2, 1) := by decide +kernel
theorem dL_law_662 : decode cL_law 662 = .ok (.aload_n 0, 1) := by decide +kernel
theorem dL_law_663 : decode cL_law 663 = .ok (.iload 5, 2) := by decide +kernel
theorem dL_law_665 : decode cL_law 665 = .ok (.iconst 1, 1) := by decide +kernel
theorem dL_law_666 : decode cL_law 666 = .ok (.iadd, 1) := by decide +kernel
theorem dL_law_667 : decode cL_law 667 = .ok (.iaload, 1) := by decide +kernel
theorem dL_law_668 : decode cL_law 668 = .ok (.aload_n 0, 1) := by decide +kernel
theorem dL_law_669 : decode cL_law 669 = .ok (.iload 5, 2) := by decide +kernel
theorem dL_law_671 : decode cL_law 671 = .ok (.iconst 2, 1) := by decide +kernel
theorem dL_law_672 : decode cL_law 672 = .ok (.iadd, 1) := by decide +kernel
theorem dL_law_673 : decode cL_law 673 = .ok (.iaload, 1) := by decide +kernel
theorem dL_law_674 : decode cL_law 674 = .ok (.aload_n 0, 1) := by decide +kernel
theorem dL_law_675 : decode cL_law 675 = .ok (.iload 5, 2) := by decide +kernel
theorem dL_law_677 : decode cL_law 677 = .ok (.iconst 3, 1) := by decide +kernel
theorem dL_law_678 : decode cL_law 678 = .ok (.iadd, 1) := by decide +kernel
theorem dL_law_679 : decode cL_law 679 = .ok (.iaload, 1) := by decide +kernel
theorem dL_law_680 : decode cL_law 680 = .ok (.aload_n 0, 1) := by decide +kernel
theorem dL_law_681 : decode cL_law 681 = .ok (.iload 5, 2) := by decide +kernel
theorem dL_law_683 : decode cL_law 683 = .ok (.iconst 4, 1) := by decide +kernel
theorem dL_law_684 : decode cL_law 684 = .ok (.iadd, 1) := by decide +kernel
theorem dL_law_685 : decode cL_law 685 = .ok (.iaload, 1) := by decide +kernel
theorem dL_law_686 : decode cL_law 686 = .ok (.invokevirtual 173, 3) := by decide +kernel
theorem dL_law_689 : decode cL_law 689 = .ok (.istore 7, 2) := by decide +kernel
theorem dL_law_691 : decode cL_law 691 = .ok (.aload_n 2, 1) := by decide +kernel
theorem dL_law_692 : decode cL_law 692 = .ok (.invokevirtual 150, 3) := by decide +kernel
theorem dL_law_695 : decode cL_law 695 = .ok (.iload 6, 2) := by decide +kernel
theorem dL_law_697 : decode cL_law 697 = .ok (.if_icmp .eq 5, 3) := by decide +kernel
theorem dL_law_702 : decode cL_law 702 = .ok (.iload 6, 2) := by decide +kernel
theorem dL_law_704 : decode cL_law 704 = .ok (.ifCond .ne 15, 3) := by decide +kernel
theorem dL_law_719 : decode cL_law 719 = .ok (.goto 2001, 3) := by decide +kernel
theorem dL_law_722 : decode cL_law 722 = .ok (.aload_n 1, 1) := by decide +kernel
theorem dL_law_723 : decode cL_law 723 = .ok (.aload_n 0, 1) := by decide +kernel
theorem dL_law_724 : decode cL_law 724 = .ok (.iload 5, 2) := by decide +kernel
theorem dL_law_726 : decode cL_law 726 = .ok (.iconst 1, 1) := by decide +kernel
theorem dL_law_727 : decode cL_law 727 = .ok (.iadd, 1) := by decide +kernel
theorem dL_law_728 : decode cL_law 728 = .ok (.iaload, 1) := by decide +kernel
theorem dL_law_729 : decode cL_law 729 = .ok (.aload_n 0, 1) := by decide +kernel
theorem dL_law_730 : decode cL_law 730 = .ok (.iload 5, 2) := by decide +kernel
theorem dL_law_732 : decode cL_law 732 = .ok (.iconst 2, 1) := by decide +kernel
theorem dL_law_733 : decode cL_law 733 = .ok (.iadd, 1) := by decide +kernel
theorem dL_law_734 : decode cL_law 734 = .ok (.iaload, 1) := by decide +kernel
theorem dL_law_735 : decode cL_law 735 = .ok (.aload_n 3, 1) := by decide +kernel
theorem dL_law_736 : decode cL_law 736 = .ok (.invokestatic 174, 3) := by decide +kernel
theorem dL_law_739 : decode cL_law 739 = .ok (.istore 6, 2) := by decide +kernel
theorem dL_law_741 : decode cL_law 741 = .ok (.aload_n 2, 1) := by decide +kernel
theorem dL_law_742 : decode cL_law 742 = .ok (.aload_n 0, 1) := by decide +kernel
theorem dL_law_743 : decode cL_law 743 = .ok (.iload 5, 2) := by decide +kernel
theorem dL_law_745 : decode cL_law 745 = .ok (.iconst 1, 1) := by decide +kernel
theorem dL_law_746 : decode cL_law 746 = .ok (.iadd, 1) := by decide +kernel
theorem dL_law_747 : decode cL_law 747 = .ok (.iaload, 1) := by decide +kernel
theorem dL_law_748 : decode cL_law 748 = .ok (.aload_n 0, 1) := by decide +kernel
theorem dL_law_749 : decode cL_law 749 = .ok (.iload 5, 2) := by decide +kernel
theorem dL_law_751 : decode cL_law 751 = .ok (.iconst 2, 1) := by decide +kernel
theorem dL_law_752 : decode cL_law 752 = .ok (.iadd, 1) := by decide +kernel
theorem dL_law_753 : decode cL_law 753 = .ok (.iaload, 1) := by decide +kernel
theorem dL_law_754 : decode cL_law 754 = .ok (.invokevirtual 176, 3) := by decide +kernel
theorem dL_law_757 : decode cL_law 757 = .ok (.istore 7, 2) := by decide +kernel
theorem dL_law_759 : decode cL_law 759 = .ok (.aload_n 2, 1) := by decide +kernel
theorem dL_law_760 : decode cL_law 760 = .ok (.invokevirtual 150, 3) := by decide +kernel
theorem dL_law_763 : decode cL_law 763 = .ok (.iload 6, 2) := by decide +kernel
theorem dL_law_765 : decode cL_law 765 = .ok (.if_icmp .eq 5, 3) := by decide +kernel
theorem dL_law_770 : decode cL_law 770 = .ok (.iload 6, 2) := by decide +kernel
theorem dL_law_772 : decode cL_law 772 = .ok (.ifCond .ne 15, 3) := by decide +kernel
theorem dL_law_787 : decode cL_law 787 = .ok (.goto 1933, 3) := by decide +kernel
theorem dL_law_2720 : decode cL_law 2720 = .ok (.iinc 5 7, 3) := by decide +kernel
theorem dL_law_2723 : decode cL_law 2723 = .ok (.goto (-2695), 3) := by decide +kernel
theorem dL_law_2726 : decode cL_law 2726 = .ok (.iconst 1, 1) := by decide +kernel
theorem dL_law_2727 : decode cL_law 2727 = .ok (.ireturn, 1) := by decide +kernel
set_option maxHeartbeats 4000000 in
set_option maxRecDepth 100000 in
/-- case 0 of the law: addNet, on fresh objects -/
theorem lc_0 {p : Program} {e : Env} {s : State} {m : MethodId} {below : List Frame} {meth : Method} {c : Code} (l : Launch) (hfl : l.stackTraces = false) {b : Nat} {xs : Nat → Int32} (hx : p.tables.exec = Jvm.exec) (hb : c.code = cL_law) (hr : meth.sig.returnType = ret) (hml : c.maxLocals = 9) (hown : s.vm.findClass RL = some m.cls) (hts : ∀ w ∈ wsL_law, w.before #[Value.ref b] s = true) (hlk : meth.locks = false) (A : Nat → Prop) (hAe : ∀ q, A q → s.heap.size ≤ q) (hA : ∀ q : Nat, s.heap.size ≤ q → A q) (hX9 : va_X b 7 xs s s.heap) (hbl : b < s.heap.size) (hN : fN s) (hZ : fZ A s s.heap) (hX : fX s) (dC : Nat → ClassId) (dI : Nat → Nat → Nat) (h0 pr w d on op un wL wK wV wN wS wB dL dK dV dN dS dB ma maI maO maP tm tmI tmO tmP k0 kN kA kO kK kV kG kP kC kD kE kF kX kY kT kU oJ oD : Nat) (cC cI cJ : ClassId) {H : Heap} {locs : List Loc} {ls : Array Slot} (hK : va_K (dC, dI) vwCl [(cC, .char), (cI, .int), (cJ, .long)] s) (hP : va_P (dC, dI) vwCl [(h0, .inr (8, [.ref pr, .ref ma, .ref tm])), (pr, .inr (7, [.ref w, .ref d, .ref on, .ref op, .ref un, .int 0, .int 0])), (w, .inr (3, [.int 0, .int 0, .ref wL, .ref wK, .ref wV, .ref wN, .ref wS, .ref wB, .int 0])), (d, .inr (3, [.int 0, .int 0, .ref dL, .ref dK, .ref dV, .ref dN, .ref dS, .ref dB, .int 0])), (wL, .inl (cC, 10, .inl (fun _ => 0))), (dL, .inl (cC, 10, .inl (fun _ => 0))), (ma, .inr (5, [.ref pr, .ref maI, .ref maO, .ref maP, .int 0, .int 0])), (tm, .inr (5, [.ref pr, .ref tmI, .ref tmO, .ref tmP, .int 0, .int 0])), (k0, .inr (9, [.ref kN, .ref kA, .ref kO, .ref kK, .ref kV, .ref kG, .ref kP, .ref kC, .ref kD, .ref kE, .ref kF, .ref kX, .ref kY, .int 0, .ref kT, .ref kU, .int 0, .int 0, .int 0])), (kN, .inl (cI, 2, .inl (fun _ => 0))), (kA, .inl (cI, 2, .inl (fun _ => 0))), (kO, .inl (cC, 20, .inl (fun _ => 0))), (oJ, .inl (cJ, 1, .inr (.inl (fun _ => 0))))] H) (hD : va_D A [(h0, .inr (8, [.ref pr, .ref ma, .ref tm])), (pr, .inr (7, [.ref w, .ref d, .ref on, .ref op, .ref un, .int 0, .int 0])), (w, .inr (3, [.int 0, .int 0, .ref wL, .ref wK, .ref wV, .ref wN, .ref wS, .ref wB, .int 0])), (d, .inr (3, [.int 0, .int 0, .ref dL, .ref dK, .ref dV, .ref dN, .ref dS, .ref dB, .int 0])), (wL, .inl (cC, 10, .inl (fun _ => 0))), (dL, .inl (cC, 10, .inl (fun _ => 0))), (ma, .inr (5, [.ref pr, .ref maI, .ref maO, .ref maP, .int 0, .int 0])), (tm, .inr (5, [.ref pr, .ref tmI, .ref tmO, .ref tmP, .int 0, .int 0])), (k0, .inr (9, [.ref kN, .ref kA, .ref kO, .ref kK, .ref kV, .ref kG, .ref kP, .ref kC, .ref kD, .ref kE, .ref kF, .ref kX, .ref kY, .int 0, .ref kT, .ref kU, .int 0, .int 0, .int 0])), (kN, .inl (cI, 2, .inl (fun _ => 0))), (kA, .inl (cI, 2, .inl (fun _ => 0))), (kO, .inl (cC, 20, .inl (fun _ => 0))), (oJ, .inl (cJ, 1, .inr (.inl (fun _ => 0))))]) (hS : va_S A s.heap H locs) (hl : lv_has ls 9 [(5, .int 0), (4, .ref oD), (3, .ref oJ), (2, .ref k0), (1, .ref h0), (0, .ref b)]) : W p l e room_1 s m #[Value.ref b] below meth c H locs 114 2061 (lw_Z below #[Value.ref b] s) (F0 m 224 ls []) := by
  have hbA : ¬ A b := fun h => Nat.not_le.mpr hbl (hAe _ h)
  have hX0 := hX
  refine lv_aload_n hx hb dL_law_224 rfl (lv_at hl 4 rfl) ?_
  refine lv_aload_n hx hb dL_law_225 rfl (lv_at hl 5 rfl) ?_
  refine lv_iload hx hb dL_law_226 (lv_at hl 0 rfl) ?_
  refine lv_iconst (v := 1) hx hb dL_law_228 (by decide) ?_
  refine lv_iadd hx hb dL_law_229 ?_
  refine lv_topi (fun y1 ey1 => ?_)
  obtain rfl : y1 = 1 := ey1.trans (by decide)
  refine va_sld hx hb hX9 hbl hbA hS (show ¬ (_ ∨ _) by decide) dL_law_230 ?_
  refine W.eq (g2 := F0 m 231 ls [.int (xs 1), .ref h0]) rfl ?_
  refine lv_aload_n hx hb dL_law_231 rfl (lv_at hl 2 rfl) ?_
  have hPc := hP.sub (ws' := [(h0, .inr (8, [.ref pr, .ref ma, .ref tm])), (pr, .inr (7, [.ref w, .ref d, .ref on, .ref op, .ref un, .int 0, .int 0])), (w, .inr (3, [.int 0, .int 0, .ref wL, .ref wK, .ref wV, .ref wN, .ref wS, .ref wB, .int 0])), (d, .inr (3, [.int 0, .int 0, .ref dL, .ref dK, .ref dV, .ref dN, .ref dS, .ref dB, .int 0])), (wL, .inl (cC, 10, .inl (fun _ => 0))), (dL, .inl (cC, 10, .inl (fun _ => 0))), (ma, .inr (5, [.ref pr, .ref maI, .ref maO, .ref maP, .int 0, .int 0])), (tm, .inr (5, [.ref pr, .ref tmI, .ref tmO, .ref tmP, .int 0, .int 0])), (oJ, .inl (cJ, 1, .inr (.inl (fun _ => 0))))]) [0, 1, 2, 3, 4, 5, 6, 7, 12] rfl
  have hDc := hD.sub (ws' := [(h0, .inr (8, [.ref pr, .ref ma, .ref tm])), (pr, .inr (7, [.ref w, .ref d, .ref on, .ref op, .ref un, .int 0, .int 0])), (w, .inr (3, [.int 0, .int 0, .ref wL, .ref wK, .ref wV, .ref wN, .ref wS, .ref wB, .int 0])), (d, .inr (3, [.int 0, .int 0, .ref dL, .ref dK, .ref dV, .ref dN, .ref dS, .ref dB, .int 0])), (wL, .inl (cC, 10, .inl (fun _ => 0))), (dL, .inl (cC, 10, .inl (fun _ => 0))), (ma, .inr (5, [.ref pr, .ref maI, .ref maO, .ref maP, .int 0, .int 0])), (tm, .inr (5, [.ref pr, .ref tmI, .ref tmO, .ref tmP, .int 0, .int 0])), (oJ, .inl (cJ, 1, .inr (.inl (fun _ => 0))))]) [0, 1, 2, 3, 4, 5, 6, 7, 12] (by decide) rfl
  have hKc := hK.sub (tys' := [(cC, .char), (cJ, .long)]) [0, 2] rfl
  have hFc := va_free (wc := [(h0, .inr (8, [.ref pr, .ref ma, .ref tm])), (pr, .inr (7, [.ref w, .ref d, .ref on, .ref op, .ref un, .int 0, .int 0])), (w, .inr (3, [.int 0, .int 0, .ref wL, .ref wK, .ref wV, .ref wN, .ref wS, .ref wB, .int 0])), (d, .inr (3, [.int 0, .int 0, .ref dL, .ref dK, .ref dV, .ref dN, .ref dS, .ref dB, .int 0])), (wL, .inl (cC, 10, .inl (fun _ => 0))), (dL, .inl (cC, 10, .inl (fun _ => 0))), (ma, .inr (5, [.ref pr, .ref maI, .ref maO, .ref maP, .int 0, .int 0])), (tm, .inr (5, [.ref pr, .ref tmI, .ref tmO, .ref tmP, .int 0, .int 0])), (oJ, .inl (cJ, 1, .inr (.inl (fun _ => 0))))]) hD hS hA [0, 1, 2, 3, 4, 5, 6, 7, 12] rfl
  refine vx_calli (vx_runSX (As := [.ref h0, .int (xs 1), .ref oJ]) (rest := []) ⟨hx, hb, hml, hown, hts⟩ (kL_addNet l hfl dC dI h0 pr ma tm w d on op un wL wK wV wN wS wB dL dK dV dN dS dB maI maO maP tmI tmO tmP cC oJ cJ (xs 1) H.size) (vx_cwSW 3 hts gL_law_L_addNet rfl rfl rfl (by decide +kernel) ⟨Nat.le_of_ble_eq_true rfl, Nat.le_of_ble_eq_true rfl⟩) (gPreS hX hN hZ hS (fun q h => hFc q h) hPc hKc hDc) rfl rfl hl.1 rfl (lv_room (Nat.le_of_ble_eq_true rfl)) dL_law_232 ⟨Nat.le_of_ble_eq_true rfl, Nat.le_of_ble_eq_true rfl⟩) hS (fun q _ h => hFc q h) hFc (fun q _ h => hFc q h) (fun E ce q9 u t H locs ht hvm hpx hE hz1 hk1 hS hq9 hv9 hc9 => ?_) (fun r u t H1 locs ht hvm hw hB hz1 hk1 hS => ?_)
  · skip
    exact hE.elim
  · skip
    obtain ⟨hP1, hK1, hD1⟩ := hB
    rw [ht] at hP1
    have hK1 := va_K.moved hvm.symm hK1
    obtain ⟨u2, rfl⟩ : ∃ z, z = u := ⟨_, rfl⟩
    obtain ⟨hP, hD⟩ := va_join (wr := [(k0, .inr (9, [.ref kN, .ref kA, .ref kO, .ref kK, .ref kV, .ref kG, .ref kP, .ref kC, .ref kD, .ref kE, .ref kF, .ref kX, .ref kY, .int 0, .ref kT, .ref kU, .int 0, .int 0, .int 0])), (kN, .inl (cI, 2, .inl (fun _ => 0))), (kA, .inl (cI, 2, .inl (fun _ => 0))), (kO, .inl (cC, 20, .inl (fun _ => 0)))]) (w1 := [(oJ, .inl (cJ, 1, .inr (.inl u2)))]) hP hD [0, 1, 2, 3, 4, 5, 6, 7, 12] [8, 9, 10, 11] rfl rfl (by decide) (by decide) hk1 hFc hP1 hD1
    generalize H1 = H at hP hS ⊢
    have hP : va_P (dC, dI) vwCl [(k0, .inr (9, [.ref kN, .ref kA, .ref kO, .ref kK, .ref kV, .ref kG, .ref kP, .ref kC, .ref kD, .ref kE, .ref kF, .ref kX, .ref kY, .int 0, .ref kT, .ref kU, .int 0, .int 0, .int 0])), (kN, .inl (cI, 2, .inl (fun _ => 0))), (kA, .inl (cI, 2, .inl (fun _ => 0))), (kO, .inl (cC, 20, .inl (fun _ => 0))), (oJ, .inl (cJ, 1, .inr (.inl u2)))] _ := hP
    have hD : va_D A [(k0, .inr (9, [.ref kN, .ref kA, .ref kO, .ref kK, .ref kV, .ref kG, .ref kP, .ref kC, .ref kD, .ref kE, .ref kF, .ref kX, .ref kY, .int 0, .ref kT, .ref kU, .int 0, .int 0, .int 0])), (kN, .inl (cI, 2, .inl (fun _ => 0))), (kA, .inl (cI, 2, .inl (fun _ => 0))), (kO, .inl (cC, 20, .inl (fun _ => 0))), (oJ, .inl (cJ, 1, .inr (.inl u2)))] := hD
    refine W.widen (k := 115) (n := 2067) (Nat.le_of_ble_eq_true rfl) (Nat.le_of_ble_eq_true rfl) ?_
    rcases hw with ⟨rfl, hu0, hf9⟩ | ⟨rfl, hf9⟩
    · skip
      have hf3 := hf9
      refine lv_istore (lv' := [(6, .int 0), (5, .int 0), (4, .ref oD), (3, .ref oJ), (2, .ref k0), (1, .ref h0), (0, .ref b)]) hx hb dL_law_235 hl (Nat.le_of_ble_eq_true rfl) rfl (fun ls hl => ?_)
      refine lv_aload_n hx hb dL_law_237 rfl (lv_at hl 4 rfl) ?_
      refine lv_aload_n hx hb dL_law_238 rfl (lv_at hl 6 rfl) ?_
      refine lv_iload hx hb dL_law_239 (lv_at hl 1 rfl) ?_
      refine lv_iconst (v := 1) hx hb dL_law_241 (by decide) ?_
      refine lv_iadd hx hb dL_law_242 ?_
      refine lv_topi (fun y4 ey4 => ?_)
      obtain rfl : y4 = 1 := ey4.trans (by decide)
      refine va_sld hx hb hX9 hbl hbA hS (show ¬ (_ ∨ _) by decide) dL_law_243 ?_
      refine W.eq (g2 := F0 m 244 ls [.int (xs 1), .ref k0]) rfl ?_
      have hPc := hP.sub (ws' := [(k0, .inr (9, [.ref kN, .ref kA, .ref kO, .ref kK, .ref kV, .ref kG, .ref kP, .ref kC, .ref kD, .ref kE, .ref kF, .ref kX, .ref kY, .int 0, .ref kT, .ref kU, .int 0, .int 0, .int 0])), (kN, .inl (cI, 2, .inl (fun _ => 0))), (kA, .inl (cI, 2, .inl (fun _ => 0))), (kO, .inl (cC, 20, .inl (fun _ => 0)))]) [0, 1, 2, 3] rfl
      have hDc := hD.sub (ws' := [(k0, .inr (9, [.ref kN, .ref kA, .ref kO, .ref kK, .ref kV, .ref kG, .ref kP, .ref kC, .ref kD, .ref kE, .ref kF, .ref kX, .ref kY, .int 0, .ref kT, .ref kU, .int 0, .int 0, .int 0])), (kN, .inl (cI, 2, .inl (fun _ => 0))), (kA, .inl (cI, 2, .inl (fun _ => 0))), (kO, .inl (cC, 20, .inl (fun _ => 0)))]) [0, 1, 2, 3] (by decide) rfl
      have hKc := hK.sub (tys' := [(cI, .int), (cC, .char)]) [1, 0] rfl
      have hFc := va_free (wc := [(k0, .inr (9, [.ref kN, .ref kA, .ref kO, .ref kK, .ref kV, .ref kG, .ref kP, .ref kC, .ref kD, .ref kE, .ref kF, .ref kX, .ref kY, .int 0, .ref kT, .ref kU, .int 0, .int 0, .int 0])), (kN, .inl (cI, 2, .inl (fun _ => 0))), (kA, .inl (cI, 2, .inl (fun _ => 0))), (kO, .inl (cC, 20, .inl (fun _ => 0)))]) hD hS hA [0, 1, 2, 3] rfl
      refine va_calli (va_runV (As := [.int (xs 1)]) (rest := []) ⟨hx, hb, hml, hown, hts⟩ (kX6_addNet l dC dI k0 kN kA kO kK kV kG kP kC kD kE kF kX kY kT kU cI cC (xs 1) H.size) (cwV 1 hts gL_law_X6_addNet rfl rfl rfl (by decide +kernel) ⟨Nat.le_of_ble_eq_true rfl, Nat.le_of_ble_eq_true rfl⟩) (fPreV hN hZ hS (fun q h => hFc q h) hPc hKc hDc (ci := 9) (q0 := 0) rfl rfl) rfl rfl hl.1 rfl (lv_room (Nat.le_of_ble_eq_true rfl)) dL_law_244 ⟨Nat.le_of_ble_eq_true rfl, Nat.le_of_ble_eq_true rfl⟩) hS (fun q _ h => hFc q h) hFc (fun r u t H1 locs ht hvm hw hB hz1 hk1 hS => ?_)
      obtain ⟨hP1, hK1, hD1⟩ := hB
      rw [ht] at hP1
      have hK1 := va_K.moved hvm.symm hK1
      obtain ⟨u5, rfl⟩ : ∃ z, z = u := ⟨_, rfl⟩
      obtain ⟨hP, hD⟩ := va_join (wr := [(oJ, .inl (cJ, 1, .inr (.inl u2)))]) (w1 := [(k0, .inr (9, [.ref kN, .ref kA, .ref kO, .ref kK, .ref kV, .ref kG, .ref kP, .ref kC, .ref kD, .ref kE, .ref kF, .ref kX, .ref kY, .int 0, .ref kT, .ref kU, .int u5, .int 0, .int 0]))]) hP hD [0, 1, 2, 3] [4] rfl rfl (by decide) (by decide) hk1 hFc hP1 hD1
      generalize H1 = H at hP hS ⊢
      have hP : va_P (dC, dI) vwCl [(oJ, .inl (cJ, 1, .inr (.inl u2))), (k0, .inr (9, [.ref kN, .ref kA, .ref kO, .ref kK, .ref kV, .ref kG, .ref kP, .ref kC, .ref kD, .ref kE, .ref kF, .ref kX, .ref kY, .int 0, .ref kT, .ref kU, .int u5, .int 0, .int 0]))] _ := hP
      have hD : va_D A [(oJ, .inl (cJ, 1, .inr (.inl u2))), (k0, .inr (9, [.ref kN, .ref kA, .ref kO, .ref kK, .ref kV, .ref kG, .ref kP, .ref kC, .ref kD, .ref kE, .ref kF, .ref kX, .ref kY, .int 0, .ref kT, .ref kU, .int u5, .int 0, .int 0]))] := hD
      obtain ⟨r6, rfl⟩ : ∃ z, z = r := ⟨_, rfl⟩
      rcases hw with ⟨rfl, rfl, hg9⟩ | ⟨rfl, hg9⟩
      · skip
        have hP : va_P (dC, dI) vwCl [(oJ, .inl (cJ, 1, .inr (.inl u2))), (k0, .inr (9, [.ref kN, .ref kA, .ref kO, .ref kK, .ref kV, .ref kG, .ref kP, .ref kC, .ref kD, .ref kE, .ref kF, .ref kX, .ref kY, .int 0, .ref kT, .ref kU, .int 0, .int 0, .int 0]))] _ := hP
        have hD : va_D A [(oJ, .inl (cJ, 1, .inr (.inl u2))), (k0, .inr (9, [.ref kN, .ref kA, .ref kO, .ref kK, .ref kV, .ref kG, .ref kP, .ref kC, .ref kD, .ref kE, .ref kF, .ref kX, .ref kY, .int 0, .ref kT, .ref kU, .int 0, .int 0, .int 0]))] := hD
        refine lv_istore (lv' := [(7, .int 0), (6, .int 0), (5, .int 0), (4, .ref oD), (3, .ref oJ), (2, .ref k0), (1, .ref h0), (0, .ref b)]) hx hb dL_law_247 hl (Nat.le_of_ble_eq_true rfl) rfl (fun ls hl => ?_)
        refine lv_aload_n hx hb dL_law_249 rfl (lv_at hl 5 rfl) ?_
        have hPc := hP.sub (ws' := [(k0, .inr (9, [.ref kN, .ref kA, .ref kO, .ref kK, .ref kV, .ref kG, .ref kP, .ref kC, .ref kD, .ref kE, .ref kF, .ref kX, .ref kY, .int 0, .ref kT, .ref kU, .int 0, .int 0, .int 0]))]) [1] rfl
        have hDc := hD.sub (ws' := [(k0, .inr (9, [.ref kN, .ref kA, .ref kO, .ref kK, .ref kV, .ref kG, .ref kP, .ref kC, .ref kD, .ref kE, .ref kF, .ref kX, .ref kY, .int 0, .ref kT, .ref kU, .int 0, .int 0, .int 0]))]) [1] (by decide) rfl
        have hKc := hK.sub (tys' := []) [] rfl
        have hFc := va_free (wc := [(k0, .inr (9, [.ref kN, .ref kA, .ref kO, .ref kK, .ref kV, .ref kG, .ref kP, .ref kC, .ref kD, .ref kE, .ref kF, .ref kX, .ref kY, .int 0, .ref kT, .ref kU, .int 0, .int 0, .int 0]))]) hD hS hA [1] rfl
        refine va_calli (va_runV (As := []) (rest := []) ⟨hx, hb, hml, hown, hts⟩ (kX6_thrown l dC dI k0 kN kA kO kK kV kG kP kC kD kE kF kX kY kT kU 0 H.size) (cwV 0 hts gL_law_X6_thrown rfl rfl rfl (by decide +kernel) ⟨Nat.le_of_ble_eq_true rfl, Nat.le_of_ble_eq_true rfl⟩) (fPreV hN hZ hS (fun q h => hFc q h) hPc hKc hDc (ci := 9) (q0 := 0) rfl rfl) rfl rfl hl.1 rfl (lv_room (Nat.le_of_ble_eq_true rfl)) dL_law_250 ⟨Nat.le_of_ble_eq_true rfl, Nat.le_of_ble_eq_true rfl⟩) hS (fun q _ h => hFc q h) hFc (fun r u t H1 locs ht hvm hw hB hz1 hk1 hS => ?_)
        obtain ⟨hP1, hK1, hD1⟩ := hB
        rw [ht] at hP1
        have hK1 := va_K.moved hvm.symm hK1
        obtain ⟨hP, hD⟩ := va_join (wr := [(oJ, .inl (cJ, 1, .inr (.inl u2)))]) (w1 := []) hP hD [1] [0] rfl rfl (by decide) (by decide) hk1 hFc hP1 hD1
        generalize H1 = H at hP hS ⊢
        have hP : va_P (dC, dI) vwCl [(oJ, .inl (cJ, 1, .inr (.inl u2)))] _ := hP
        have hD : va_D A [(oJ, .inl (cJ, 1, .inr (.inl u2)))] := hD
        subst hw
        refine lv_iload hx hb dL_law_253 (lv_at hl 1 rfl) ?_
        refine lv_icmp_eq (tgt := 260) hx hb dL_law_255 (by decide) (fun _ => ?_) (fun h9 => absurd (by decide) h9)
        refine lv_iload hx hb dL_law_260 (lv_at hl 1 rfl) ?_
        refine lv_if_ne (tgt := 277) hx hb dL_law_262 (by decide) (fun h9 => absurd (by decide) h9) (fun _ => ?_)
        refine lv_aload_n hx hb dL_law_265 rfl (lv_at hl 4 rfl) ?_
        refine lv_iconst (v := 0) hx hb dL_law_266 (by decide) ?_
        refine va_lald hx hb hK hP 0 2 rfl rfl (show ¬ (_ ∨ _) by decide) dL_law_267 ?_
        refine lv_topl (fun y7 ey7 => ?_)
        obtain rfl : y7 = 0 := ey7.trans hu0
        refine lv_iload hx hb dL_law_268 (lv_at hl 0 rfl) ?_
        refine lv_i2l (v := 0) hx hb dL_law_270 (by decide) ?_
        refine W.lcmp hx hb dL_law_271 ?_
        refine lv_topi (fun y8 ey8 => ?_)
        obtain rfl : y8 = 0 := ey8.trans (by decide)
        refine lv_if_eq (tgt := 277) hx hb dL_law_272 (by decide) (fun _ => ?_) (fun h9 => absurd (by decide) h9)
        refine lv_goto (tgt := 2720) hx hb dL_law_277 (by decide) ?_
        refine lv_iinc (v := 7) (lv' := [(5, .int 7), (7, .int 0), (6, .int 0), (4, .ref oD), (3, .ref oJ), (2, .ref k0), (1, .ref h0), (0, .ref b)]) hx hb dL_law_2720 hl (k := 2) rfl (by decide) (Nat.le_of_ble_eq_true rfl) rfl (fun ls hl => ?_)
        refine lv_goto (tgt := 28) hx hb dL_law_2723 (by decide) ?_
        refine lv_iload hx hb dL_law_28 (lv_at hl 0 rfl) ?_
        refine lv_aload_n hx hb dL_law_30 rfl (lv_at hl 7 rfl) ?_
        refine va_slen hx hb hX9 hbl hbA hS dL_law_31 ?_
        refine W.eq (g2 := F0 m 32 ls [.int 7, .int 7]) rfl ?_
        refine lv_bipush (v := 7) hx hb dL_law_32 (by decide) ?_
        refine lv_isub hx hb dL_law_34 ?_
        refine lv_topi (fun y10 ey10 => ?_)
        obtain rfl : y10 = 0 := ey10.trans (by decide)
        refine lv_icmp_gt (tgt := 2726) hx hb dL_law_35 (by decide) (fun _ => ?_) (fun h9 => absurd (by decide) h9)
        refine lv_iconst (v := 1) hx hb dL_law_2726 (by decide) ?_
        refine va_forget (fun q hq => hAe _ (hS.2.2 q hq)) ?_
        refine W.widen (k := 600006) (n := 7302048) (Nat.le_of_ble_eq_true rfl) (Nat.le_of_ble_eq_true rfl) ?_
        exact W.base (lw_ret (d0 := s.drawn) (Drawn.sameBut.refl _ _) hx hb hr hlk dL_law_2727)
      · skip
        exact absurd hg9 ((fun h9 => h9 (hf3)))
    · skip
      have hf11 := hf9
      refine lv_istore (lv' := [(6, .int 1), (5, .int 0), (4, .ref oD), (3, .ref oJ), (2, .ref k0), (1, .ref h0), (0, .ref b)]) hx hb dL_law_235 hl (Nat.le_of_ble_eq_true rfl) rfl (fun ls hl => ?_)
      refine lv_aload_n hx hb dL_law_237 rfl (lv_at hl 4 rfl) ?_
      refine lv_aload_n hx hb dL_law_238 rfl (lv_at hl 6 rfl) ?_
      refine lv_iload hx hb dL_law_239 (lv_at hl 1 rfl) ?_
      refine lv_iconst (v := 1) hx hb dL_law_241 (by decide) ?_
      refine lv_iadd hx hb dL_law_242 ?_
      refine lv_topi (fun y12 ey12 => ?_)
      obtain rfl : y12 = 1 := ey12.trans (by decide)
      refine va_sld hx hb hX9 hbl hbA hS (show ¬ (_ ∨ _) by decide) dL_law_243 ?_
      refine W.eq (g2 := F0 m 244 ls [.int (xs 1), .ref k0]) rfl ?_
      have hPc := hP.sub (ws' := [(k0, .inr (9, [.ref kN, .ref kA, .ref kO, .ref kK, .ref kV, .ref kG, .ref kP, .ref kC, .ref kD, .ref kE, .ref kF, .ref kX, .ref kY, .int 0, .ref kT, .ref kU, .int 0, .int 0, .int 0])), (kN, .inl (cI, 2, .inl (fun _ => 0))), (kA, .inl (cI, 2, .inl (fun _ => 0))), (kO, .inl (cC, 20, .inl (fun _ => 0)))]) [0, 1, 2, 3] rfl
      have hDc := hD.sub (ws' := [(k0, .inr (9, [.ref kN, .ref kA, .ref kO, .ref kK, .ref kV, .ref kG, .ref kP, .ref kC, .ref kD, .ref kE, .ref kF, .ref kX, .ref kY, .int 0, .ref kT, .ref kU, .int 0, .int 0, .int 0])), (kN, .inl (cI, 2, .inl (fun _ => 0))), (kA, .inl (cI, 2, .inl (fun _ => 0))), (kO, .inl (cC, 20, .inl (fun _ => 0)))]) [0, 1, 2, 3] (by decide) rfl
      have hKc := hK.sub (tys' := [(cI, .int), (cC, .char)]) [1, 0] rfl
      have hFc := va_free (wc := [(k0, .inr (9, [.ref kN, .ref kA, .ref kO, .ref kK, .ref kV, .ref kG, .ref kP, .ref kC, .ref kD, .ref kE, .ref kF, .ref kX, .ref kY, .int 0, .ref kT, .ref kU, .int 0, .int 0, .int 0])), (kN, .inl (cI, 2, .inl (fun _ => 0))), (kA, .inl (cI, 2, .inl (fun _ => 0))), (kO, .inl (cC, 20, .inl (fun _ => 0)))]) hD hS hA [0, 1, 2, 3] rfl
      refine va_calli (va_runV (As := [.int (xs 1)]) (rest := []) ⟨hx, hb, hml, hown, hts⟩ (kX6_addNet l dC dI k0 kN kA kO kK kV kG kP kC kD kE kF kX kY kT kU cI cC (xs 1) H.size) (cwV 1 hts gL_law_X6_addNet rfl rfl rfl (by decide +kernel) ⟨Nat.le_of_ble_eq_true rfl, Nat.le_of_ble_eq_true rfl⟩) (fPreV hN hZ hS (fun q h => hFc q h) hPc hKc hDc (ci := 9) (q0 := 0) rfl rfl) rfl rfl hl.1 rfl (lv_room (Nat.le_of_ble_eq_true rfl)) dL_law_244 ⟨Nat.le_of_ble_eq_true rfl, Nat.le_of_ble_eq_true rfl⟩) hS (fun q _ h => hFc q h) hFc (fun r u t H1 locs ht hvm hw hB hz1 hk1 hS => ?_)
      obtain ⟨hP1, hK1, hD1⟩ := hB
      rw [ht] at hP1
      have hK1 := va_K.moved hvm.symm hK1
      obtain ⟨u13, rfl⟩ : ∃ z, z = u := ⟨_, rfl⟩
      obtain ⟨hP, hD⟩ := va_join (wr := [(oJ, .inl (cJ, 1, .inr (.inl u2)))]) (w1 := [(k0, .inr (9, [.ref kN, .ref kA, .ref kO, .ref kK, .ref kV, .ref kG, .ref kP, .ref kC, .ref kD, .ref kE, .ref kF, .ref kX, .ref kY, .int 0, .ref kT, .ref kU, .int u13, .int 0, .int 0]))]) hP hD [0, 1, 2, 3] [4] rfl rfl (by decide) (by decide) hk1 hFc hP1 hD1
      generalize H1 = H at hP hS ⊢
      have hP : va_P (dC, dI) vwCl [(oJ, .inl (cJ, 1, .inr (.inl u2))), (k0, .inr (9, [.ref kN, .ref kA, .ref kO, .ref kK, .ref kV, .ref kG, .ref kP, .ref kC, .ref kD, .ref kE, .ref kF, .ref kX, .ref kY, .int 0, .ref kT, .ref kU, .int u13, .int 0, .int 0]))] _ := hP
      have hD : va_D A [(oJ, .inl (cJ, 1, .inr (.inl u2))), (k0, .inr (9, [.ref kN, .ref kA, .ref kO, .ref kK, .ref kV, .ref kG, .ref kP, .ref kC, .ref kD, .ref kE, .ref kF, .ref kX, .ref kY, .int 0, .ref kT, .ref kU, .int u13, .int 0, .int 0]))] := hD
      obtain ⟨r14, rfl⟩ : ∃ z, z = r := ⟨_, rfl⟩
      rcases hw with ⟨rfl, rfl, hg9⟩ | ⟨rfl, hg9⟩
      · skip
        exact absurd hg9 (hf11)
      · skip
        have hP : va_P (dC, dI) vwCl [(oJ, .inl (cJ, 1, .inr (.inl u2))), (k0, .inr (9, [.ref kN, .ref kA, .ref kO, .ref kK, .ref kV, .ref kG, .ref kP, .ref kC, .ref kD, .ref kE, .ref kF, .ref kX, .ref kY, .int 0, .ref kT, .ref kU, .int 1, .int 0, .int 0]))] _ := hP
        have hD : va_D A [(oJ, .inl (cJ, 1, .inr (.inl u2))), (k0, .inr (9, [.ref kN, .ref kA, .ref kO, .ref kK, .ref kV, .ref kG, .ref kP, .ref kC, .ref kD, .ref kE, .ref kF, .ref kX, .ref kY, .int 0, .ref kT, .ref kU, .int 1, .int 0, .int 0]))] := hD
        refine lv_istore (lv' := [(7, .int r14), (6, .int 1), (5, .int 0), (4, .ref oD), (3, .ref oJ), (2, .ref k0), (1, .ref h0), (0, .ref b)]) hx hb dL_law_247 hl (Nat.le_of_ble_eq_true rfl) rfl (fun ls hl => ?_)
        refine lv_aload_n hx hb dL_law_249 rfl (lv_at hl 5 rfl) ?_
        have hPc := hP.sub (ws' := [(k0, .inr (9, [.ref kN, .ref kA, .ref kO, .ref kK, .ref kV, .ref kG, .ref kP, .ref kC, .ref kD, .ref kE, .ref kF, .ref kX, .ref kY, .int 0, .ref kT, .ref kU, .int 1, .int 0, .int 0]))]) [1] rfl
        have hDc := hD.sub (ws' := [(k0, .inr (9, [.ref kN, .ref kA, .ref kO, .ref kK, .ref kV, .ref kG, .ref kP, .ref kC, .ref kD, .ref kE, .ref kF, .ref kX, .ref kY, .int 0, .ref kT, .ref kU, .int 1, .int 0, .int 0]))]) [1] (by decide) rfl
        have hKc := hK.sub (tys' := []) [] rfl
        have hFc := va_free (wc := [(k0, .inr (9, [.ref kN, .ref kA, .ref kO, .ref kK, .ref kV, .ref kG, .ref kP, .ref kC, .ref kD, .ref kE, .ref kF, .ref kX, .ref kY, .int 0, .ref kT, .ref kU, .int 1, .int 0, .int 0]))]) hD hS hA [1] rfl
        refine va_calli (va_runV (As := []) (rest := []) ⟨hx, hb, hml, hown, hts⟩ (kX6_thrown l dC dI k0 kN kA kO kK kV kG kP kC kD kE kF kX kY kT kU 1 H.size) (cwV 0 hts gL_law_X6_thrown rfl rfl rfl (by decide +kernel) ⟨Nat.le_of_ble_eq_true rfl, Nat.le_of_ble_eq_true rfl⟩) (fPreV hN hZ hS (fun q h => hFc q h) hPc hKc hDc (ci := 9) (q0 := 0) rfl rfl) rfl rfl hl.1 rfl (lv_room (Nat.le_of_ble_eq_true rfl)) dL_law_250 ⟨Nat.le_of_ble_eq_true rfl, Nat.le_of_ble_eq_true rfl⟩) hS (fun q _ h => hFc q h) hFc (fun r u t H1 locs ht hvm hw hB hz1 hk1 hS => ?_)
        obtain ⟨hP1, hK1, hD1⟩ := hB
        rw [ht] at hP1
        have hK1 := va_K.moved hvm.symm hK1
        obtain ⟨hP, hD⟩ := va_join (wr := [(oJ, .inl (cJ, 1, .inr (.inl u2)))]) (w1 := []) hP hD [1] [0] rfl rfl (by decide) (by decide) hk1 hFc hP1 hD1
        generalize H1 = H at hP hS ⊢
        have hP : va_P (dC, dI) vwCl [(oJ, .inl (cJ, 1, .inr (.inl u2)))] _ := hP
        have hD : va_D A [(oJ, .inl (cJ, 1, .inr (.inl u2)))] := hD
        subst hw
        refine lv_iload hx hb dL_law_253 (lv_at hl 1 rfl) ?_
        refine lv_icmp_eq (tgt := 260) hx hb dL_law_255 (by decide) (fun _ => ?_) (fun h9 => absurd (by decide) h9)
        refine lv_iload hx hb dL_law_260 (lv_at hl 1 rfl) ?_
        refine lv_if_ne (tgt := 277) hx hb dL_law_262 (by decide) (fun _ => ?_) (fun h9 => absurd h9 (by decide))
        refine lv_goto (tgt := 2720) hx hb dL_law_277 (by decide) ?_
        refine lv_iinc (v := 7) (lv' := [(5, .int 7), (7, .int r14), (6, .int 1), (4, .ref oD), (3, .ref oJ), (2, .ref k0), (1, .ref h0), (0, .ref b)]) hx hb dL_law_2720 hl (k := 2) rfl (by decide) (Nat.le_of_ble_eq_true rfl) rfl (fun ls hl => ?_)
        refine lv_goto (tgt := 28) hx hb dL_law_2723 (by decide) ?_
        refine lv_iload hx hb dL_law_28 (lv_at hl 0 rfl) ?_
        refine lv_aload_n hx hb dL_law_30 rfl (lv_at hl 7 rfl) ?_
        refine va_slen hx hb hX9 hbl hbA hS dL_law_31 ?_
        refine W.eq (g2 := F0 m 32 ls [.int 7, .int 7]) rfl ?_
        refine lv_bipush (v := 7) hx hb dL_law_32 (by decide) ?_
        refine lv_isub hx hb dL_law_34 ?_
        refine lv_topi (fun y15 ey15 => ?_)
        obtain rfl : y15 = 0 := ey15.trans (by decide)
        refine lv_icmp_gt (tgt := 2726) hx hb dL_law_35 (by decide) (fun _ => ?_) (fun h9 => absurd (by decide) h9)
        refine lv_iconst (v := 1) hx hb dL_law_2726 (by decide) ?_
        refine va_forget (fun q hq => hAe _ (hS.2.2 q hq)) ?_
        refine W.widen (k := 600006) (n := 7302048) (Nat.le_of_ble_eq_true rfl) (Nat.le_of_ble_eq_true rfl) ?_
        exact W.base (lw_ret (d0 := s.drawn) (Drawn.sameBut.refl _ _) hx hb hr hlk dL_law_2727)

set_option maxHeartbeats 4000000 in
set_option maxRecDepth 100000 in
/-- case 1 of the law: setPort, on fresh objects -/
theorem lc_1 {p : Program} {e : Env} {s : State} {m : MethodId} {below : List Frame} {meth : Method} {c : Code} (l : Launch) (hfl : l.stackTraces = false) {b : Nat} {xs : Nat → Int32} (hx : p.tables.exec = Jvm.exec) (hb : c.code = cL_law) (hr : meth.sig.returnType = ret) (hml : c.maxLocals = 9) (hown : s.vm.findClass RL = some m.cls) (hts : ∀ w ∈ wsL_law, w.before #[Value.ref b] s = true) (hlk : meth.locks = false) (A : Nat → Prop) (hAe : ∀ q, A q → s.heap.size ≤ q) (hA : ∀ q : Nat, s.heap.size ≤ q → A q) (hX9 : va_X b 7 xs s s.heap) (hbl : b < s.heap.size) (hN : fN s) (hZ : fZ A s s.heap) (hX : fX s) (dC : Nat → ClassId) (dI : Nat → Nat → Nat) (h0 pr w d on op un wL wK wV wN wS wB dL dK dV dN dS dB ma tm k0 kN kA kO kK kV kG kP kC kD kE kF kX kY kT kU oJ oD : Nat) (cI cJ : ClassId) {H : Heap} {locs : List Loc} {ls : Array Slot} (hK : va_K (dC, dI) vwCl [(cI, .int), (cJ, .long)] s) (hP : va_P (dC, dI) vwCl [(h0, .inr (8, [.ref pr, .ref ma, .ref tm])), (pr, .inr (7, [.ref w, .ref d, .ref on, .ref op, .ref un, .int 0, .int 0])), (w, .inr (3, [.int 0, .int 0, .ref wL, .ref wK, .ref wV, .ref wN, .ref wS, .ref wB, .int 0])), (d, .inr (3, [.int 0, .int 0, .ref dL, .ref dK, .ref dV, .ref dN, .ref dS, .ref dB, .int 0])), (k0, .inr (9, [.ref kN, .ref kA, .ref kO, .ref kK, .ref kV, .ref kG, .ref kP, .ref kC, .ref kD, .ref kE, .ref kF, .ref kX, .ref kY, .int 0, .ref kT, .ref kU, .int 0, .int 0, .int 0])), (kN, .inl (cI, 2, .inl (fun _ => 0))), (kA, .inl (cI, 2, .inl (fun _ => 0))), (oJ, .inl (cJ, 1, .inr (.inl (fun _ => 0))))] H) (hD : va_D A [(h0, .inr (8, [.ref pr, .ref ma, .ref tm])), (pr, .inr (7, [.ref w, .ref d, .ref on, .ref op, .ref un, .int 0, .int 0])), (w, .inr (3, [.int 0, .int 0, .ref wL, .ref wK, .ref wV, .ref wN, .ref wS, .ref wB, .int 0])), (d, .inr (3, [.int 0, .int 0, .ref dL, .ref dK, .ref dV, .ref dN, .ref dS, .ref dB, .int 0])), (k0, .inr (9, [.ref kN, .ref kA, .ref kO, .ref kK, .ref kV, .ref kG, .ref kP, .ref kC, .ref kD, .ref kE, .ref kF, .ref kX, .ref kY, .int 0, .ref kT, .ref kU, .int 0, .int 0, .int 0])), (kN, .inl (cI, 2, .inl (fun _ => 0))), (kA, .inl (cI, 2, .inl (fun _ => 0))), (oJ, .inl (cJ, 1, .inr (.inl (fun _ => 0))))]) (hS : va_S A s.heap H locs) (hl : lv_has ls 9 [(5, .int 0), (4, .ref oD), (3, .ref oJ), (2, .ref k0), (1, .ref h0), (0, .ref b)]) : W p l e room_1 s m #[Value.ref b] below meth c H locs 114 2061 (lw_Z below #[Value.ref b] s) (F0 m 280 ls []) := by
  have hbA : ¬ A b := fun h => Nat.not_le.mpr hbl (hAe _ h)
  have hX0 := hX
  refine lv_aload_n hx hb dL_law_280 rfl (lv_at hl 4 rfl) ?_
  refine lv_aload_n hx hb dL_law_281 rfl (lv_at hl 5 rfl) ?_
  refine lv_iload hx hb dL_law_282 (lv_at hl 0 rfl) ?_
  refine lv_iconst (v := 1) hx hb dL_law_284 (by decide) ?_
  refine lv_iadd hx hb dL_law_285 ?_
  refine lv_topi (fun y1 ey1 => ?_)
  obtain rfl : y1 = 1 := ey1.trans (by decide)
  refine va_sld hx hb hX9 hbl hbA hS (show ¬ (_ ∨ _) by decide) dL_law_286 ?_
  refine W.eq (g2 := F0 m 287 ls [.int (xs 1), .ref h0]) rfl ?_
  refine lv_aload_n hx hb dL_law_287 rfl (lv_at hl 5 rfl) ?_
  refine lv_iload hx hb dL_law_288 (lv_at hl 0 rfl) ?_
  refine lv_iconst (v := 2) hx hb dL_law_290 (by decide) ?_
  refine lv_iadd hx hb dL_law_291 ?_
  refine lv_topi (fun y2 ey2 => ?_)
  obtain rfl : y2 = 2 := ey2.trans (by decide)
  refine va_sld hx hb hX9 hbl hbA hS (show ¬ (_ ∨ _) by decide) dL_law_292 ?_
  refine W.eq (g2 := F0 m 293 ls [.int (xs 2), .int (xs 1), .ref h0]) rfl ?_
  refine lv_aload_n hx hb dL_law_293 rfl (lv_at hl 5 rfl) ?_
  refine lv_iload hx hb dL_law_294 (lv_at hl 0 rfl) ?_
  refine lv_iconst (v := 3) hx hb dL_law_296 (by decide) ?_
  refine lv_iadd hx hb dL_law_297 ?_
  refine lv_topi (fun y3 ey3 => ?_)
  obtain rfl : y3 = 3 := ey3.trans (by decide)
  refine va_sld hx hb hX9 hbl hbA hS (show ¬ (_ ∨ _) by decide) dL_law_298 ?_
  refine W.eq (g2 := F0 m 299 ls [.int (xs 3), .int (xs 2), .int (xs 1), .ref h0]) rfl ?_
  refine lv_i2c (v := ((xs 3).toUInt32 % 65536).toInt32) hx hb dL_law_299 rfl ?_
  refine lv_aload_n hx hb dL_law_300 rfl (lv_at hl 2 rfl) ?_
  have hPc := hP.sub (ws' := [(h0, .inr (8, [.ref pr, .ref ma, .ref tm])), (pr, .inr (7, [.ref w, .ref d, .ref on, .ref op, .ref un, .int 0, .int 0])), (w, .inr (3, [.int 0, .int 0, .ref wL, .ref wK, .ref wV, .ref wN, .ref wS, .ref wB, .int 0])), (d, .inr (3, [.int 0, .int 0, .ref dL, .ref dK, .ref dV, .ref dN, .ref dS, .ref dB, .int 0])), (oJ, .inl (cJ, 1, .inr (.inl (fun _ => 0))))]) [0, 1, 2, 3, 7] rfl
  have hDc := hD.sub (ws' := [(h0, .inr (8, [.ref pr, .ref ma, .ref tm])), (pr, .inr (7, [.ref w, .ref d, .ref on, .ref op, .ref un, .int 0, .int 0])), (w, .inr (3, [.int 0, .int 0, .ref wL, .ref wK, .ref wV, .ref wN, .ref wS, .ref wB, .int 0])), (d, .inr (3, [.int 0, .int 0, .ref dL, .ref dK, .ref dV, .ref dN, .ref dS, .ref dB, .int 0])), (oJ, .inl (cJ, 1, .inr (.inl (fun _ => 0))))]) [0, 1, 2, 3, 7] (by decide) rfl
  have hKc := hK.sub (tys' := [(cJ, .long)]) [1] rfl
  have hFc := va_free (wc := [(h0, .inr (8, [.ref pr, .ref ma, .ref tm])), (pr, .inr (7, [.ref w, .ref d, .ref on, .ref op, .ref un, .int 0, .int 0])), (w, .inr (3, [.int 0, .int 0, .ref wL, .ref wK, .ref wV, .ref wN, .ref wS, .ref wB, .int 0])), (d, .inr (3, [.int 0, .int 0, .ref dL, .ref dK, .ref dV, .ref dN, .ref dS, .ref dB, .int 0])), (oJ, .inl (cJ, 1, .inr (.inl (fun _ => 0))))]) hD hS hA [0, 1, 2, 3, 7] rfl
  refine vx_calli (vx_runSX (As := [.ref h0, .int (xs 1), .int (xs 2), .int (((xs 3).toUInt32 % 65536).toInt32), .ref oJ]) (rest := []) ⟨hx, hb, hml, hown, hts⟩ (kL_setPort l hfl dC dI h0 pr ma tm w d on op un wL wK wV wN wS wB dL dK dV dN dS dB oJ cJ (xs 1) (xs 2) (((xs 3).toUInt32 % 65536).toInt32) H.size) (vx_cwSW 5 hts gL_law_L_setPort rfl rfl rfl (by decide +kernel) ⟨Nat.le_of_ble_eq_true rfl, Nat.le_of_ble_eq_true rfl⟩) (gPreS hX hN hZ hS (fun q h => hFc q h) hPc hKc hDc) rfl rfl hl.1 rfl (lv_room (Nat.le_of_ble_eq_true rfl)) dL_law_301 ⟨Nat.le_of_ble_eq_true rfl, Nat.le_of_ble_eq_true rfl⟩) hS (fun q _ h => hFc q h) hFc (fun q _ h => hFc q h) (fun E ce q9 u t H locs ht hvm hpx hE hz1 hk1 hS hq9 hv9 hc9 => ?_) (fun r u t H1 locs ht hvm hw hB hz1 hk1 hS => ?_)
  · skip
    exact hE.elim
  · skip
    obtain ⟨hP1, hK1, hD1⟩ := hB
    rw [ht] at hP1
    have hK1 := va_K.moved hvm.symm hK1
    obtain ⟨u4, rfl⟩ : ∃ z, z = u := ⟨_, rfl⟩
    obtain ⟨hP, hD⟩ := va_join (wr := [(k0, .inr (9, [.ref kN, .ref kA, .ref kO, .ref kK, .ref kV, .ref kG, .ref kP, .ref kC, .ref kD, .ref kE, .ref kF, .ref kX, .ref kY, .int 0, .ref kT, .ref kU, .int 0, .int 0, .int 0])), (kN, .inl (cI, 2, .inl (fun _ => 0))), (kA, .inl (cI, 2, .inl (fun _ => 0)))]) (w1 := [(oJ, .inl (cJ, 1, .inr (.inl u4)))]) hP hD [0, 1, 2, 3, 7] [4, 5, 6] rfl rfl (by decide) (by decide) hk1 hFc hP1 hD1
    generalize H1 = H at hP hS ⊢
    have hP : va_P (dC, dI) vwCl [(k0, .inr (9, [.ref kN, .ref kA, .ref kO, .ref kK, .ref kV, .ref kG, .ref kP, .ref kC, .ref kD, .ref kE, .ref kF, .ref kX, .ref kY, .int 0, .ref kT, .ref kU, .int 0, .int 0, .int 0])), (kN, .inl (cI, 2, .inl (fun _ => 0))), (kA, .inl (cI, 2, .inl (fun _ => 0))), (oJ, .inl (cJ, 1, .inr (.inl u4)))] _ := hP
    have hD : va_D A [(k0, .inr (9, [.ref kN, .ref kA, .ref kO, .ref kK, .ref kV, .ref kG, .ref kP, .ref kC, .ref kD, .ref kE, .ref kF, .ref kX, .ref kY, .int 0, .ref kT, .ref kU, .int 0, .int 0, .int 0])), (kN, .inl (cI, 2, .inl (fun _ => 0))), (kA, .inl (cI, 2, .inl (fun _ => 0))), (oJ, .inl (cJ, 1, .inr (.inl u4)))] := hD
    refine W.widen (k := 117) (n := 2079) (Nat.le_of_ble_eq_true rfl) (Nat.le_of_ble_eq_true rfl) ?_
    rcases hw with ⟨rfl, hf9⟩ | ⟨rfl, hf9⟩
    · skip
      have hf5 := hf9
      refine lv_istore (lv' := [(6, .int 1), (5, .int 0), (4, .ref oD), (3, .ref oJ), (2, .ref k0), (1, .ref h0), (0, .ref b)]) hx hb dL_law_304 hl (Nat.le_of_ble_eq_true rfl) rfl (fun ls hl => ?_)
      refine lv_aload_n hx hb dL_law_306 rfl (lv_at hl 4 rfl) ?_
      refine lv_aload_n hx hb dL_law_307 rfl (lv_at hl 6 rfl) ?_
      refine lv_iload hx hb dL_law_308 (lv_at hl 1 rfl) ?_
      refine lv_iconst (v := 1) hx hb dL_law_310 (by decide) ?_
      refine lv_iadd hx hb dL_law_311 ?_
      refine lv_topi (fun y6 ey6 => ?_)
      obtain rfl : y6 = 1 := ey6.trans (by decide)
      refine va_sld hx hb hX9 hbl hbA hS (show ¬ (_ ∨ _) by decide) dL_law_312 ?_
      refine W.eq (g2 := F0 m 313 ls [.int (xs 1), .ref k0]) rfl ?_
      refine lv_aload_n hx hb dL_law_313 rfl (lv_at hl 6 rfl) ?_
      refine lv_iload hx hb dL_law_314 (lv_at hl 1 rfl) ?_
      refine lv_iconst (v := 2) hx hb dL_law_316 (by decide) ?_
      refine lv_iadd hx hb dL_law_317 ?_
      refine lv_topi (fun y7 ey7 => ?_)
      obtain rfl : y7 = 2 := ey7.trans (by decide)
      refine va_sld hx hb hX9 hbl hbA hS (show ¬ (_ ∨ _) by decide) dL_law_318 ?_
      refine W.eq (g2 := F0 m 319 ls [.int (xs 2), .int (xs 1), .ref k0]) rfl ?_
      refine lv_aload_n hx hb dL_law_319 rfl (lv_at hl 6 rfl) ?_
      refine lv_iload hx hb dL_law_320 (lv_at hl 1 rfl) ?_
      refine lv_iconst (v := 3) hx hb dL_law_322 (by decide) ?_
      refine lv_iadd hx hb dL_law_323 ?_
      refine lv_topi (fun y8 ey8 => ?_)
      obtain rfl : y8 = 3 := ey8.trans (by decide)
      refine va_sld hx hb hX9 hbl hbA hS (show ¬ (_ ∨ _) by decide) dL_law_324 ?_
      refine W.eq (g2 := F0 m 325 ls [.int (xs 3), .int (xs 2), .int (xs 1), .ref k0]) rfl ?_
      refine lv_i2c (v := ((xs 3).toUInt32 % 65536).toInt32) hx hb dL_law_325 rfl ?_
      have hPc := hP.sub (ws' := [(k0, .inr (9, [.ref kN, .ref kA, .ref kO, .ref kK, .ref kV, .ref kG, .ref kP, .ref kC, .ref kD, .ref kE, .ref kF, .ref kX, .ref kY, .int 0, .ref kT, .ref kU, .int 0, .int 0, .int 0])), (kN, .inl (cI, 2, .inl (fun _ => 0))), (kA, .inl (cI, 2, .inl (fun _ => 0)))]) [0, 1, 2] rfl
      have hDc := hD.sub (ws' := [(k0, .inr (9, [.ref kN, .ref kA, .ref kO, .ref kK, .ref kV, .ref kG, .ref kP, .ref kC, .ref kD, .ref kE, .ref kF, .ref kX, .ref kY, .int 0, .ref kT, .ref kU, .int 0, .int 0, .int 0])), (kN, .inl (cI, 2, .inl (fun _ => 0))), (kA, .inl (cI, 2, .inl (fun _ => 0)))]) [0, 1, 2] (by decide) rfl
      have hKc := hK.sub (tys' := [(cI, .int)]) [0] rfl
      have hFc := va_free (wc := [(k0, .inr (9, [.ref kN, .ref kA, .ref kO, .ref kK, .ref kV, .ref kG, .ref kP, .ref kC, .ref kD, .ref kE, .ref kF, .ref kX, .ref kY, .int 0, .ref kT, .ref kU, .int 0, .int 0, .int 0])), (kN, .inl (cI, 2, .inl (fun _ => 0))), (kA, .inl (cI, 2, .inl (fun _ => 0)))]) hD hS hA [0, 1, 2] rfl
      refine va_calli (va_runV (As := [.int (xs 1), .int (xs 2), .int (((xs 3).toUInt32 % 65536).toInt32)]) (rest := []) ⟨hx, hb, hml, hown, hts⟩ (kX6_setPort l dC dI k0 kN kA kO kK kV kG kP kC kD kE kF kX kY kT kU cI (xs 1) (xs 2) (((xs 3).toUInt32 % 65536).toInt32) H.size) (cwV 3 hts gL_law_X6_setPort rfl rfl rfl (by decide +kernel) ⟨Nat.le_of_ble_eq_true rfl, Nat.le_of_ble_eq_true rfl⟩) (fPreV hN hZ hS (fun q h => hFc q h) hPc hKc hDc (ci := 9) (q0 := 0) rfl rfl) rfl rfl hl.1 rfl (lv_room (Nat.le_of_ble_eq_true rfl)) dL_law_326 ⟨Nat.le_of_ble_eq_true rfl, Nat.le_of_ble_eq_true rfl⟩) hS (fun q _ h => hFc q h) hFc (fun r u t H1 locs ht hvm hw hB hz1 hk1 hS => ?_)
      obtain ⟨hP1, hK1, hD1⟩ := hB
      rw [ht] at hP1
      have hK1 := va_K.moved hvm.symm hK1
      obtain ⟨u10, rfl⟩ : ∃ z, z = u := ⟨_, rfl⟩
      obtain ⟨hP, hD⟩ := va_join (wr := [(oJ, .inl (cJ, 1, .inr (.inl u4)))]) (w1 := [(k0, .inr (9, [.ref kN, .ref kA, .ref kO, .ref kK, .ref kV, .ref kG, .ref kP, .ref kC, .ref kD, .ref kE, .ref kF, .ref kX, .ref kY, .int 0, .ref kT, .ref kU, .int u10, .int 0, .int 0]))]) hP hD [0, 1, 2] [3] rfl rfl (by decide) (by decide) hk1 hFc hP1 hD1
      generalize H1 = H at hP hS ⊢
      have hP : va_P (dC, dI) vwCl [(oJ, .inl (cJ, 1, .inr (.inl u4))), (k0, .inr (9, [.ref kN, .ref kA, .ref kO, .ref kK, .ref kV, .ref kG, .ref kP, .ref kC, .ref kD, .ref kE, .ref kF, .ref kX, .ref kY, .int 0, .ref kT, .ref kU, .int u10, .int 0, .int 0]))] _ := hP
      have hD : va_D A [(oJ, .inl (cJ, 1, .inr (.inl u4))), (k0, .inr (9, [.ref kN, .ref kA, .ref kO, .ref kK, .ref kV, .ref kG, .ref kP, .ref kC, .ref kD, .ref kE, .ref kF, .ref kX, .ref kY, .int 0, .ref kT, .ref kU, .int u10, .int 0, .int 0]))] := hD
      obtain ⟨r11, rfl⟩ : ∃ z, z = r := ⟨_, rfl⟩
      rcases hw with ⟨rfl, hg9⟩ | ⟨rfl, hg9⟩
      · skip
        have hP : va_P (dC, dI) vwCl [(oJ, .inl (cJ, 1, .inr (.inl u4))), (k0, .inr (9, [.ref kN, .ref kA, .ref kO, .ref kK, .ref kV, .ref kG, .ref kP, .ref kC, .ref kD, .ref kE, .ref kF, .ref kX, .ref kY, .int 0, .ref kT, .ref kU, .int 1, .int 0, .int 0]))] _ := hP
        have hD : va_D A [(oJ, .inl (cJ, 1, .inr (.inl u4))), (k0, .inr (9, [.ref kN, .ref kA, .ref kO, .ref kK, .ref kV, .ref kG, .ref kP, .ref kC, .ref kD, .ref kE, .ref kF, .ref kX, .ref kY, .int 0, .ref kT, .ref kU, .int 1, .int 0, .int 0]))] := hD
        refine lv_istore (lv' := [(7, .int r11), (6, .int 1), (5, .int 0), (4, .ref oD), (3, .ref oJ), (2, .ref k0), (1, .ref h0), (0, .ref b)]) hx hb dL_law_329 hl (Nat.le_of_ble_eq_true rfl) rfl (fun ls hl => ?_)
        refine lv_aload_n hx hb dL_law_331 rfl (lv_at hl 5 rfl) ?_
        have hPc := hP.sub (ws' := [(k0, .inr (9, [.ref kN, .ref kA, .ref kO, .ref kK, .ref kV, .ref kG, .ref kP, .ref kC, .ref kD, .ref kE, .ref kF, .ref kX, .ref kY, .int 0, .ref kT, .ref kU, .int 1, .int 0, .int 0]))]) [1] rfl
        have hDc := hD.sub (ws' := [(k0, .inr (9, [.ref kN, .ref kA, .ref kO, .ref kK, .ref kV, .ref kG, .ref kP, .ref kC, .ref kD, .ref kE, .ref kF, .ref kX, .ref kY, .int 0, .ref kT, .ref kU, .int 1, .int 0, .int 0]))]) [1] (by decide) rfl
        have hKc := hK.sub (tys' := []) [] rfl
        have hFc := va_free (wc := [(k0, .inr (9, [.ref kN, .ref kA, .ref kO, .ref kK, .ref kV, .ref kG, .ref kP, .ref kC, .ref kD, .ref kE, .ref kF, .ref kX, .ref kY, .int 0, .ref kT, .ref kU, .int 1, .int 0, .int 0]))]) hD hS hA [1] rfl
        refine va_calli (va_runV (As := []) (rest := []) ⟨hx, hb, hml, hown, hts⟩ (kX6_thrown l dC dI k0 kN kA kO kK kV kG kP kC kD kE kF kX kY kT kU 1 H.size) (cwV 0 hts gL_law_X6_thrown rfl rfl rfl (by decide +kernel) ⟨Nat.le_of_ble_eq_true rfl, Nat.le_of_ble_eq_true rfl⟩) (fPreV hN hZ hS (fun q h => hFc q h) hPc hKc hDc (ci := 9) (q0 := 0) rfl rfl) rfl rfl hl.1 rfl (lv_room (Nat.le_of_ble_eq_true rfl)) dL_law_332 ⟨Nat.le_of_ble_eq_true rfl, Nat.le_of_ble_eq_true rfl⟩) hS (fun q _ h => hFc q h) hFc (fun r u t H1 locs ht hvm hw hB hz1 hk1 hS => ?_)
        obtain ⟨hP1, hK1, hD1⟩ := hB
        rw [ht] at hP1
        have hK1 := va_K.moved hvm.symm hK1
        obtain ⟨hP, hD⟩ := va_join (wr := [(oJ, .inl (cJ, 1, .inr (.inl u4)))]) (w1 := []) hP hD [1] [0] rfl rfl (by decide) (by decide) hk1 hFc hP1 hD1
        generalize H1 = H at hP hS ⊢
        have hP : va_P (dC, dI) vwCl [(oJ, .inl (cJ, 1, .inr (.inl u4)))] _ := hP
        have hD : va_D A [(oJ, .inl (cJ, 1, .inr (.inl u4)))] := hD
        subst hw
        refine lv_iload hx hb dL_law_335 (lv_at hl 1 rfl) ?_
        refine lv_icmp_eq (tgt := 342) hx hb dL_law_337 (by decide) (fun _ => ?_) (fun h9 => absurd (by decide) h9)
        refine lv_iload hx hb dL_law_342 (lv_at hl 1 rfl) ?_
        refine lv_if_ne (tgt := 359) hx hb dL_law_344 (by decide) (fun _ => ?_) (fun h9 => absurd h9 (by decide))
        refine lv_goto (tgt := 2720) hx hb dL_law_359 (by decide) ?_
        refine lv_iinc (v := 7) (lv' := [(5, .int 7), (7, .int r11), (6, .int 1), (4, .ref oD), (3, .ref oJ), (2, .ref k0), (1, .ref h0), (0, .ref b)]) hx hb dL_law_2720 hl (k := 2) rfl (by decide) (Nat.le_of_ble_eq_true rfl) rfl (fun ls hl => ?_)
        refine lv_goto (tgt := 28) hx hb dL_law_2723 (by decide) ?_
        refine lv_iload hx hb dL_law_28 (lv_at hl 0 rfl) ?_
        refine lv_aload_n hx hb dL_law_30 rfl (lv_at hl 7 rfl) ?_
        refine va_slen hx hb hX9 hbl hbA hS dL_law_31 ?_
        refine W.eq (g2 := F0 m 32 ls [.int 7, .int 7]) rfl ?_
        refine lv_bipush (v := 7) hx hb dL_law_32 (by decide) ?_
        refine lv_isub hx hb dL_law_34 ?_
        refine lv_topi (fun y12 ey12 => ?_)
        obtain rfl : y12 = 0 := ey12.trans (by decide)
        refine lv_icmp_gt (tgt := 2726) hx hb dL_law_35 (by decide) (fun _ => ?_) (fun h9 => absurd (by decide) h9)
        refine lv_iconst (v := 1) hx hb dL_law_2726 (by decide) ?_
        refine va_forget (fun q hq => hAe _ (hS.2.2 q hq)) ?_
        refine W.widen (k := 600006) (n := 7302048) (Nat.le_of_ble_eq_true rfl) (Nat.le_of_ble_eq_true rfl) ?_
        exact W.base (lw_ret (d0 := s.drawn) (Drawn.sameBut.refl _ _) hx hb hr hlk dL_law_2727)
      · skip
        exact absurd hg9 ((fun h9 => h9 (hf5)))
    · skip
      have hf13 := hf9
      refine lv_istore (lv' := [(6, .int 2), (5, .int 0), (4, .ref oD), (3, .ref oJ), (2, .ref k0), (1, .ref h0), (0, .ref b)]) hx hb dL_law_304 hl (Nat.le_of_ble_eq_true rfl) rfl (fun ls hl => ?_)
      refine lv_aload_n hx hb dL_law_306 rfl (lv_at hl 4 rfl) ?_
      refine lv_aload_n hx hb dL_law_307 rfl (lv_at hl 6 rfl) ?_
      refine lv_iload hx hb dL_law_308 (lv_at hl 1 rfl) ?_
      refine lv_iconst (v := 1) hx hb dL_law_310 (by decide) ?_
      refine lv_iadd hx hb dL_law_311 ?_
      refine lv_topi (fun y14 ey14 => ?_)
      obtain rfl : y14 = 1 := ey14.trans (by decide)
      refine va_sld hx hb hX9 hbl hbA hS (show ¬ (_ ∨ _) by decide) dL_law_312 ?_
      refine W.eq (g2 := F0 m 313 ls [.int (xs 1), .ref k0]) rfl ?_
      refine lv_aload_n hx hb dL_law_313 rfl (lv_at hl 6 rfl) ?_
      refine lv_iload hx hb dL_law_314 (lv_at hl 1 rfl) ?_
      refine lv_iconst (v := 2) hx hb dL_law_316 (by decide) ?_
      refine lv_iadd hx hb dL_law_317 ?_
      refine lv_topi (fun y15 ey15 => ?_)
      obtain rfl : y15 = 2 := ey15.trans (by decide)
      refine va_sld hx hb hX9 hbl hbA hS (show ¬ (_ ∨ _) by decide) dL_law_318 ?_
      refine W.eq (g2 := F0 m 319 ls [.int (xs 2), .int (xs 1), .ref k0]) rfl ?_
      refine lv_aload_n hx hb dL_law_319 rfl (lv_at hl 6 rfl) ?_
      refine lv_iload hx hb dL_law_320 (lv_at hl 1 rfl) ?_
      refine lv_iconst (v := 3) hx hb dL_law_322 (by decide) ?_
      refine lv_iadd hx hb dL_law_323 ?_
      refine lv_topi (fun y16 ey16 => ?_)
      obtain rfl : y16 = 3 := ey16.trans (by decide)
      refine va_sld hx hb hX9 hbl hbA hS (show ¬ (_ ∨ _) by decide) dL_law_324 ?_
      refine W.eq (g2 := F0 m 325 ls [.int (xs 3), .int (xs 2), .int (xs 1), .ref k0]) rfl ?_
      refine lv_i2c (v := ((xs 3).toUInt32 % 65536).toInt32) hx hb dL_law_325 rfl ?_
      have hPc := hP.sub (ws' := [(k0, .inr (9, [.ref kN, .ref kA, .ref kO, .ref kK, .ref kV, .ref kG, .ref kP, .ref kC, .ref kD, .ref kE, .ref kF, .ref kX, .ref kY, .int 0, .ref kT, .ref kU, .int 0, .int 0, .int 0])), (kN, .inl (cI, 2, .inl (fun _ => 0))), (kA, .inl (cI, 2, .inl (fun _ => 0)))]) [0, 1, 2] rfl
      have hDc := hD.sub (ws' := [(k0, .inr (9, [.ref kN, .ref kA, .ref kO, .ref kK, .ref kV, .ref kG, .ref kP, .ref kC, .ref kD, .ref kE, .ref kF, .ref kX, .ref kY, .int 0, .ref kT, .ref kU, .int 0, .int 0, .int 0])), (kN, .inl (cI, 2, .inl (fun _ => 0))), (kA, .inl (cI, 2, .inl (fun _ => 0)))]) [0, 1, 2] (by decide) rfl
      have hKc := hK.sub (tys' := [(cI, .int)]) [0] rfl
      have hFc := va_free (wc := [(k0, .inr (9, [.ref kN, .ref kA, .ref kO, .ref kK, .ref kV, .ref kG, .ref kP, .ref kC, .ref kD, .ref kE, .ref kF, .ref kX, .ref kY, .int 0, .ref kT, .ref kU, .int 0, .int 0, .int 0])), (kN, .inl (cI, 2, .inl (fun _ => 0))), (kA, .inl (cI, 2, .inl (fun _ => 0)))]) hD hS hA [0, 1, 2] rfl
      refine va_calli (va_runV (As := [.int (xs 1), .int (xs 2), .int (((xs 3).toUInt32 % 65536).toInt32)]) (rest := []) ⟨hx, hb, hml, hown, hts⟩ (kX6_setPort l dC dI k0 kN kA kO kK kV kG kP kC kD kE kF kX kY kT kU cI (xs 1) (xs 2) (((xs 3).toUInt32 % 65536).toInt32) H.size) (cwV 3 hts gL_law_X6_setPort rfl rfl rfl (by decide +kernel) ⟨Nat.le_of_ble_eq_true rfl, Nat.le_of_ble_eq_true rfl⟩) (fPreV hN hZ hS (fun q h => hFc q h) hPc hKc hDc (ci := 9) (q0 := 0) rfl rfl) rfl rfl hl.1 rfl (lv_room (Nat.le_of_ble_eq_true rfl)) dL_law_326 ⟨Nat.le_of_ble_eq_true rfl, Nat.le_of_ble_eq_true rfl⟩) hS (fun q _ h => hFc q h) hFc (fun r u t H1 locs ht hvm hw hB hz1 hk1 hS => ?_)
      obtain ⟨hP1, hK1, hD1⟩ := hB
      rw [ht] at hP1
      have hK1 := va_K.moved hvm.symm hK1
      obtain ⟨u17, rfl⟩ : ∃ z, z = u := ⟨_, rfl⟩
      obtain ⟨hP, hD⟩ := va_join (wr := [(oJ, .inl (cJ, 1, .inr (.inl u4)))]) (w1 := [(k0, .inr (9, [.ref kN, .ref kA, .ref kO, .ref kK, .ref kV, .ref kG, .ref kP, .ref kC, .ref kD, .ref kE, .ref kF, .ref kX, .ref kY, .int 0, .ref kT, .ref kU, .int u17, .int 0, .int 0]))]) hP hD [0, 1, 2] [3] rfl rfl (by decide) (by decide) hk1 hFc hP1 hD1
      generalize H1 = H at hP hS ⊢
      have hP : va_P (dC, dI) vwCl [(oJ, .inl (cJ, 1, .inr (.inl u4))), (k0, .inr (9, [.ref kN, .ref kA, .ref kO, .ref kK, .ref kV, .ref kG, .ref kP, .ref kC, .ref kD, .ref kE, .ref kF, .ref kX, .ref kY, .int 0, .ref kT, .ref kU, .int u17, .int 0, .int 0]))] _ := hP
      have hD : va_D A [(oJ, .inl (cJ, 1, .inr (.inl u4))), (k0, .inr (9, [.ref kN, .ref kA, .ref kO, .ref kK, .ref kV, .ref kG, .ref kP, .ref kC, .ref kD, .ref kE, .ref kF, .ref kX, .ref kY, .int 0, .ref kT, .ref kU, .int u17, .int 0, .int 0]))] := hD
      obtain ⟨r18, rfl⟩ : ∃ z, z = r := ⟨_, rfl⟩
      rcases hw with ⟨rfl, hg9⟩ | ⟨rfl, hg9⟩
      · skip
        exact absurd hg9 (hf13)
      · skip
        have hP : va_P (dC, dI) vwCl [(oJ, .inl (cJ, 1, .inr (.inl u4))), (k0, .inr (9, [.ref kN, .ref kA, .ref kO, .ref kK, .ref kV, .ref kG, .ref kP, .ref kC, .ref kD, .ref kE, .ref kF, .ref kX, .ref kY, .int 0, .ref kT, .ref kU, .int 2, .int 0, .int 0]))] _ := hP
        have hD : va_D A [(oJ, .inl (cJ, 1, .inr (.inl u4))), (k0, .inr (9, [.ref kN, .ref kA, .ref kO, .ref kK, .ref kV, .ref kG, .ref kP, .ref kC, .ref kD, .ref kE, .ref kF, .ref kX, .ref kY, .int 0, .ref kT, .ref kU, .int 2, .int 0, .int 0]))] := hD
        refine lv_istore (lv' := [(7, .int r18), (6, .int 2), (5, .int 0), (4, .ref oD), (3, .ref oJ), (2, .ref k0), (1, .ref h0), (0, .ref b)]) hx hb dL_law_329 hl (Nat.le_of_ble_eq_true rfl) rfl (fun ls hl => ?_)
        refine lv_aload_n hx hb dL_law_331 rfl (lv_at hl 5 rfl) ?_
        have hPc := hP.sub (ws' := [(k0, .inr (9, [.ref kN, .ref kA, .ref kO, .ref kK, .ref kV, .ref kG, .ref kP, .ref kC, .ref kD, .ref kE, .ref kF, .ref kX, .ref kY, .int 0, .ref kT, .ref kU, .int 2, .int 0, .int 0]))]) [1] rfl
        have hDc := hD.sub (ws' := [(k0, .inr (9, [.ref kN, .ref kA, .ref kO, .ref kK, .ref kV, .ref kG, .ref kP, .ref kC, .ref kD, .ref kE, .ref kF, .ref kX, .ref kY, .int 0, .ref kT, .ref kU, .int 2, .int 0, .int 0]))]) [1] (by decide) rfl
        have hKc := hK.sub (tys' := []) [] rfl
        have hFc := va_free (wc := [(k0, .inr (9, [.ref kN, .ref kA, .ref kO, .ref kK, .ref kV, .ref kG, .ref kP, .ref kC, .ref kD, .ref kE, .ref kF, .ref kX, .ref kY, .int 0, .ref kT, .ref kU, .int 2, .int 0, .int 0]))]) hD hS hA [1] rfl
        refine va_calli (va_runV (As := []) (rest := []) ⟨hx, hb, hml, hown, hts⟩ (kX6_thrown l dC dI k0 kN kA kO kK kV kG kP kC kD kE kF kX kY kT kU 2 H.size) (cwV 0 hts gL_law_X6_thrown rfl rfl rfl (by decide +kernel) ⟨Nat.le_of_ble_eq_true rfl, Nat.le_of_ble_eq_true rfl⟩) (fPreV hN hZ hS (fun q h => hFc q h) hPc hKc hDc (ci := 9) (q0 := 0) rfl rfl) rfl rfl hl.1 rfl (lv_room (Nat.le_of_ble_eq_true rfl)) dL_law_332 ⟨Nat.le_of_ble_eq_true rfl, Nat.le_of_ble_eq_true rfl⟩) hS (fun q _ h => hFc q h) hFc (fun r u t H1 locs ht hvm hw hB hz1 hk1 hS => ?_)
        obtain ⟨hP1, hK1, hD1⟩ := hB
        rw [ht] at hP1
        have hK1 := va_K.moved hvm.symm hK1
        obtain ⟨hP, hD⟩ := va_join (wr := [(oJ, .inl (cJ, 1, .inr (.inl u4)))]) (w1 := []) hP hD [1] [0] rfl rfl (by decide) (by decide) hk1 hFc hP1 hD1
        generalize H1 = H at hP hS ⊢
        have hP : va_P (dC, dI) vwCl [(oJ, .inl (cJ, 1, .inr (.inl u4)))] _ := hP
        have hD : va_D A [(oJ, .inl (cJ, 1, .inr (.inl u4)))] := hD
        subst hw
        refine lv_iload hx hb dL_law_335 (lv_at hl 1 rfl) ?_
        refine lv_icmp_eq (tgt := 342) hx hb dL_law_337 (by decide) (fun _ => ?_) (fun h9 => absurd (by decide) h9)
        refine lv_iload hx hb dL_law_342 (lv_at hl 1 rfl) ?_
        refine lv_if_ne (tgt := 359) hx hb dL_law_344 (by decide) (fun _ => ?_) (fun h9 => absurd h9 (by decide))
        refine lv_goto (tgt := 2720) hx hb dL_law_359 (by decide) ?_
        refine lv_iinc (v := 7) (lv' := [(5, .int 7), (7, .int r18), (6, .int 2), (4, .ref oD), (3, .ref oJ), (2, .ref k0), (1, .ref h0), (0, .ref b)]) hx hb dL_law_2720 hl (k := 2) rfl (by decide) (Nat.le_of_ble_eq_true rfl) rfl (fun ls hl => ?_)
        refine lv_goto (tgt := 28) hx hb dL_law_2723 (by decide) ?_
        refine lv_iload hx hb dL_law_28 (lv_at hl 0 rfl) ?_
        refine lv_aload_n hx hb dL_law_30 rfl (lv_at hl 7 rfl) ?_
        refine va_slen hx hb hX9 hbl hbA hS dL_law_31 ?_
        refine W.eq (g2 := F0 m 32 ls [.int 7, .int 7]) rfl ?_
        refine lv_bipush (v := 7) hx hb dL_law_32 (by decide) ?_
        refine lv_isub hx hb dL_law_34 ?_
        refine lv_topi (fun y19 ey19 => ?_)
        obtain rfl : y19 = 0 := ey19.trans (by decide)
        refine lv_icmp_gt (tgt := 2726) hx hb dL_law_35 (by decide) (fun _ => ?_) (fun h9 => absurd (by decide) h9)
        refine lv_iconst (v := 1) hx hb dL_law_2726 (by decide) ?_
        refine va_forget (fun q hq => hAe _ (hS.2.2 q hq)) ?_
        refine W.widen (k := 600006) (n := 7302048) (Nat.le_of_ble_eq_true rfl) (Nat.le_of_ble_eq_true rfl) ?_
        exact W.base (lw_ret (d0 := s.drawn) (Drawn.sameBut.refl _ _) hx hb hr hlk dL_law_2727)

set_option maxHeartbeats 4000000 in
set_option maxRecDepth 100000 in
/-- case 2 of the law: addPart, on fresh objects -/
theorem lc_2 {p : Program} {e : Env} {s : State} {m : MethodId} {below : List Frame} {meth : Method} {c : Code} (l : Launch) (hfl : l.stackTraces = false) {b : Nat} {xs : Nat → Int32} (hx : p.tables.exec = Jvm.exec) (hb : c.code = cL_law) (hr : meth.sig.returnType = ret) (hml : c.maxLocals = 9) (hown : s.vm.findClass RL = some m.cls) (hts : ∀ w ∈ wsL_law, w.before #[Value.ref b] s = true) (hlk : meth.locks = false) (A : Nat → Prop) (hAe : ∀ q, A q → s.heap.size ≤ q) (hA : ∀ q : Nat, s.heap.size ≤ q → A q) (hX9 : va_X b 7 xs s s.heap) (hbl : b < s.heap.size) (hN : fN s) (hZ : fZ A s s.heap) (hX : fX s) (dC : Nat → ClassId) (dI : Nat → Nat → Nat) (h0 pr w d on op un wL wK wV wN wS wB dL dK dV dN dS dB ma tm k0 kN kA kO kK kV kG kP kC kD kE kF kX kY kT kU oJ oD : Nat) (cI cJ : ClassId) {H : Heap} {locs : List Loc} {ls : Array Slot} (hK : va_K (dC, dI) vwCl [(cI, .int), (cJ, .long)] s) (hP : va_P (dC, dI) vwCl [(h0, .inr (8, [.ref pr, .ref ma, .ref tm])), (pr, .inr (7, [.ref w, .ref d, .ref on, .ref op, .ref un, .int 0, .int 0])), (w, .inr (3, [.int 0, .int 0, .ref wL, .ref wK, .ref wV, .ref wN, .ref wS, .ref wB, .int 0])), (d, .inr (3, [.int 0, .int 0, .ref dL, .ref dK, .ref dV, .ref dN, .ref dS, .ref dB, .int 0])), (k0, .inr (9, [.ref kN, .ref kA, .ref kO, .ref kK, .ref kV, .ref kG, .ref kP, .ref kC, .ref kD, .ref kE, .ref kF, .ref kX, .ref kY, .int 0, .ref kT, .ref kU, .int 0, .int 0, .int 0])), (kN, .inl (cI, 2, .inl (fun _ => 0))), (kA, .inl (cI, 2, .inl (fun _ => 0))), (oJ, .inl (cJ, 1, .inr (.inl (fun _ => 0))))] H) (hD : va_D A [(h0, .inr (8, [.ref pr, .ref ma, .ref tm])), (pr, .inr (7, [.ref w, .ref d, .ref on, .ref op, .ref un, .int 0, .int 0])), (w, .inr (3, [.int 0, .int 0, .ref wL, .ref wK, .ref wV, .ref wN, .ref wS, .ref wB, .int 0])), (d, .inr (3, [.int 0, .int 0, .ref dL, .ref dK, .ref dV, .ref dN, .ref dS, .ref dB, .int 0])), (k0, .inr (9, [.ref kN, .ref kA, .ref kO, .ref kK, .ref kV, .ref kG, .ref kP, .ref kC, .ref kD, .ref kE, .ref kF, .ref kX, .ref kY, .int 0, .ref kT, .ref kU, .int 0, .int 0, .int 0])), (kN, .inl (cI, 2, .inl (fun _ => 0))), (kA, .inl (cI, 2, .inl (fun _ => 0))), (oJ, .inl (cJ, 1, .inr (.inl (fun _ => 0))))]) (hS : va_S A s.heap H locs) (hl : lv_has ls 9 [(5, .int 0), (4, .ref oD), (3, .ref oJ), (2, .ref k0), (1, .ref h0), (0, .ref b)]) : W p l e room_1 s m #[Value.ref b] below meth c H locs 114 2061 (lw_Z below #[Value.ref b] s) (F0 m 362 ls []) := by
  have hbA : ¬ A b := fun h => Nat.not_le.mpr hbl (hAe _ h)
  have hX0 := hX
  refine lv_aload_n hx hb dL_law_362 rfl (lv_at hl 4 rfl) ?_
  refine lv_aload_n hx hb dL_law_363 rfl (lv_at hl 5 rfl) ?_
  refine lv_iload hx hb dL_law_364 (lv_at hl 0 rfl) ?_
  refine lv_iconst (v := 1) hx hb dL_law_366 (by decide) ?_
  refine lv_iadd hx hb dL_law_367 ?_
  refine lv_topi (fun y1 ey1 => ?_)
  obtain rfl : y1 = 1 := ey1.trans (by decide)
  refine va_sld hx hb hX9 hbl hbA hS (show ¬ (_ ∨ _) by decide) dL_law_368 ?_
  refine W.eq (g2 := F0 m 369 ls [.int (xs 1), .ref h0]) rfl ?_
  refine lv_aload_n hx hb dL_law_369 rfl (lv_at hl 5 rfl) ?_
  refine lv_iload hx hb dL_law_370 (lv_at hl 0 rfl) ?_
  refine lv_iconst (v := 2) hx hb dL_law_372 (by decide) ?_
  refine lv_iadd hx hb dL_law_373 ?_
  refine lv_topi (fun y2 ey2 => ?_)
  obtain rfl : y2 = 2 := ey2.trans (by decide)
  refine va_sld hx hb hX9 hbl hbA hS (show ¬ (_ ∨ _) by decide) dL_law_374 ?_
  refine W.eq (g2 := F0 m 375 ls [.int (xs 2), .int (xs 1), .ref h0]) rfl ?_
  refine lv_i2c (v := ((xs 2).toUInt32 % 65536).toInt32) hx hb dL_law_375 rfl ?_
  refine lv_aload_n hx hb dL_law_376 rfl (lv_at hl 5 rfl) ?_
  refine lv_iload hx hb dL_law_377 (lv_at hl 0 rfl) ?_
  refine lv_iconst (v := 3) hx hb dL_law_379 (by decide) ?_
  refine lv_iadd hx hb dL_law_380 ?_
  refine lv_topi (fun y3 ey3 => ?_)
  obtain rfl : y3 = 3 := ey3.trans (by decide)
  refine va_sld hx hb hX9 hbl hbA hS (show ¬ (_ ∨ _) by decide) dL_law_381 ?_
  refine W.eq (g2 := F0 m 382 ls [.int (xs 3), .int (((xs 2).toUInt32 % 65536).toInt32), .int (xs 1), .ref h0]) rfl ?_
  refine lv_aload_n hx hb dL_law_382 rfl (lv_at hl 5 rfl) ?_
  refine lv_iload hx hb dL_law_383 (lv_at hl 0 rfl) ?_
  refine lv_iconst (v := 4) hx hb dL_law_385 (by decide) ?_
  refine lv_iadd hx hb dL_law_386 ?_
  refine lv_topi (fun y4 ey4 => ?_)
  obtain rfl : y4 = 4 := ey4.trans (by decide)
  refine va_sld hx hb hX9 hbl hbA hS (show ¬ (_ ∨ _) by decide) dL_law_387 ?_
  refine W.eq (g2 := F0 m 388 ls [.int (xs 4), .int (xs 3), .int (((xs 2).toUInt32 % 65536).toInt32), .int (xs 1), .ref h0]) rfl ?_
  refine lv_aload_n hx hb dL_law_388 rfl (lv_at hl 5 rfl) ?_
  refine lv_iload hx hb dL_law_389 (lv_at hl 0 rfl) ?_
  refine lv_iconst (v := 5) hx hb dL_law_391 (by decide) ?_
  refine lv_iadd hx hb dL_law_392 ?_
  refine lv_topi (fun y5 ey5 => ?_)
  obtain rfl : y5 = 5 := ey5.trans (by decide)
  refine va_sld hx hb hX9 hbl hbA hS (show ¬ (_ ∨ _) by decide) dL_law_393 ?_
  refine W.eq (g2 := F0 m 394 ls [.int (xs 5), .int (xs 4), .int (xs 3), .int (((xs 2).toUInt32 % 65536).toInt32), .int (xs 1), .ref h0]) rfl ?_
  refine lv_aload_n hx hb dL_law_394 rfl (lv_at hl 5 rfl) ?_
  refine lv_iload hx hb dL_law_395 (lv_at hl 0 rfl) ?_
  refine lv_bipush (v := 6) hx hb dL_law_397 (by decide) ?_
  refine lv_iadd hx hb dL_law_399 ?_
  refine lv_topi (fun y6 ey6 => ?_)
  obtain rfl : y6 = 6 := ey6.trans (by decide)
  refine va_sld hx hb hX9 hbl hbA hS (show ¬ (_ ∨ _) by decide) dL_law_400 ?_
  refine W.eq (g2 := F0 m 401 ls [.int (xs 6), .int (xs 5), .int (xs 4), .int (xs 3), .int (((xs 2).toUInt32 % 65536).toInt32), .int (xs 1), .ref h0]) rfl ?_
  refine lv_aload_n hx hb dL_law_401 rfl (lv_at hl 2 rfl) ?_
  have hPc := hP.sub (ws' := [(h0, .inr (8, [.ref pr, .ref ma, .ref tm])), (pr, .inr (7, [.ref w, .ref d, .ref on, .ref op, .ref un, .int 0, .int 0])), (w, .inr (3, [.int 0, .int 0, .ref wL, .ref wK, .ref wV, .ref wN, .ref wS, .ref wB, .int 0])), (d, .inr (3, [.int 0, .int 0, .ref dL, .ref dK, .ref dV, .ref dN, .ref dS, .ref dB, .int 0])), (oJ, .inl (cJ, 1, .inr (.inl (fun _ => 0))))]) [0, 1, 2, 3, 7] rfl
  have hDc := hD.sub (ws' := [(h0, .inr (8, [.ref pr, .ref ma, .ref tm])), (pr, .inr (7, [.ref w, .ref d, .ref on, .ref op, .ref un, .int 0, .int 0])), (w, .inr (3, [.int 0, .int 0, .ref wL, .ref wK, .ref wV, .ref wN, .ref wS, .ref wB, .int 0])), (d, .inr (3, [.int 0, .int 0, .ref dL, .ref dK, .ref dV, .ref dN, .ref dS, .ref dB, .int 0])), (oJ, .inl (cJ, 1, .inr (.inl (fun _ => 0))))]) [0, 1, 2, 3, 7] (by decide) rfl
  have hKc := hK.sub (tys' := [(cJ, .long)]) [1] rfl
  have hFc := va_free (wc := [(h0, .inr (8, [.ref pr, .ref ma, .ref tm])), (pr, .inr (7, [.ref w, .ref d, .ref on, .ref op, .ref un, .int 0, .int 0])), (w, .inr (3, [.int 0, .int 0, .ref wL, .ref wK, .ref wV, .ref wN, .ref wS, .ref wB, .int 0])), (d, .inr (3, [.int 0, .int 0, .ref dL, .ref dK, .ref dV, .ref dN, .ref dS, .ref dB, .int 0])), (oJ, .inl (cJ, 1, .inr (.inl (fun _ => 0))))]) hD hS hA [0, 1, 2, 3, 7] rfl
  refine vx_calli (vx_runSX (As := [.ref h0, .int (xs 1), .int (((xs 2).toUInt32 % 65536).toInt32), .int (xs 3), .int (xs 4), .int (xs 5), .int (xs 6), .ref oJ]) (rest := []) ⟨hx, hb, hml, hown, hts⟩ (kL_addPart l hfl dC dI h0 pr ma tm w d on op un wL wK wV wN wS wB dL dK dV dN dS dB oJ cJ (xs 1) (((xs 2).toUInt32 % 65536).toInt32) (xs 3) (xs 4) (xs 5) (xs 6) H.size) (vx_cwSW 8 hts gL_law_L_addPart rfl rfl rfl (by decide +kernel) ⟨Nat.le_of_ble_eq_true rfl, Nat.le_of_ble_eq_true rfl⟩) (gPreS hX hN hZ hS (fun q h => hFc q h) hPc hKc hDc) rfl rfl hl.1 rfl (lv_room (Nat.le_of_ble_eq_true rfl)) dL_law_402 ⟨Nat.le_of_ble_eq_true rfl, Nat.le_of_ble_eq_true rfl⟩) hS (fun q _ h => hFc q h) hFc (fun q _ h => hFc q h) (fun E ce q9 u t H locs ht hvm hpx hE hz1 hk1 hS hq9 hv9 hc9 => ?_) (fun r u t H1 locs ht hvm hw hB hz1 hk1 hS => ?_)
  · skip
    exact hE.elim
  · skip
    obtain ⟨hP1, hK1, hD1⟩ := hB
    rw [ht] at hP1
    have hK1 := va_K.moved hvm.symm hK1
    obtain ⟨u7, rfl⟩ : ∃ z, z = u := ⟨_, rfl⟩
    obtain ⟨hP, hD⟩ := va_join (wr := [(k0, .inr (9, [.ref kN, .ref kA, .ref kO, .ref kK, .ref kV, .ref kG, .ref kP, .ref kC, .ref kD, .ref kE, .ref kF, .ref kX, .ref kY, .int 0, .ref kT, .ref kU, .int 0, .int 0, .int 0])), (kN, .inl (cI, 2, .inl (fun _ => 0))), (kA, .inl (cI, 2, .inl (fun _ => 0)))]) (w1 := [(oJ, .inl (cJ, 1, .inr (.inl u7)))]) hP hD [0, 1, 2, 3, 7] [4, 5, 6] rfl rfl (by decide) (by decide) hk1 hFc hP1 hD1
    generalize H1 = H at hP hS ⊢
    have hP : va_P (dC, dI) vwCl [(k0, .inr (9, [.ref kN, .ref kA, .ref kO, .ref kK, .ref kV, .ref kG, .ref kP, .ref kC, .ref kD, .ref kE, .ref kF, .ref kX, .ref kY, .int 0, .ref kT, .ref kU, .int 0, .int 0, .int 0])), (kN, .inl (cI, 2, .inl (fun _ => 0))), (kA, .inl (cI, 2, .inl (fun _ => 0))), (oJ, .inl (cJ, 1, .inr (.inl u7)))] _ := hP
    have hD : va_D A [(k0, .inr (9, [.ref kN, .ref kA, .ref kO, .ref kK, .ref kV, .ref kG, .ref kP, .ref kC, .ref kD, .ref kE, .ref kF, .ref kX, .ref kY, .int 0, .ref kT, .ref kU, .int 0, .int 0, .int 0])), (kN, .inl (cI, 2, .inl (fun _ => 0))), (kA, .inl (cI, 2, .inl (fun _ => 0))), (oJ, .inl (cJ, 1, .inr (.inl u7)))] := hD
    refine W.widen (k := 119) (n := 2091) (Nat.le_of_ble_eq_true rfl) (Nat.le_of_ble_eq_true rfl) ?_
    rcases hw with ⟨rfl, hf9⟩ | ⟨rfl, hf9⟩
    · skip
      have hf8 := hf9
      refine lv_istore (lv' := [(6, .int 1), (5, .int 0), (4, .ref oD), (3, .ref oJ), (2, .ref k0), (1, .ref h0), (0, .ref b)]) hx hb dL_law_405 hl (Nat.le_of_ble_eq_true rfl) rfl (fun ls hl => ?_)
      refine lv_aload_n hx hb dL_law_407 rfl (lv_at hl 4 rfl) ?_
      refine lv_aload_n hx hb dL_law_408 rfl (lv_at hl 6 rfl) ?_
      refine lv_iload hx hb dL_law_409 (lv_at hl 1 rfl) ?_
      refine lv_iconst (v := 1) hx hb dL_law_411 (by decide) ?_
      refine lv_iadd hx hb dL_law_412 ?_
      refine lv_topi (fun y10 ey10 => ?_)
      obtain rfl : y10 = 1 := ey10.trans (by decide)
      refine va_sld hx hb hX9 hbl hbA hS (show ¬ (_ ∨ _) by decide) dL_law_413 ?_
      refine W.eq (g2 := F0 m 414 ls [.int (xs 1), .ref k0]) rfl ?_
      refine lv_aload_n hx hb dL_law_414 rfl (lv_at hl 6 rfl) ?_
      refine lv_iload hx hb dL_law_415 (lv_at hl 1 rfl) ?_
      refine lv_iconst (v := 2) hx hb dL_law_417 (by decide) ?_
      refine lv_iadd hx hb dL_law_418 ?_
      refine lv_topi (fun y11 ey11 => ?_)
      obtain rfl : y11 = 2 := ey11.trans (by decide)
      refine va_sld hx hb hX9 hbl hbA hS (show ¬ (_ ∨ _) by decide) dL_law_419 ?_
      refine W.eq (g2 := F0 m 420 ls [.int (xs 2), .int (xs 1), .ref k0]) rfl ?_
      refine lv_i2c (v := ((xs 2).toUInt32 % 65536).toInt32) hx hb dL_law_420 rfl ?_
      refine lv_aload_n hx hb dL_law_421 rfl (lv_at hl 6 rfl) ?_
      refine lv_iload hx hb dL_law_422 (lv_at hl 1 rfl) ?_
      refine lv_iconst (v := 3) hx hb dL_law_424 (by decide) ?_
      refine lv_iadd hx hb dL_law_425 ?_
      refine lv_topi (fun y12 ey12 => ?_)
      obtain rfl : y12 = 3 := ey12.trans (by decide)
      refine va_sld hx hb hX9 hbl hbA hS (show ¬ (_ ∨ _) by decide) dL_law_426 ?_
      refine W.eq (g2 := F0 m 427 ls [.int (xs 3), .int (((xs 2).toUInt32 % 65536).toInt32), .int (xs 1), .ref k0]) rfl ?_
      refine lv_aload_n hx hb dL_law_427 rfl (lv_at hl 6 rfl) ?_
      refine lv_iload hx hb dL_law_428 (lv_at hl 1 rfl) ?_
      refine lv_iconst (v := 4) hx hb dL_law_430 (by decide) ?_
      refine lv_iadd hx hb dL_law_431 ?_
      refine lv_topi (fun y13 ey13 => ?_)
      obtain rfl : y13 = 4 := ey13.trans (by decide)
      refine va_sld hx hb hX9 hbl hbA hS (show ¬ (_ ∨ _) by decide) dL_law_432 ?_
      refine W.eq (g2 := F0 m 433 ls [.int (xs 4), .int (xs 3), .int (((xs 2).toUInt32 % 65536).toInt32), .int (xs 1), .ref k0]) rfl ?_
      refine lv_aload_n hx hb dL_law_433 rfl (lv_at hl 6 rfl) ?_
      refine lv_iload hx hb dL_law_434 (lv_at hl 1 rfl) ?_
      refine lv_iconst (v := 5) hx hb dL_law_436 (by decide) ?_
      refine lv_iadd hx hb dL_law_437 ?_
      refine lv_topi (fun y14 ey14 => ?_)
      obtain rfl : y14 = 5 := ey14.trans (by decide)
      refine va_sld hx hb hX9 hbl hbA hS (show ¬ (_ ∨ _) by decide) dL_law_438 ?_
      refine W.eq (g2 := F0 m 439 ls [.int (xs 5), .int (xs 4), .int (xs 3), .int (((xs 2).toUInt32 % 65536).toInt32), .int (xs 1), .ref k0]) rfl ?_
      refine lv_aload_n hx hb dL_law_439 rfl (lv_at hl 6 rfl) ?_
      refine lv_iload hx hb dL_law_440 (lv_at hl 1 rfl) ?_
      refine lv_bipush (v := 6) hx hb dL_law_442 (by decide) ?_
      refine lv_iadd hx hb dL_law_444 ?_
      refine lv_topi (fun y15 ey15 => ?_)
      obtain rfl : y15 = 6 := ey15.trans (by decide)
      refine va_sld hx hb hX9 hbl hbA hS (show ¬ (_ ∨ _) by decide) dL_law_445 ?_
      refine W.eq (g2 := F0 m 446 ls [.int (xs 6), .int (xs 5), .int (xs 4), .int (xs 3), .int (((xs 2).toUInt32 % 65536).toInt32), .int (xs 1), .ref k0]) rfl ?_
      have hPc := hP.sub (ws' := [(k0, .inr (9, [.ref kN, .ref kA, .ref kO, .ref kK, .ref kV, .ref kG, .ref kP, .ref kC, .ref kD, .ref kE, .ref kF, .ref kX, .ref kY, .int 0, .ref kT, .ref kU, .int 0, .int 0, .int 0])), (kN, .inl (cI, 2, .inl (fun _ => 0))), (kA, .inl (cI, 2, .inl (fun _ => 0)))]) [0, 1, 2] rfl
      have hDc := hD.sub (ws' := [(k0, .inr (9, [.ref kN, .ref kA, .ref kO, .ref kK, .ref kV, .ref kG, .ref kP, .ref kC, .ref kD, .ref kE, .ref kF, .ref kX, .ref kY, .int 0, .ref kT, .ref kU, .int 0, .int 0, .int 0])), (kN, .inl (cI, 2, .inl (fun _ => 0))), (kA, .inl (cI, 2, .inl (fun _ => 0)))]) [0, 1, 2] (by decide) rfl
      have hKc := hK.sub (tys' := [(cI, .int)]) [0] rfl
      have hFc := va_free (wc := [(k0, .inr (9, [.ref kN, .ref kA, .ref kO, .ref kK, .ref kV, .ref kG, .ref kP, .ref kC, .ref kD, .ref kE, .ref kF, .ref kX, .ref kY, .int 0, .ref kT, .ref kU, .int 0, .int 0, .int 0])), (kN, .inl (cI, 2, .inl (fun _ => 0))), (kA, .inl (cI, 2, .inl (fun _ => 0)))]) hD hS hA [0, 1, 2] rfl
      refine va_calli (va_runV (As := [.int (xs 1), .int (((xs 2).toUInt32 % 65536).toInt32), .int (xs 3), .int (xs 4), .int (xs 5), .int (xs 6)]) (rest := []) ⟨hx, hb, hml, hown, hts⟩ (kX6_addPart l dC dI k0 kN kA kO kK kV kG kP kC kD kE kF kX kY kT kU cI (xs 1) (((xs 2).toUInt32 % 65536).toInt32) (xs 3) (xs 4) (xs 5) (xs 6) H.size) (cwV 6 hts gL_law_X6_addPart rfl rfl rfl (by decide +kernel) ⟨Nat.le_of_ble_eq_true rfl, Nat.le_of_ble_eq_true rfl⟩) (fPreV hN hZ hS (fun q h => hFc q h) hPc hKc hDc (ci := 9) (q0 := 0) rfl rfl) rfl rfl hl.1 rfl (lv_room (Nat.le_of_ble_eq_true rfl)) dL_law_446 ⟨Nat.le_of_ble_eq_true rfl, Nat.le_of_ble_eq_true rfl⟩) hS (fun q _ h => hFc q h) hFc (fun r u t H1 locs ht hvm hw hB hz1 hk1 hS => ?_)
      obtain ⟨hP1, hK1, hD1⟩ := hB
      rw [ht] at hP1
      have hK1 := va_K.moved hvm.symm hK1
      obtain ⟨u16, rfl⟩ : ∃ z, z = u := ⟨_, rfl⟩
      obtain ⟨hP, hD⟩ := va_join (wr := [(oJ, .inl (cJ, 1, .inr (.inl u7)))]) (w1 := [(k0, .inr (9, [.ref kN, .ref kA, .ref kO, .ref kK, .ref kV, .ref kG, .ref kP, .ref kC, .ref kD, .ref kE, .ref kF, .ref kX, .ref kY, .int 0, .ref kT, .ref kU, .int u16, .int 0, .int 0]))]) hP hD [0, 1, 2] [3] rfl rfl (by decide) (by decide) hk1 hFc hP1 hD1
      generalize H1 = H at hP hS ⊢
      have hP : va_P (dC, dI) vwCl [(oJ, .inl (cJ, 1, .inr (.inl u7))), (k0, .inr (9, [.ref kN, .ref kA, .ref kO, .ref kK, .ref kV, .ref kG, .ref kP, .ref kC, .ref kD, .ref kE, .ref kF, .ref kX, .ref kY, .int 0, .ref kT, .ref kU, .int u16, .int 0, .int 0]))] _ := hP
      have hD : va_D A [(oJ, .inl (cJ, 1, .inr (.inl u7))), (k0, .inr (9, [.ref kN, .ref kA, .ref kO, .ref kK, .ref kV, .ref kG, .ref kP, .ref kC, .ref kD, .ref kE, .ref kF, .ref kX, .ref kY, .int 0, .ref kT, .ref kU, .int u16, .int 0, .int 0]))] := hD
      obtain ⟨r17, rfl⟩ : ∃ z, z = r := ⟨_, rfl⟩
      rcases hw with ⟨rfl, hg9⟩ | ⟨rfl, hg9⟩
      · skip
        have hP : va_P (dC, dI) vwCl [(oJ, .inl (cJ, 1, .inr (.inl u7))), (k0, .inr (9, [.ref kN, .ref kA, .ref kO, .ref kK, .ref kV, .ref kG, .ref kP, .ref kC, .ref kD, .ref kE, .ref kF, .ref kX, .ref kY, .int 0, .ref kT, .ref kU, .int 1, .int 0, .int 0]))] _ := hP
        have hD : va_D A [(oJ, .inl (cJ, 1, .inr (.inl u7))), (k0, .inr (9, [.ref kN, .ref kA, .ref kO, .ref kK, .ref kV, .ref kG, .ref kP, .ref kC, .ref kD, .ref kE, .ref kF, .ref kX, .ref kY, .int 0, .ref kT, .ref kU, .int 1, .int 0, .int 0]))] := hD
        refine lv_istore (lv' := [(7, .int r17), (6, .int 1), (5, .int 0), (4, .ref oD), (3, .ref oJ), (2, .ref k0), (1, .ref h0), (0, .ref b)]) hx hb dL_law_449 hl (Nat.le_of_ble_eq_true rfl) rfl (fun ls hl => ?_)
        refine lv_aload_n hx hb dL_law_451 rfl (lv_at hl 5 rfl) ?_
        have hPc := hP.sub (ws' := [(k0, .inr (9, [.ref kN, .ref kA, .ref kO, .ref kK, .ref kV, .ref kG, .ref kP, .ref kC, .ref kD, .ref kE, .ref kF, .ref kX, .ref kY, .int 0, .ref kT, .ref kU, .int 1, .int 0, .int 0]))]) [1] rfl
        have hDc := hD.sub (ws' := [(k0, .inr (9, [.ref kN, .ref kA, .ref kO, .ref kK, .ref kV, .ref kG, .ref kP, .ref kC, .ref kD, .ref kE, .ref kF, .ref kX, .ref kY, .int 0, .ref kT, .ref kU, .int 1, .int 0, .int 0]))]) [1] (by decide) rfl
        have hKc := hK.sub (tys' := []) [] rfl
        have hFc := va_free (wc := [(k0, .inr (9, [.ref kN, .ref kA, .ref kO, .ref kK, .ref kV, .ref kG, .ref kP, .ref kC, .ref kD, .ref kE, .ref kF, .ref kX, .ref kY, .int 0, .ref kT, .ref kU, .int 1, .int 0, .int 0]))]) hD hS hA [1] rfl
        refine va_calli (va_runV (As := []) (rest := []) ⟨hx, hb, hml, hown, hts⟩ (kX6_thrown l dC dI k0 kN kA kO kK kV kG kP kC kD kE kF kX kY kT kU 1 H.size) (cwV 0 hts gL_law_X6_thrown rfl rfl rfl (by decide +kernel) ⟨Nat.le_of_ble_eq_true rfl, Nat.le_of_ble_eq_true rfl⟩) (fPreV hN hZ hS (fun q h => hFc q h) hPc hKc hDc (ci := 9) (q0 := 0) rfl rfl) rfl rfl hl.1 rfl (lv_room (Nat.le_of_ble_eq_true rfl)) dL_law_452 ⟨Nat.le_of_ble_eq_true rfl, Nat.le_of_ble_eq_true rfl⟩) hS (fun q _ h => hFc q h) hFc (fun r u t H1 locs ht hvm hw hB hz1 hk1 hS => ?_)
        obtain ⟨hP1, hK1, hD1⟩ := hB
        rw [ht] at hP1
        have hK1 := va_K.moved hvm.symm hK1
        obtain ⟨hP, hD⟩ := va_join (wr := [(oJ, .inl (cJ, 1, .inr (.inl u7)))]) (w1 := []) hP hD [1] [0] rfl rfl (by decide) (by decide) hk1 hFc hP1 hD1
        generalize H1 = H at hP hS ⊢
        have hP : va_P (dC, dI) vwCl [(oJ, .inl (cJ, 1, .inr (.inl u7)))] _ := hP
        have hD : va_D A [(oJ, .inl (cJ, 1, .inr (.inl u7)))] := hD
        subst hw
        refine lv_iload hx hb dL_law_455 (lv_at hl 1 rfl) ?_
        refine lv_icmp_eq (tgt := 462) hx hb dL_law_457 (by decide) (fun _ => ?_) (fun h9 => absurd (by decide) h9)
        refine lv_iload hx hb dL_law_462 (lv_at hl 1 rfl) ?_
        refine lv_if_ne (tgt := 479) hx hb dL_law_464 (by decide) (fun _ => ?_) (fun h9 => absurd h9 (by decide))
        refine lv_goto (tgt := 2720) hx hb dL_law_479 (by decide) ?_
        refine lv_iinc (v := 7) (lv' := [(5, .int 7), (7, .int r17), (6, .int 1), (4, .ref oD), (3, .ref oJ), (2, .ref k0), (1, .ref h0), (0, .ref b)]) hx hb dL_law_2720 hl (k := 2) rfl (by decide) (Nat.le_of_ble_eq_true rfl) rfl (fun ls hl => ?_)
        refine lv_goto (tgt := 28) hx hb dL_law_2723 (by decide) ?_
        refine lv_iload hx hb dL_law_28 (lv_at hl 0 rfl) ?_
        refine lv_aload_n hx hb dL_law_30 rfl (lv_at hl 7 rfl) ?_
        refine va_slen hx hb hX9 hbl hbA hS dL_law_31 ?_
        refine W.eq (g2 := F0 m 32 ls [.int 7, .int 7]) rfl ?_
        refine lv_bipush (v := 7) hx hb dL_law_32 (by decide) ?_
        refine lv_isub hx hb dL_law_34 ?_
        refine lv_topi (fun y18 ey18 => ?_)
        obtain rfl : y18 = 0 := ey18.trans (by decide)
        refine lv_icmp_gt (tgt := 2726) hx hb dL_law_35 (by decide) (fun _ => ?_) (fun h9 => absurd (by decide) h9)
        refine lv_iconst (v := 1) hx hb dL_law_2726 (by decide) ?_
        refine va_forget (fun q hq => hAe _ (hS.2.2 q hq)) ?_
        refine W.widen (k := 600006) (n := 7302048) (Nat.le_of_ble_eq_true rfl) (Nat.le_of_ble_eq_true rfl) ?_
        exact W.base (lw_ret (d0 := s.drawn) (Drawn.sameBut.refl _ _) hx hb hr hlk dL_law_2727)
      · skip
        exact absurd hg9 ((fun h9 => h9 (hf8)))
    · skip
      have hf19 := hf9
      refine lv_istore (lv' := [(6, .int 2), (5, .int 0), (4, .ref oD), (3, .ref oJ), (2, .ref k0), (1, .ref h0), (0, .ref b)]) hx hb dL_law_405 hl (Nat.le_of_ble_eq_true rfl) rfl (fun ls hl => ?_)
      refine lv_aload_n hx hb dL_law_407 rfl (lv_at hl 4 rfl) ?_
      refine lv_aload_n hx hb dL_law_408 rfl (lv_at hl 6 rfl) ?_
      refine lv_iload hx hb dL_law_409 (lv_at hl 1 rfl) ?_
      refine lv_iconst (v := 1) hx hb dL_law_411 (by decide) ?_
      refine lv_iadd hx hb dL_law_412 ?_
      refine lv_topi (fun y20 ey20 => ?_)
      obtain rfl : y20 = 1 := ey20.trans (by decide)
      refine va_sld hx hb hX9 hbl hbA hS (show ¬ (_ ∨ _) by decide) dL_law_413 ?_
      refine W.eq (g2 := F0 m 414 ls [.int (xs 1), .ref k0]) rfl ?_
      refine lv_aload_n hx hb dL_law_414 rfl (lv_at hl 6 rfl) ?_
      refine lv_iload hx hb dL_law_415 (lv_at hl 1 rfl) ?_
      refine lv_iconst (v := 2) hx hb dL_law_417 (by decide) ?_
      refine lv_iadd hx hb dL_law_418 ?_
      refine lv_topi (fun y21 ey21 => ?_)
      obtain rfl : y21 = 2 := ey21.trans (by decide)
      refine va_sld hx hb hX9 hbl hbA hS (show ¬ (_ ∨ _) by decide) dL_law_419 ?_
      refine W.eq (g2 := F0 m 420 ls [.int (xs 2), .int (xs 1), .ref k0]) rfl ?_
      refine lv_i2c (v := ((xs 2).toUInt32 % 65536).toInt32) hx hb dL_law_420 rfl ?_
      refine lv_aload_n hx hb dL_law_421 rfl (lv_at hl 6 rfl) ?_
      refine lv_iload hx hb dL_law_422 (lv_at hl 1 rfl) ?_
      refine lv_iconst (v := 3) hx hb dL_law_424 (by decide) ?_
      refine lv_iadd hx hb dL_law_425 ?_
      refine lv_topi (fun y22 ey22 => ?_)
      obtain rfl : y22 = 3 := ey22.trans (by decide)
      refine va_sld hx hb hX9 hbl hbA hS (show ¬ (_ ∨ _) by decide) dL_law_426 ?_
      refine W.eq (g2 := F0 m 427 ls [.int (xs 3), .int (((xs 2).toUInt32 % 65536).toInt32), .int (xs 1), .ref k0]) rfl ?_
      refine lv_aload_n hx hb dL_law_427 rfl (lv_at hl 6 rfl) ?_
      refine lv_iload hx hb dL_law_428 (lv_at hl 1 rfl) ?_
      refine lv_iconst (v := 4) hx hb dL_law_430 (by decide) ?_
      refine lv_iadd hx hb dL_law_431 ?_
      refine lv_topi (fun y23 ey23 => ?_)
      obtain rfl : y23 = 4 := ey23.trans (by decide)
      refine va_sld hx hb hX9 hbl hbA hS (show ¬ (_ ∨ _) by decide) dL_law_432 ?_
      refine W.eq (g2 := F0 m 433 ls [.int (xs 4), .int (xs 3), .int (((xs 2).toUInt32 % 65536).toInt32), .int (xs 1), .ref k0]) rfl ?_
      refine lv_aload_n hx hb dL_law_433 rfl (lv_at hl 6 rfl) ?_
      refine lv_iload hx hb dL_law_434 (lv_at hl 1 rfl) ?_
      refine lv_iconst (v := 5) hx hb dL_law_436 (by decide) ?_
      refine lv_iadd hx hb dL_law_437 ?_
      refine lv_topi (fun y24 ey24 => ?_)
      obtain rfl : y24 = 5 := ey24.trans (by decide)
      refine va_sld hx hb hX9 hbl hbA hS (show ¬ (_ ∨ _) by decide) dL_law_438 ?_
      refine W.eq (g2 := F0 m 439 ls [.int (xs 5), .int (xs 4), .int (xs 3), .int (((xs 2).toUInt32 % 65536).toInt32), .int (xs 1), .ref k0]) rfl ?_
      refine lv_aload_n hx hb dL_law_439 rfl (lv_at hl 6 rfl) ?_
      refine lv_iload hx hb dL_law_440 (lv_at hl 1 rfl) ?_
      refine lv_bipush (v := 6) hx hb dL_law_442 (by decide) ?_
      refine lv_iadd hx hb dL_law_444 ?_
      refine lv_topi (fun y25 ey25 => ?_)
      obtain rfl : y25 = 6 := ey25.trans (by decide)
      refine va_sld hx hb hX9 hbl hbA hS (show ¬ (_ ∨ _) by decide) dL_law_445 ?_
      refine W.eq (g2 := F0 m 446 ls [.int (xs 6), .int (xs 5), .int (xs 4), .int (xs 3), .int (((xs 2).toUInt32 % 65536).toInt32), .int (xs 1), .ref k0]) rfl ?_
      have hPc := hP.sub (ws' := [(k0, .inr (9, [.ref kN, .ref kA, .ref kO, .ref kK, .ref kV, .ref kG, .ref kP, .ref kC, .ref kD, .ref kE, .ref kF, .ref kX, .ref kY, .int 0, .ref kT, .ref kU, .int 0, .int 0, .int 0])), (kN, .inl (cI, 2, .inl (fun _ => 0))), (kA, .inl (cI, 2, .inl (fun _ => 0)))]) [0, 1, 2] rfl
      have hDc := hD.sub (ws' := [(k0, .inr (9, [.ref kN, .ref kA, .ref kO, .ref kK, .ref kV, .ref kG, .ref kP, .ref kC, .ref kD, .ref kE, .ref kF, .ref kX, .ref kY, .int 0, .ref kT, .ref kU, .int 0, .int 0, .int 0])), (kN, .inl (cI, 2, .inl (fun _ => 0))), (kA, .inl (cI, 2, .inl (fun _ => 0)))]) [0, 1, 2] (by decide) rfl
      have hKc := hK.sub (tys' := [(cI, .int)]) [0] rfl
      have hFc := va_free (wc := [(k0, .inr (9, [.ref kN, .ref kA, .ref kO, .ref kK, .ref kV, .ref kG, .ref kP, .ref kC, .ref kD, .ref kE, .ref kF, .ref kX, .ref kY, .int 0, .ref kT, .ref kU, .int 0, .int 0, .int 0])), (kN, .inl (cI, 2, .inl (fun _ => 0))), (kA, .inl (cI, 2, .inl (fun _ => 0)))]) hD hS hA [0, 1, 2] rfl
      refine va_calli (va_runV (As := [.int (xs 1), .int (((xs 2).toUInt32 % 65536).toInt32), .int (xs 3), .int (xs 4), .int (xs 5), .int (xs 6)]) (rest := []) ⟨hx, hb, hml, hown, hts⟩ (kX6_addPart l dC dI k0 kN kA kO kK kV kG kP kC kD kE kF kX kY kT kU cI (xs 1) (((xs 2).toUInt32 % 65536).toInt32) (xs 3) (xs 4) (xs 5) (xs 6) H.size) (cwV 6 hts gL_law_X6_addPart rfl rfl rfl (by decide +kernel) ⟨Nat.le_of_ble_eq_true rfl, Nat.le_of_ble_eq_true rfl⟩) (fPreV hN hZ hS (fun q h => hFc q h) hPc hKc hDc (ci := 9) (q0 := 0) rfl rfl) rfl rfl hl.1 rfl (lv_room (Nat.le_of_ble_eq_true rfl)) dL_law_446 ⟨Nat.le_of_ble_eq_true rfl, Nat.le_of_ble_eq_true rfl⟩) hS (fun q _ h => hFc q h) hFc (fun r u t H1 locs ht hvm hw hB hz1 hk1 hS => ?_)
      obtain ⟨hP1, hK1, hD1⟩ := hB
      rw [ht] at hP1
      have hK1 := va_K.moved hvm.symm hK1
      obtain ⟨u26, rfl⟩ : ∃ z, z = u := ⟨_, rfl⟩
      obtain ⟨hP, hD⟩ := va_join (wr := [(oJ, .inl (cJ, 1, .inr (.inl u7)))]) (w1 := [(k0, .inr (9, [.ref kN, .ref kA, .ref kO, .ref kK, .ref kV, .ref kG, .ref kP, .ref kC, .ref kD, .ref kE, .ref kF, .ref kX, .ref kY, .int 0, .ref kT, .ref kU, .int u26, .int 0, .int 0]))]) hP hD [0, 1, 2] [3] rfl rfl (by decide) (by decide) hk1 hFc hP1 hD1
      generalize H1 = H at hP hS ⊢
      have hP : va_P (dC, dI) vwCl [(oJ, .inl (cJ, 1, .inr (.inl u7))), (k0, .inr (9, [.ref kN, .ref kA, .ref kO, .ref kK, .ref kV, .ref kG, .ref kP, .ref kC, .ref kD, .ref kE, .ref kF, .ref kX, .ref kY, .int 0, .ref kT, .ref kU, .int u26, .int 0, .int 0]))] _ := hP
      have hD : va_D A [(oJ, .inl (cJ, 1, .inr (.inl u7))), (k0, .inr (9, [.ref kN, .ref kA, .ref kO, .ref kK, .ref kV, .ref kG, .ref kP, .ref kC, .ref kD, .ref kE, .ref kF, .ref kX, .ref kY, .int 0, .ref kT, .ref kU, .int u26, .int 0, .int 0]))] := hD
      obtain ⟨r27, rfl⟩ : ∃ z, z = r := ⟨_, rfl⟩
      rcases hw with ⟨rfl, hg9⟩ | ⟨rfl, hg9⟩
      · skip
        exact absurd hg9 (hf19)
      · skip
        have hP : va_P (dC, dI) vwCl [(oJ, .inl (cJ, 1, .inr (.inl u7))), (k0, .inr (9, [.ref kN, .ref kA, .ref kO, .ref kK, .ref kV, .ref kG, .ref kP, .ref kC, .ref kD, .ref kE, .ref kF, .ref kX, .ref kY, .int 0, .ref kT, .ref kU, .int 2, .int 0, .int 0]))] _ := hP
        have hD : va_D A [(oJ, .inl (cJ, 1, .inr (.inl u7))), (k0, .inr (9, [.ref kN, .ref kA, .ref kO, .ref kK, .ref kV, .ref kG, .ref kP, .ref kC, .ref kD, .ref kE, .ref kF, .ref kX, .ref kY, .int 0, .ref kT, .ref kU, .int 2, .int 0, .int 0]))] := hD
        refine lv_istore (lv' := [(7, .int r27), (6, .int 2), (5, .int 0), (4, .ref oD), (3, .ref oJ), (2, .ref k0), (1, .ref h0), (0, .ref b)]) hx hb dL_law_449 hl (Nat.le_of_ble_eq_true rfl) rfl (fun ls hl => ?_)
        refine lv_aload_n hx hb dL_law_451 rfl (lv_at hl 5 rfl) ?_
        have hPc := hP.sub (ws' := [(k0, .inr (9, [.ref kN, .ref kA, .ref kO, .ref kK, .ref kV, .ref kG, .ref kP, .ref kC, .ref kD, .ref kE, .ref kF, .ref kX, .ref kY, .int 0, .ref kT, .ref kU, .int 2, .int 0, .int 0]))]) [1] rfl
        have hDc := hD.sub (ws' := [(k0, .inr (9, [.ref kN, .ref kA, .ref kO, .ref kK, .ref kV, .ref kG, .ref kP, .ref kC, .ref kD, .ref kE, .ref kF, .ref kX, .ref kY, .int 0, .ref kT, .ref kU, .int 2, .int 0, .int 0]))]) [1] (by decide) rfl
        have hKc := hK.sub (tys' := []) [] rfl
        have hFc := va_free (wc := [(k0, .inr (9, [.ref kN, .ref kA, .ref kO, .ref kK, .ref kV, .ref kG, .ref kP, .ref kC, .ref kD, .ref kE, .ref kF, .ref kX, .ref kY, .int 0, .ref kT, .ref kU, .int 2, .int 0, .int 0]))]) hD hS hA [1] rfl
        refine va_calli (va_runV (As := []) (rest := []) ⟨hx, hb, hml, hown, hts⟩ (kX6_thrown l dC dI k0 kN kA kO kK kV kG kP kC kD kE kF kX kY kT kU 2 H.size) (cwV 0 hts gL_law_X6_thrown rfl rfl rfl (by decide +kernel) ⟨Nat.le_of_ble_eq_true rfl, Nat.le_of_ble_eq_true rfl⟩) (fPreV hN hZ hS (fun q h => hFc q h) hPc hKc hDc (ci := 9) (q0 := 0) rfl rfl) rfl rfl hl.1 rfl (lv_room (Nat.le_of_ble_eq_true rfl)) dL_law_452 ⟨Nat.le_of_ble_eq_true rfl, Nat.le_of_ble_eq_true rfl⟩) hS (fun q _ h => hFc q h) hFc (fun r u t H1 locs ht hvm hw hB hz1 hk1 hS => ?_)
        obtain ⟨hP1, hK1, hD1⟩ := hB
        rw [ht] at hP1
        have hK1 := va_K.moved hvm.symm hK1
        obtain ⟨hP, hD⟩ := va_join (wr := [(oJ, .inl (cJ, 1, .inr (.inl u7)))]) (w1 := []) hP hD [1] [0] rfl rfl (by decide) (by decide) hk1 hFc hP1 hD1
        generalize H1 = H at hP hS ⊢
        have hP : va_P (dC, dI) vwCl [(oJ, .inl (cJ, 1, .inr (.inl u7)))] _ := hP
        have hD : va_D A [(oJ, .inl (cJ, 1, .inr (.inl u7)))] := hD
        subst hw
        refine lv_iload hx hb dL_law_455 (lv_at hl 1 rfl) ?_
        refine lv_icmp_eq (tgt := 462) hx hb dL_law_457 (by decide) (fun _ => ?_) (fun h9 => absurd (by decide) h9)
        refine lv_iload hx hb dL_law_462 (lv_at hl 1 rfl) ?_
        refine lv_if_ne (tgt := 479) hx hb dL_law_464 (by decide) (fun _ => ?_) (fun h9 => absurd h9 (by decide))
        refine lv_goto (tgt := 2720) hx hb dL_law_479 (by decide) ?_
        refine lv_iinc (v := 7) (lv' := [(5, .int 7), (7, .int r27), (6, .int 2), (4, .ref oD), (3, .ref oJ), (2, .ref k0), (1, .ref h0), (0, .ref b)]) hx hb dL_law_2720 hl (k := 2) rfl (by decide) (Nat.le_of_ble_eq_true rfl) rfl (fun ls hl => ?_)
        refine lv_goto (tgt := 28) hx hb dL_law_2723 (by decide) ?_
        refine lv_iload hx hb dL_law_28 (lv_at hl 0 rfl) ?_
        refine lv_aload_n hx hb dL_law_30 rfl (lv_at hl 7 rfl) ?_
        refine va_slen hx hb hX9 hbl hbA hS dL_law_31 ?_
        refine W.eq (g2 := F0 m 32 ls [.int 7, .int 7]) rfl ?_
        refine lv_bipush (v := 7) hx hb dL_law_32 (by decide) ?_
        refine lv_isub hx hb dL_law_34 ?_
        refine lv_topi (fun y28 ey28 => ?_)
        obtain rfl : y28 = 0 := ey28.trans (by decide)
        refine lv_icmp_gt (tgt := 2726) hx hb dL_law_35 (by decide) (fun _ => ?_) (fun h9 => absurd (by decide) h9)
        refine lv_iconst (v := 1) hx hb dL_law_2726 (by decide) ?_
        refine va_forget (fun q hq => hAe _ (hS.2.2 q hq)) ?_
        refine W.widen (k := 600006) (n := 7302048) (Nat.le_of_ble_eq_true rfl) (Nat.le_of_ble_eq_true rfl) ?_
        exact W.base (lw_ret (d0 := s.drawn) (Drawn.sameBut.refl _ _) hx hb hr hlk dL_law_2727)

set_option maxHeartbeats 4000000 in
set_option maxRecDepth 100000 in
/-- case 3 of the law: removePart, on fresh objects -/
theorem lc_3 {p : Program} {e : Env} {s : State} {m : MethodId} {below : List Frame} {meth : Method} {c : Code} (l : Launch) (hfl : l.stackTraces = false) {b : Nat} {xs : Nat → Int32} (hx : p.tables.exec = Jvm.exec) (hb : c.code = cL_law) (hr : meth.sig.returnType = ret) (hml : c.maxLocals = 9) (hown : s.vm.findClass RL = some m.cls) (hts : ∀ w ∈ wsL_law, w.before #[Value.ref b] s = true) (hlk : meth.locks = false) (A : Nat → Prop) (hAe : ∀ q, A q → s.heap.size ≤ q) (hA : ∀ q : Nat, s.heap.size ≤ q → A q) (hX9 : va_X b 7 xs s s.heap) (hbl : b < s.heap.size) (hN : fN s) (hZ : fZ A s s.heap) (hX : fX s) (dC : Nat → ClassId) (dI : Nat → Nat → Nat) (h0 pr w d on op un wL wK wV wN wS wB dL dK dV dN dS dB ma tm k0 kN kA kO kK kV kG kP kC kD kE kF kX kY kT kU oJ oD : Nat) (cI cJ : ClassId) {H : Heap} {locs : List Loc} {ls : Array Slot} (hK : va_K (dC, dI) vwCl [(cI, .int), (cJ, .long)] s) (hP : va_P (dC, dI) vwCl [(h0, .inr (8, [.ref pr, .ref ma, .ref tm])), (pr, .inr (7, [.ref w, .ref d, .ref on, .ref op, .ref un, .int 0, .int 0])), (w, .inr (3, [.int 0, .int 0, .ref wL, .ref wK, .ref wV, .ref wN, .ref wS, .ref wB, .int 0])), (d, .inr (3, [.int 0, .int 0, .ref dL, .ref dK, .ref dV, .ref dN, .ref dS, .ref dB, .int 0])), (wV, .inl (cI, 10, .inl (fun _ => 0))), (dV, .inl (cI, 10, .inl (fun _ => 0))), (k0, .inr (9, [.ref kN, .ref kA, .ref kO, .ref kK, .ref kV, .ref kG, .ref kP, .ref kC, .ref kD, .ref kE, .ref kF, .ref kX, .ref kY, .int 0, .ref kT, .ref kU, .int 0, .int 0, .int 0])), (kN, .inl (cI, 2, .inl (fun _ => 0))), (kA, .inl (cI, 2, .inl (fun _ => 0))), (oJ, .inl (cJ, 1, .inr (.inl (fun _ => 0))))] H) (hD : va_D A [(h0, .inr (8, [.ref pr, .ref ma, .ref tm])), (pr, .inr (7, [.ref w, .ref d, .ref on, .ref op, .ref un, .int 0, .int 0])), (w, .inr (3, [.int 0, .int 0, .ref wL, .ref wK, .ref wV, .ref wN, .ref wS, .ref wB, .int 0])), (d, .inr (3, [.int 0, .int 0, .ref dL, .ref dK, .ref dV, .ref dN, .ref dS, .ref dB, .int 0])), (wV, .inl (cI, 10, .inl (fun _ => 0))), (dV, .inl (cI, 10, .inl (fun _ => 0))), (k0, .inr (9, [.ref kN, .ref kA, .ref kO, .ref kK, .ref kV, .ref kG, .ref kP, .ref kC, .ref kD, .ref kE, .ref kF, .ref kX, .ref kY, .int 0, .ref kT, .ref kU, .int 0, .int 0, .int 0])), (kN, .inl (cI, 2, .inl (fun _ => 0))), (kA, .inl (cI, 2, .inl (fun _ => 0))), (oJ, .inl (cJ, 1, .inr (.inl (fun _ => 0))))]) (hS : va_S A s.heap H locs) (hl : lv_has ls 9 [(5, .int 0), (4, .ref oD), (3, .ref oJ), (2, .ref k0), (1, .ref h0), (0, .ref b)]) : W p l e room_1 s m #[Value.ref b] below meth c H locs 114 2061 (lw_Z below #[Value.ref b] s) (F0 m 482 ls []) := by
  have hbA : ¬ A b := fun h => Nat.not_le.mpr hbl (hAe _ h)
  have hX0 := hX
  refine lv_aload_n hx hb dL_law_482 rfl (lv_at hl 4 rfl) ?_
  refine lv_aload_n hx hb dL_law_483 rfl (lv_at hl 5 rfl) ?_
  refine lv_iload hx hb dL_law_484 (lv_at hl 0 rfl) ?_
  refine lv_iconst (v := 1) hx hb dL_law_486 (by decide) ?_
  refine lv_iadd hx hb dL_law_487 ?_
  refine lv_topi (fun y1 ey1 => ?_)
  obtain rfl : y1 = 1 := ey1.trans (by decide)
  refine va_sld hx hb hX9 hbl hbA hS (show ¬ (_ ∨ _) by decide) dL_law_488 ?_
  refine W.eq (g2 := F0 m 489 ls [.int (xs 1), .ref h0]) rfl ?_
  refine lv_aload_n hx hb dL_law_489 rfl (lv_at hl 5 rfl) ?_
  refine lv_iload hx hb dL_law_490 (lv_at hl 0 rfl) ?_
  refine lv_iconst (v := 2) hx hb dL_law_492 (by decide) ?_
  refine lv_iadd hx hb dL_law_493 ?_
  refine lv_topi (fun y2 ey2 => ?_)
  obtain rfl : y2 = 2 := ey2.trans (by decide)
  refine va_sld hx hb hX9 hbl hbA hS (show ¬ (_ ∨ _) by decide) dL_law_494 ?_
  refine W.eq (g2 := F0 m 495 ls [.int (xs 2), .int (xs 1), .ref h0]) rfl ?_
  refine lv_aload_n hx hb dL_law_495 rfl (lv_at hl 2 rfl) ?_
  have hPc := hP.sub (ws' := [(h0, .inr (8, [.ref pr, .ref ma, .ref tm])), (pr, .inr (7, [.ref w, .ref d, .ref on, .ref op, .ref un, .int 0, .int 0])), (w, .inr (3, [.int 0, .int 0, .ref wL, .ref wK, .ref wV, .ref wN, .ref wS, .ref wB, .int 0])), (d, .inr (3, [.int 0, .int 0, .ref dL, .ref dK, .ref dV, .ref dN, .ref dS, .ref dB, .int 0])), (wV, .inl (cI, 10, .inl (fun _ => 0))), (dV, .inl (cI, 10, .inl (fun _ => 0))), (oJ, .inl (cJ, 1, .inr (.inl (fun _ => 0))))]) [0, 1, 2, 3, 4, 5, 9] rfl
  have hDc := hD.sub (ws' := [(h0, .inr (8, [.ref pr, .ref ma, .ref tm])), (pr, .inr (7, [.ref w, .ref d, .ref on, .ref op, .ref un, .int 0, .int 0])), (w, .inr (3, [.int 0, .int 0, .ref wL, .ref wK, .ref wV, .ref wN, .ref wS, .ref wB, .int 0])), (d, .inr (3, [.int 0, .int 0, .ref dL, .ref dK, .ref dV, .ref dN, .ref dS, .ref dB, .int 0])), (wV, .inl (cI, 10, .inl (fun _ => 0))), (dV, .inl (cI, 10, .inl (fun _ => 0))), (oJ, .inl (cJ, 1, .inr (.inl (fun _ => 0))))]) [0, 1, 2, 3, 4, 5, 9] (by decide) rfl
  have hKc := hK.sub (tys' := [(cI, .int), (cJ, .long)]) [0, 1] rfl
  have hFc := va_free (wc := [(h0, .inr (8, [.ref pr, .ref ma, .ref tm])), (pr, .inr (7, [.ref w, .ref d, .ref on, .ref op, .ref un, .int 0, .int 0])), (w, .inr (3, [.int 0, .int 0, .ref wL, .ref wK, .ref wV, .ref wN, .ref wS, .ref wB, .int 0])), (d, .inr (3, [.int 0, .int 0, .ref dL, .ref dK, .ref dV, .ref dN, .ref dS, .ref dB, .int 0])), (wV, .inl (cI, 10, .inl (fun _ => 0))), (dV, .inl (cI, 10, .inl (fun _ => 0))), (oJ, .inl (cJ, 1, .inr (.inl (fun _ => 0))))]) hD hS hA [0, 1, 2, 3, 4, 5, 9] rfl
  refine vx_calli (vx_runSX (As := [.ref h0, .int (xs 1), .int (xs 2), .ref oJ]) (rest := []) ⟨hx, hb, hml, hown, hts⟩ (kL_removePart l hfl dC dI h0 pr ma tm w d on op un wL wK wV wN wS wB dL dK dV dN dS dB cI oJ cJ (xs 1) (xs 2) H.size) (vx_cwSW 4 hts gL_law_L_removePart rfl rfl rfl (by decide +kernel) ⟨Nat.le_of_ble_eq_true rfl, Nat.le_of_ble_eq_true rfl⟩) (gPreS hX hN hZ hS (fun q h => hFc q h) hPc hKc hDc) rfl rfl hl.1 rfl (lv_room (Nat.le_of_ble_eq_true rfl)) dL_law_496 ⟨Nat.le_of_ble_eq_true rfl, Nat.le_of_ble_eq_true rfl⟩) hS (fun q _ h => hFc q h) hFc (fun q _ h => hFc q h) (fun E ce q9 u t H locs ht hvm hpx hE hz1 hk1 hS hq9 hv9 hc9 => ?_) (fun r u t H1 locs ht hvm hw hB hz1 hk1 hS => ?_)
  · skip
    exact hE.elim
  · skip
    obtain ⟨hP1, hK1, hD1⟩ := hB
    rw [ht] at hP1
    have hK1 := va_K.moved hvm.symm hK1
    obtain ⟨u3, rfl⟩ : ∃ z, z = u := ⟨_, rfl⟩
    obtain ⟨hP, hD⟩ := va_join (wr := [(k0, .inr (9, [.ref kN, .ref kA, .ref kO, .ref kK, .ref kV, .ref kG, .ref kP, .ref kC, .ref kD, .ref kE, .ref kF, .ref kX, .ref kY, .int 0, .ref kT, .ref kU, .int 0, .int 0, .int 0])), (kN, .inl (cI, 2, .inl (fun _ => 0))), (kA, .inl (cI, 2, .inl (fun _ => 0)))]) (w1 := [(oJ, .inl (cJ, 1, .inr (.inl u3)))]) hP hD [0, 1, 2, 3, 4, 5, 9] [6, 7, 8] rfl rfl (by decide) (by decide) hk1 hFc hP1 hD1
    generalize H1 = H at hP hS ⊢
    have hP : va_P (dC, dI) vwCl [(k0, .inr (9, [.ref kN, .ref kA, .ref kO, .ref kK, .ref kV, .ref kG, .ref kP, .ref kC, .ref kD, .ref kE, .ref kF, .ref kX, .ref kY, .int 0, .ref kT, .ref kU, .int 0, .int 0, .int 0])), (kN, .inl (cI, 2, .inl (fun _ => 0))), (kA, .inl (cI, 2, .inl (fun _ => 0))), (oJ, .inl (cJ, 1, .inr (.inl u3)))] _ := hP
    have hD : va_D A [(k0, .inr (9, [.ref kN, .ref kA, .ref kO, .ref kK, .ref kV, .ref kG, .ref kP, .ref kC, .ref kD, .ref kE, .ref kF, .ref kX, .ref kY, .int 0, .ref kT, .ref kU, .int 0, .int 0, .int 0])), (kN, .inl (cI, 2, .inl (fun _ => 0))), (kA, .inl (cI, 2, .inl (fun _ => 0))), (oJ, .inl (cJ, 1, .inr (.inl u3)))] := hD
    refine W.widen (k := 117) (n := 2079) (Nat.le_of_ble_eq_true rfl) (Nat.le_of_ble_eq_true rfl) ?_
    rcases hw with ⟨rfl, hf9⟩ | ⟨rfl, hf9⟩
    · skip
      have hf4 := hf9
      refine lv_istore (lv' := [(6, .int 1), (5, .int 0), (4, .ref oD), (3, .ref oJ), (2, .ref k0), (1, .ref h0), (0, .ref b)]) hx hb dL_law_499 hl (Nat.le_of_ble_eq_true rfl) rfl (fun ls hl => ?_)
      refine lv_aload_n hx hb dL_law_501 rfl (lv_at hl 4 rfl) ?_
      refine lv_aload_n hx hb dL_law_502 rfl (lv_at hl 6 rfl) ?_
      refine lv_iload hx hb dL_law_503 (lv_at hl 1 rfl) ?_
      refine lv_iconst (v := 1) hx hb dL_law_505 (by decide) ?_
      refine lv_iadd hx hb dL_law_506 ?_
      refine lv_topi (fun y5 ey5 => ?_)
      obtain rfl : y5 = 1 := ey5.trans (by decide)
      refine va_sld hx hb hX9 hbl hbA hS (show ¬ (_ ∨ _) by decide) dL_law_507 ?_
      refine W.eq (g2 := F0 m 508 ls [.int (xs 1), .ref k0]) rfl ?_
      refine lv_aload_n hx hb dL_law_508 rfl (lv_at hl 6 rfl) ?_
      refine lv_iload hx hb dL_law_509 (lv_at hl 1 rfl) ?_
      refine lv_iconst (v := 2) hx hb dL_law_511 (by decide) ?_
      refine lv_iadd hx hb dL_law_512 ?_
      refine lv_topi (fun y6 ey6 => ?_)
      obtain rfl : y6 = 2 := ey6.trans (by decide)
      refine va_sld hx hb hX9 hbl hbA hS (show ¬ (_ ∨ _) by decide) dL_law_513 ?_
      refine W.eq (g2 := F0 m 514 ls [.int (xs 2), .int (xs 1), .ref k0]) rfl ?_
      have hPc := hP.sub (ws' := [(k0, .inr (9, [.ref kN, .ref kA, .ref kO, .ref kK, .ref kV, .ref kG, .ref kP, .ref kC, .ref kD, .ref kE, .ref kF, .ref kX, .ref kY, .int 0, .ref kT, .ref kU, .int 0, .int 0, .int 0])), (kN, .inl (cI, 2, .inl (fun _ => 0))), (kA, .inl (cI, 2, .inl (fun _ => 0)))]) [0, 1, 2] rfl
      have hDc := hD.sub (ws' := [(k0, .inr (9, [.ref kN, .ref kA, .ref kO, .ref kK, .ref kV, .ref kG, .ref kP, .ref kC, .ref kD, .ref kE, .ref kF, .ref kX, .ref kY, .int 0, .ref kT, .ref kU, .int 0, .int 0, .int 0])), (kN, .inl (cI, 2, .inl (fun _ => 0))), (kA, .inl (cI, 2, .inl (fun _ => 0)))]) [0, 1, 2] (by decide) rfl
      have hKc := hK.sub (tys' := [(cI, .int)]) [0] rfl
      have hFc := va_free (wc := [(k0, .inr (9, [.ref kN, .ref kA, .ref kO, .ref kK, .ref kV, .ref kG, .ref kP, .ref kC, .ref kD, .ref kE, .ref kF, .ref kX, .ref kY, .int 0, .ref kT, .ref kU, .int 0, .int 0, .int 0])), (kN, .inl (cI, 2, .inl (fun _ => 0))), (kA, .inl (cI, 2, .inl (fun _ => 0)))]) hD hS hA [0, 1, 2] rfl
      refine va_calli (va_runV (As := [.int (xs 1), .int (xs 2)]) (rest := []) ⟨hx, hb, hml, hown, hts⟩ (kX6_removePart l dC dI k0 kN kA kO kK kV kG kP kC kD kE kF kX kY kT kU cI (xs 1) (xs 2) H.size) (cwV 2 hts gL_law_X6_removePart rfl rfl rfl (by decide +kernel) ⟨Nat.le_of_ble_eq_true rfl, Nat.le_of_ble_eq_true rfl⟩) (fPreV hN hZ hS (fun q h => hFc q h) hPc hKc hDc (ci := 9) (q0 := 0) rfl rfl) rfl rfl hl.1 rfl (lv_room (Nat.le_of_ble_eq_true rfl)) dL_law_514 ⟨Nat.le_of_ble_eq_true rfl, Nat.le_of_ble_eq_true rfl⟩) hS (fun q _ h => hFc q h) hFc (fun r u t H1 locs ht hvm hw hB hz1 hk1 hS => ?_)
      obtain ⟨hP1, hK1, hD1⟩ := hB
      rw [ht] at hP1
      have hK1 := va_K.moved hvm.symm hK1
      obtain ⟨u7, rfl⟩ : ∃ z, z = u := ⟨_, rfl⟩
      obtain ⟨hP, hD⟩ := va_join (wr := [(oJ, .inl (cJ, 1, .inr (.inl u3)))]) (w1 := [(k0, .inr (9, [.ref kN, .ref kA, .ref kO, .ref kK, .ref kV, .ref kG, .ref kP, .ref kC, .ref kD, .ref kE, .ref kF, .ref kX, .ref kY, .int 0, .ref kT, .ref kU, .int u7, .int 0, .int 0]))]) hP hD [0, 1, 2] [3] rfl rfl (by decide) (by decide) hk1 hFc hP1 hD1
      generalize H1 = H at hP hS ⊢
      have hP : va_P (dC, dI) vwCl [(oJ, .inl (cJ, 1, .inr (.inl u3))), (k0, .inr (9, [.ref kN, .ref kA, .ref kO, .ref kK, .ref kV, .ref kG, .ref kP, .ref kC, .ref kD, .ref kE, .ref kF, .ref kX, .ref kY, .int 0, .ref kT, .ref kU, .int u7, .int 0, .int 0]))] _ := hP
      have hD : va_D A [(oJ, .inl (cJ, 1, .inr (.inl u3))), (k0, .inr (9, [.ref kN, .ref kA, .ref kO, .ref kK, .ref kV, .ref kG, .ref kP, .ref kC, .ref kD, .ref kE, .ref kF, .ref kX, .ref kY, .int 0, .ref kT, .ref kU, .int u7, .int 0, .int 0]))] := hD
      obtain ⟨r8, rfl⟩ : ∃ z, z = r := ⟨_, rfl⟩
      rcases hw with ⟨rfl, hg9⟩ | ⟨rfl, hg9⟩
      · skip
        have hP : va_P (dC, dI) vwCl [(oJ, .inl (cJ, 1, .inr (.inl u3))), (k0, .inr (9, [.ref kN, .ref kA, .ref kO, .ref kK, .ref kV, .ref kG, .ref kP, .ref kC, .ref kD, .ref kE, .ref kF, .ref kX, .ref kY, .int 0, .ref kT, .ref kU, .int 1, .int 0, .int 0]))] _ := hP
        have hD : va_D A [(oJ, .inl (cJ, 1, .inr (.inl u3))), (k0, .inr (9, [.ref kN, .ref kA, .ref kO, .ref kK, .ref kV, .ref kG, .ref kP, .ref kC, .ref kD, .ref kE, .ref kF, .ref kX, .ref kY, .int 0, .ref kT, .ref kU, .int 1, .int 0, .int 0]))] := hD
        refine lv_istore (lv' := [(7, .int r8), (6, .int 1), (5, .int 0), (4, .ref oD), (3, .ref oJ), (2, .ref k0), (1, .ref h0), (0, .ref b)]) hx hb dL_law_517 hl (Nat.le_of_ble_eq_true rfl) rfl (fun ls hl => ?_)
        refine lv_aload_n hx hb dL_law_519 rfl (lv_at hl 5 rfl) ?_
        have hPc := hP.sub (ws' := [(k0, .inr (9, [.ref kN, .ref kA, .ref kO, .ref kK, .ref kV, .ref kG, .ref kP, .ref kC, .ref kD, .ref kE, .ref kF, .ref kX, .ref kY, .int 0, .ref kT, .ref kU, .int 1, .int 0, .int 0]))]) [1] rfl
        have hDc := hD.sub (ws' := [(k0, .inr (9, [.ref kN, .ref kA, .ref kO, .ref kK, .ref kV, .ref kG, .ref kP, .ref kC, .ref kD, .ref kE, .ref kF, .ref kX, .ref kY, .int 0, .ref kT, .ref kU, .int 1, .int 0, .int 0]))]) [1] (by decide) rfl
        have hKc := hK.sub (tys' := []) [] rfl
        have hFc := va_free (wc := [(k0, .inr (9, [.ref kN, .ref kA, .ref kO, .ref kK, .ref kV, .ref kG, .ref kP, .ref kC, .ref kD, .ref kE, .ref kF, .ref kX, .ref kY, .int 0, .ref kT, .ref kU, .int 1, .int 0, .int 0]))]) hD hS hA [1] rfl
        refine va_calli (va_runV (As := []) (rest := []) ⟨hx, hb, hml, hown, hts⟩ (kX6_thrown l dC dI k0 kN kA kO kK kV kG kP kC kD kE kF kX kY kT kU 1 H.size) (cwV 0 hts gL_law_X6_thrown rfl rfl rfl (by decide +kernel) ⟨Nat.le_of_ble_eq_true rfl, Nat.le_of_ble_eq_true rfl⟩) (fPreV hN hZ hS (fun q h => hFc q h) hPc hKc hDc (ci := 9) (q0 := 0) rfl rfl) rfl rfl hl.1 rfl (lv_room (Nat.le_of_ble_eq_true rfl)) dL_law_520 ⟨Nat.le_of_ble_eq_true rfl, Nat.le_of_ble_eq_true rfl⟩) hS (fun q _ h => hFc q h) hFc (fun r u t H1 locs ht hvm hw hB hz1 hk1 hS => ?_)
        obtain ⟨hP1, hK1, hD1⟩ := hB
        rw [ht] at hP1
        have hK1 := va_K.moved hvm.symm hK1
        obtain ⟨hP, hD⟩ := va_join (wr := [(oJ, .inl (cJ, 1, .inr (.inl u3)))]) (w1 := []) hP hD [1] [0] rfl rfl (by decide) (by decide) hk1 hFc hP1 hD1
        generalize H1 = H at hP hS ⊢
        have hP : va_P (dC, dI) vwCl [(oJ, .inl (cJ, 1, .inr (.inl u3)))] _ := hP
        have hD : va_D A [(oJ, .inl (cJ, 1, .inr (.inl u3)))] := hD
        subst hw
        refine lv_iload hx hb dL_law_523 (lv_at hl 1 rfl) ?_
        refine lv_icmp_eq (tgt := 530) hx hb dL_law_525 (by decide) (fun _ => ?_) (fun h9 => absurd (by decide) h9)
        refine lv_iload hx hb dL_law_530 (lv_at hl 1 rfl) ?_
        refine lv_if_ne (tgt := 547) hx hb dL_law_532 (by decide) (fun _ => ?_) (fun h9 => absurd h9 (by decide))
        refine lv_goto (tgt := 2720) hx hb dL_law_547 (by decide) ?_
        refine lv_iinc (v := 7) (lv' := [(5, .int 7), (7, .int r8), (6, .int 1), (4, .ref oD), (3, .ref oJ), (2, .ref k0), (1, .ref h0), (0, .ref b)]) hx hb dL_law_2720 hl (k := 2) rfl (by decide) (Nat.le_of_ble_eq_true rfl) rfl (fun ls hl => ?_)
        refine lv_goto (tgt := 28) hx hb dL_law_2723 (by decide) ?_
        refine lv_iload hx hb dL_law_28 (lv_at hl 0 rfl) ?_
        refine lv_aload_n hx hb dL_law_30 rfl (lv_at hl 7 rfl) ?_
        refine va_slen hx hb hX9 hbl hbA hS dL_law_31 ?_
        refine W.eq (g2 := F0 m 32 ls [.int 7, .int 7]) rfl ?_
        refine lv_bipush (v := 7) hx hb dL_law_32 (by decide) ?_
        refine lv_isub hx hb dL_law_34 ?_
        refine lv_topi (fun y10 ey10 => ?_)
        obtain rfl : y10 = 0 := ey10.trans (by decide)
        refine lv_icmp_gt (tgt := 2726) hx hb dL_law_35 (by decide) (fun _ => ?_) (fun h9 => absurd (by decide) h9)
        refine lv_iconst (v := 1) hx hb dL_law_2726 (by decide) ?_
        refine va_forget (fun q hq => hAe _ (hS.2.2 q hq)) ?_
        refine W.widen (k := 600006) (n := 7302048) (Nat.le_of_ble_eq_true rfl) (Nat.le_of_ble_eq_true rfl) ?_
        exact W.base (lw_ret (d0 := s.drawn) (Drawn.sameBut.refl _ _) hx hb hr hlk dL_law_2727)
      · skip
        exact absurd hg9 ((fun h9 => h9 (hf4)))
    · skip
      have hf11 := hf9
      refine lv_istore (lv' := [(6, .int 2), (5, .int 0), (4, .ref oD), (3, .ref oJ), (2, .ref k0), (1, .ref h0), (0, .ref b)]) hx hb dL_law_499 hl (Nat.le_of_ble_eq_true rfl) rfl (fun ls hl => ?_)
      refine lv_aload_n hx hb dL_law_501 rfl (lv_at hl 4 rfl) ?_
      refine lv_aload_n hx hb dL_law_502 rfl (lv_at hl 6 rfl) ?_
      refine lv_iload hx hb dL_law_503 (lv_at hl 1 rfl) ?_
      refine lv_iconst (v := 1) hx hb dL_law_505 (by decide) ?_
      refine lv_iadd hx hb dL_law_506 ?_
      refine lv_topi (fun y12 ey12 => ?_)
      obtain rfl : y12 = 1 := ey12.trans (by decide)
      refine va_sld hx hb hX9 hbl hbA hS (show ¬ (_ ∨ _) by decide) dL_law_507 ?_
      refine W.eq (g2 := F0 m 508 ls [.int (xs 1), .ref k0]) rfl ?_
      refine lv_aload_n hx hb dL_law_508 rfl (lv_at hl 6 rfl) ?_
      refine lv_iload hx hb dL_law_509 (lv_at hl 1 rfl) ?_
      refine lv_iconst (v := 2) hx hb dL_law_511 (by decide) ?_
      refine lv_iadd hx hb dL_law_512 ?_
      refine lv_topi (fun y13 ey13 => ?_)
      obtain rfl : y13 = 2 := ey13.trans (by decide)
      refine va_sld hx hb hX9 hbl hbA hS (show ¬ (_ ∨ _) by decide) dL_law_513 ?_
      refine W.eq (g2 := F0 m 514 ls [.int (xs 2), .int (xs 1), .ref k0]) rfl ?_
      have hPc := hP.sub (ws' := [(k0, .inr (9, [.ref kN, .ref kA, .ref kO, .ref kK, .ref kV, .ref kG, .ref kP, .ref kC, .ref kD, .ref kE, .ref kF, .ref kX, .ref kY, .int 0, .ref kT, .ref kU, .int 0, .int 0, .int 0])), (kN, .inl (cI, 2, .inl (fun _ => 0))), (kA, .inl (cI, 2, .inl (fun _ => 0)))]) [0, 1, 2] rfl
      have hDc := hD.sub (ws' := [(k0, .inr (9, [.ref kN, .ref kA, .ref kO, .ref kK, .ref kV, .ref kG, .ref kP, .ref kC, .ref kD, .ref kE, .ref kF, .ref kX, .ref kY, .int 0, .ref kT, .ref kU, .int 0, .int 0, .int 0])), (kN, .inl (cI, 2, .inl (fun _ => 0))), (kA, .inl (cI, 2, .inl (fun _ => 0)))]) [0, 1, 2] (by decide) rfl
      have hKc := hK.sub (tys' := [(cI, .int)]) [0] rfl
      have hFc := va_free (wc := [(k0, .inr (9, [.ref kN, .ref kA, .ref kO, .ref kK, .ref kV, .ref kG, .ref kP, .ref kC, .ref kD, .ref kE, .ref kF, .ref kX, .ref kY, .int 0, .ref kT, .ref kU, .int 0, .int 0, .int 0])), (kN, .inl (cI, 2, .inl (fun _ => 0))), (kA, .inl (cI, 2, .inl (fun _ => 0)))]) hD hS hA [0, 1, 2] rfl
      refine va_calli (va_runV (As := [.int (xs 1), .int (xs 2)]) (rest := []) ⟨hx, hb, hml, hown, hts⟩ (kX6_removePart l dC dI k0 kN kA kO kK kV kG kP kC kD kE kF kX kY kT kU cI (xs 1) (xs 2) H.size) (cwV 2 hts gL_law_X6_removePart rfl rfl rfl (by decide +kernel) ⟨Nat.le_of_ble_eq_true rfl, Nat.le_of_ble_eq_true rfl⟩) (fPreV hN hZ hS (fun q h => hFc q h) hPc hKc hDc (ci := 9) (q0 := 0) rfl rfl) rfl rfl hl.1 rfl (lv_room (Nat.le_of_ble_eq_true rfl)) dL_law_514 ⟨Nat.le_of_ble_eq_true rfl, Nat.le_of_ble_eq_true rfl⟩) hS (fun q _ h => hFc q h) hFc (fun r u t H1 locs ht hvm hw hB hz1 hk1 hS => ?_)
      obtain ⟨hP1, hK1, hD1⟩ := hB
      rw [ht] at hP1
      have hK1 := va_K.moved hvm.symm hK1
      obtain ⟨u14, rfl⟩ : ∃ z, z = u := ⟨_, rfl⟩
      obtain ⟨hP, hD⟩ := va_join (wr := [(oJ, .inl (cJ, 1, .inr (.inl u3)))]) (w1 := [(k0, .inr (9, [.ref kN, .ref kA, .ref kO, .ref kK, .ref kV, .ref kG, .ref kP, .ref kC, .ref kD, .ref kE, .ref kF, .ref kX, .ref kY, .int 0, .ref kT, .ref kU, .int u14, .int 0, .int 0]))]) hP hD [0, 1, 2] [3] rfl rfl (by decide) (by decide) hk1 hFc hP1 hD1
      generalize H1 = H at hP hS ⊢
      have hP : va_P (dC, dI) vwCl [(oJ, .inl (cJ, 1, .inr (.inl u3))), (k0, .inr (9, [.ref kN, .ref kA, .ref kO, .ref kK, .ref kV, .ref kG, .ref kP, .ref kC, .ref kD, .ref kE, .ref kF, .ref kX, .ref kY, .int 0, .ref kT, .ref kU, .int u14, .int 0, .int 0]))] _ := hP
      have hD : va_D A [(oJ, .inl (cJ, 1, .inr (.inl u3))), (k0, .inr (9, [.ref kN, .ref kA, .ref kO, .ref kK, .ref kV, .ref kG, .ref kP, .ref kC, .ref kD, .ref kE, .ref kF, .ref kX, .ref kY, .int 0, .ref kT, .ref kU, .int u14, .int 0, .int 0]))] := hD
      obtain ⟨r15, rfl⟩ : ∃ z, z = r := ⟨_, rfl⟩
      rcases hw with ⟨rfl, hg9⟩ | ⟨rfl, hg9⟩
      · skip
        exact absurd hg9 (hf11)
      · skip
        have hP : va_P (dC, dI) vwCl [(oJ, .inl (cJ, 1, .inr (.inl u3))), (k0, .inr (9, [.ref kN, .ref kA, .ref kO, .ref kK, .ref kV, .ref kG, .ref kP, .ref kC, .ref kD, .ref kE, .ref kF, .ref kX, .ref kY, .int 0, .ref kT, .ref kU, .int 2, .int 0, .int 0]))] _ := hP
        have hD : va_D A [(oJ, .inl (cJ, 1, .inr (.inl u3))), (k0, .inr (9, [.ref kN, .ref kA, .ref kO, .ref kK, .ref kV, .ref kG, .ref kP, .ref kC, .ref kD, .ref kE, .ref kF, .ref kX, .ref kY, .int 0, .ref kT, .ref kU, .int 2, .int 0, .int 0]))] := hD
        refine lv_istore (lv' := [(7, .int r15), (6, .int 2), (5, .int 0), (4, .ref oD), (3, .ref oJ), (2, .ref k0), (1, .ref h0), (0, .ref b)]) hx hb dL_law_517 hl (Nat.le_of_ble_eq_true rfl) rfl (fun ls hl => ?_)
        refine lv_aload_n hx hb dL_law_519 rfl (lv_at hl 5 rfl) ?_
        have hPc := hP.sub (ws' := [(k0, .inr (9, [.ref kN, .ref kA, .ref kO, .ref kK, .ref kV, .ref kG, .ref kP, .ref kC, .ref kD, .ref kE, .ref kF, .ref kX, .ref kY, .int 0, .ref kT, .ref kU, .int 2, .int 0, .int 0]))]) [1] rfl
        have hDc := hD.sub (ws' := [(k0, .inr (9, [.ref kN, .ref kA, .ref kO, .ref kK, .ref kV, .ref kG, .ref kP, .ref kC, .ref kD, .ref kE, .ref kF, .ref kX, .ref kY, .int 0, .ref kT, .ref kU, .int 2, .int 0, .int 0]))]) [1] (by decide) rfl
        have hKc := hK.sub (tys' := []) [] rfl
        have hFc := va_free (wc := [(k0, .inr (9, [.ref kN, .ref kA, .ref kO, .ref kK, .ref kV, .ref kG, .ref kP, .ref kC, .ref kD, .ref kE, .ref kF, .ref kX, .ref kY, .int 0, .ref kT, .ref kU, .int 2, .int 0, .int 0]))]) hD hS hA [1] rfl
        refine va_calli (va_runV (As := []) (rest := []) ⟨hx, hb, hml, hown, hts⟩ (kX6_thrown l dC dI k0 kN kA kO kK kV kG kP kC kD kE kF kX kY kT kU 2 H.size) (cwV 0 hts gL_law_X6_thrown rfl rfl rfl (by decide +kernel) ⟨Nat.le_of_ble_eq_true rfl, Nat.le_of_ble_eq_true rfl⟩) (fPreV hN hZ hS (fun q h => hFc q h) hPc hKc hDc (ci := 9) (q0 := 0) rfl rfl) rfl rfl hl.1 rfl (lv_room (Nat.le_of_ble_eq_true rfl)) dL_law_520 ⟨Nat.le_of_ble_eq_true rfl, Nat.le_of_ble_eq_true rfl⟩) hS (fun q _ h => hFc q h) hFc (fun r u t H1 locs ht hvm hw hB hz1 hk1 hS => ?_)
        obtain ⟨hP1, hK1, hD1⟩ := hB
        rw [ht] at hP1
        have hK1 := va_K.moved hvm.symm hK1
        obtain ⟨hP, hD⟩ := va_join (wr := [(oJ, .inl (cJ, 1, .inr (.inl u3)))]) (w1 := []) hP hD [1] [0] rfl rfl (by decide) (by decide) hk1 hFc hP1 hD1
        generalize H1 = H at hP hS ⊢
        have hP : va_P (dC, dI) vwCl [(oJ, .inl (cJ, 1, .inr (.inl u3)))] _ := hP
        have hD : va_D A [(oJ, .inl (cJ, 1, .inr (.inl u3)))] := hD
        subst hw
        refine lv_iload hx hb dL_law_523 (lv_at hl 1 rfl) ?_
        refine lv_icmp_eq (tgt := 530) hx hb dL_law_525 (by decide) (fun _ => ?_) (fun h9 => absurd (by decide) h9)
        refine lv_iload hx hb dL_law_530 (lv_at hl 1 rfl) ?_
        refine lv_if_ne (tgt := 547) hx hb dL_law_532 (by decide) (fun _ => ?_) (fun h9 => absurd h9 (by decide))
        refine lv_goto (tgt := 2720) hx hb dL_law_547 (by decide) ?_
        refine lv_iinc (v := 7) (lv' := [(5, .int 7), (7, .int r15), (6, .int 2), (4, .ref oD), (3, .ref oJ), (2, .ref k0), (1, .ref h0), (0, .ref b)]) hx hb dL_law_2720 hl (k := 2) rfl (by decide) (Nat.le_of_ble_eq_true rfl) rfl (fun ls hl => ?_)
        refine lv_goto (tgt := 28) hx hb dL_law_2723 (by decide) ?_
        refine lv_iload hx hb dL_law_28 (lv_at hl 0 rfl) ?_
        refine lv_aload_n hx hb dL_law_30 rfl (lv_at hl 7 rfl) ?_
        refine va_slen hx hb hX9 hbl hbA hS dL_law_31 ?_
        refine W.eq (g2 := F0 m 32 ls [.int 7, .int 7]) rfl ?_
        refine lv_bipush (v := 7) hx hb dL_law_32 (by decide) ?_
        refine lv_isub hx hb dL_law_34 ?_
        refine lv_topi (fun y16 ey16 => ?_)
        obtain rfl : y16 = 0 := ey16.trans (by decide)
        refine lv_icmp_gt (tgt := 2726) hx hb dL_law_35 (by decide) (fun _ => ?_) (fun h9 => absurd (by decide) h9)
        refine lv_iconst (v := 1) hx hb dL_law_2726 (by decide) ?_
        refine va_forget (fun q hq => hAe _ (hS.2.2 q hq)) ?_
        refine W.widen (k := 600006) (n := 7302048) (Nat.le_of_ble_eq_true rfl) (Nat.le_of_ble_eq_true rfl) ?_
        exact W.base (lw_ret (d0 := s.drawn) (Drawn.sameBut.refl _ _) hx hb hr hlk dL_law_2727)

set_option maxHeartbeats 4000000 in
set_option maxRecDepth 100000 in
/-- case 4 of the law: setValue, on fresh objects -/
theorem lc_4 {p : Program} {e : Env} {s : State} {m : MethodId} {below : List Frame} {meth : Method} {c : Code} (l : Launch) (hfl : l.stackTraces = false) {b : Nat} {xs : Nat → Int32} (hx : p.tables.exec = Jvm.exec) (hb : c.code = cL_law) (hr : meth.sig.returnType = ret) (hml : c.maxLocals = 9) (hown : s.vm.findClass RL = some m.cls) (hts : ∀ w ∈ wsL_law, w.before #[Value.ref b] s = true) (hlk : meth.locks = false) (A : Nat → Prop) (hAe : ∀ q, A q → s.heap.size ≤ q) (hA : ∀ q : Nat, s.heap.size ≤ q → A q) (hX9 : va_X b 7 xs s s.heap) (hbl : b < s.heap.size) (hN : fN s) (hZ : fZ A s s.heap) (hX : fX s) (dC : Nat → ClassId) (dI : Nat → Nat → Nat) (h0 pr w d on op un wL wK wV wN wS wB dL dK dV dN dS dB ma tm k0 kN kA kO kK kV kG kP kC kD kE kF kX kY kT kU oJ oD : Nat) (cI cJ : ClassId) {H : Heap} {locs : List Loc} {ls : Array Slot} (hK : va_K (dC, dI) vwCl [(cI, .int), (cJ, .long)] s) (hP : va_P (dC, dI) vwCl [(h0, .inr (8, [.ref pr, .ref ma, .ref tm])), (pr, .inr (7, [.ref w, .ref d, .ref on, .ref op, .ref un, .int 0, .int 0])), (w, .inr (3, [.int 0, .int 0, .ref wL, .ref wK, .ref wV, .ref wN, .ref wS, .ref wB, .int 0])), (d, .inr (3, [.int 0, .int 0, .ref dL, .ref dK, .ref dV, .ref dN, .ref dS, .ref dB, .int 0])), (wV, .inl (cI, 10, .inl (fun _ => 0))), (dV, .inl (cI, 10, .inl (fun _ => 0))), (k0, .inr (9, [.ref kN, .ref kA, .ref kO, .ref kK, .ref kV, .ref kG, .ref kP, .ref kC, .ref kD, .ref kE, .ref kF, .ref kX, .ref kY, .int 0, .ref kT, .ref kU, .int 0, .int 0, .int 0])), (kN, .inl (cI, 2, .inl (fun _ => 0))), (kA, .inl (cI, 2, .inl (fun _ => 0))), (oJ, .inl (cJ, 1, .inr (.inl (fun _ => 0))))] H) (hD : va_D A [(h0, .inr (8, [.ref pr, .ref ma, .ref tm])), (pr, .inr (7, [.ref w, .ref d, .ref on, .ref op, .ref un, .int 0, .int 0])), (w, .inr (3, [.int 0, .int 0, .ref wL, .ref wK, .ref wV, .ref wN, .ref wS, .ref wB, .int 0])), (d, .inr (3, [.int 0, .int 0, .ref dL, .ref dK, .ref dV, .ref dN, .ref dS, .ref dB, .int 0])), (wV, .inl (cI, 10, .inl (fun _ => 0))), (dV, .inl (cI, 10, .inl (fun _ => 0))), (k0, .inr (9, [.ref kN, .ref kA, .ref kO, .ref kK, .ref kV, .ref kG, .ref kP, .ref kC, .ref kD, .ref kE, .ref kF, .ref kX, .ref kY, .int 0, .ref kT, .ref kU, .int 0, .int 0, .int 0])), (kN, .inl (cI, 2, .inl (fun _ => 0))), (kA, .inl (cI, 2, .inl (fun _ => 0))), (oJ, .inl (cJ, 1, .inr (.inl (fun _ => 0))))]) (hS : va_S A s.heap H locs) (hl : lv_has ls 9 [(5, .int 0), (4, .ref oD), (3, .ref oJ), (2, .ref k0), (1, .ref h0), (0, .ref b)]) : W p l e room_1 s m #[Value.ref b] below meth c H locs 114 2061 (lw_Z below #[Value.ref b] s) (F0 m 550 ls []) := by
  have hbA : ¬ A b := fun h => Nat.not_le.mpr hbl (hAe _ h)
  have hX0 := hX
  refine lv_aload_n hx hb dL_law_550 rfl (lv_at hl 4 rfl) ?_
  refine lv_aload_n hx hb dL_law_551 rfl (lv_at hl 5 rfl) ?_
  refine lv_iload hx hb dL_law_552 (lv_at hl 0 rfl) ?_
  refine lv_iconst (v := 1) hx hb dL_law_554 (by decide) ?_
  refine lv_iadd hx hb dL_law_555 ?_
  refine lv_topi (fun y1 ey1 => ?_)
  obtain rfl : y1 = 1 := ey1.trans (by decide)
  refine va_sld hx hb hX9 hbl hbA hS (show ¬ (_ ∨ _) by decide) dL_law_556 ?_
  refine W.eq (g2 := F0 m 557 ls [.int (xs 1), .ref h0]) rfl ?_
  refine lv_aload_n hx hb dL_law_557 rfl (lv_at hl 5 rfl) ?_
  refine lv_iload hx hb dL_law_558 (lv_at hl 0 rfl) ?_
  refine lv_iconst (v := 2) hx hb dL_law_560 (by decide) ?_
  refine lv_iadd hx hb dL_law_561 ?_
  refine lv_topi (fun y2 ey2 => ?_)
  obtain rfl : y2 = 2 := ey2.trans (by decide)
  refine va_sld hx hb hX9 hbl hbA hS (show ¬ (_ ∨ _) by decide) dL_law_562 ?_
  refine W.eq (g2 := F0 m 563 ls [.int (xs 2), .int (xs 1), .ref h0]) rfl ?_
  refine lv_aload_n hx hb dL_law_563 rfl (lv_at hl 5 rfl) ?_
  refine lv_iload hx hb dL_law_564 (lv_at hl 0 rfl) ?_
  refine lv_iconst (v := 3) hx hb dL_law_566 (by decide) ?_
  refine lv_iadd hx hb dL_law_567 ?_
  refine lv_topi (fun y3 ey3 => ?_)
  obtain rfl : y3 = 3 := ey3.trans (by decide)
  refine va_sld hx hb hX9 hbl hbA hS (show ¬ (_ ∨ _) by decide) dL_law_568 ?_
  refine W.eq (g2 := F0 m 569 ls [.int (xs 3), .int (xs 2), .int (xs 1), .ref h0]) rfl ?_
  refine lv_aload_n hx hb dL_law_569 rfl (lv_at hl 2 rfl) ?_
  have hPc := hP.sub (ws' := [(h0, .inr (8, [.ref pr, .ref ma, .ref tm])), (pr, .inr (7, [.ref w, .ref d, .ref on, .ref op, .ref un, .int 0, .int 0])), (w, .inr (3, [.int 0, .int 0, .ref wL, .ref wK, .ref wV, .ref wN, .ref wS, .ref wB, .int 0])), (d, .inr (3, [.int 0, .int 0, .ref dL, .ref dK, .ref dV, .ref dN, .ref dS, .ref dB, .int 0])), (wV, .inl (cI, 10, .inl (fun _ => 0))), (dV, .inl (cI, 10, .inl (fun _ => 0))), (oJ, .inl (cJ, 1, .inr (.inl (fun _ => 0))))]) [0, 1, 2, 3, 4, 5, 9] rfl
  have hDc := hD.sub (ws' := [(h0, .inr (8, [.ref pr, .ref ma, .ref tm])), (pr, .inr (7, [.ref w, .ref d, .ref on, .ref op, .ref un, .int 0, .int 0])), (w, .inr (3, [.int 0, .int 0, .ref wL, .ref wK, .ref wV, .ref wN, .ref wS, .ref wB, .int 0])), (d, .inr (3, [.int 0, .int 0, .ref dL, .ref dK, .ref dV, .ref dN, .ref dS, .ref dB, .int 0])), (wV, .inl (cI, 10, .inl (fun _ => 0))), (dV, .inl (cI, 10, .inl (fun _ => 0))), (oJ, .inl (cJ, 1, .inr (.inl (fun _ => 0))))]) [0, 1, 2, 3, 4, 5, 9] (by decide) rfl
  have hKc := hK.sub (tys' := [(cI, .int), (cJ, .long)]) [0, 1] rfl
  have hFc := va_free (wc := [(h0, .inr (8, [.ref pr, .ref ma, .ref tm])), (pr, .inr (7, [.ref w, .ref d, .ref on, .ref op, .ref un, .int 0, .int 0])), (w, .inr (3, [.int 0, .int 0, .ref wL, .ref wK, .ref wV, .ref wN, .ref wS, .ref wB, .int 0])), (d, .inr (3, [.int 0, .int 0, .ref dL, .ref dK, .ref dV, .ref dN, .ref dS, .ref dB, .int 0])), (wV, .inl (cI, 10, .inl (fun _ => 0))), (dV, .inl (cI, 10, .inl (fun _ => 0))), (oJ, .inl (cJ, 1, .inr (.inl (fun _ => 0))))]) hD hS hA [0, 1, 2, 3, 4, 5, 9] rfl
  refine vx_calli (vx_runSX (As := [.ref h0, .int (xs 1), .int (xs 2), .int (xs 3), .ref oJ]) (rest := []) ⟨hx, hb, hml, hown, hts⟩ (kL_setValue l hfl dC dI h0 pr ma tm w d on op un wL wK wV wN wS wB dL dK dV dN dS dB cI oJ cJ (xs 1) (xs 2) (xs 3) H.size) (vx_cwSW 5 hts gL_law_L_setValue rfl rfl rfl (by decide +kernel) ⟨Nat.le_of_ble_eq_true rfl, Nat.le_of_ble_eq_true rfl⟩) (gPreS hX hN hZ hS (fun q h => hFc q h) hPc hKc hDc) rfl rfl hl.1 rfl (lv_room (Nat.le_of_ble_eq_true rfl)) dL_law_570 ⟨Nat.le_of_ble_eq_true rfl, Nat.le_of_ble_eq_true rfl⟩) hS (fun q _ h => hFc q h) hFc (fun q _ h => hFc q h) (fun E ce q9 u t H locs ht hvm hpx hE hz1 hk1 hS hq9 hv9 hc9 => ?_) (fun r u t H1 locs ht hvm hw hB hz1 hk1 hS => ?_)
  · skip
    exact hE.elim
  · skip
    obtain ⟨hP1, hK1, hD1⟩ := hB
    rw [ht] at hP1
    have hK1 := va_K.moved hvm.symm hK1
    obtain ⟨u4, rfl⟩ : ∃ z, z = u := ⟨_, rfl⟩
    obtain ⟨hP, hD⟩ := va_join (wr := [(k0, .inr (9, [.ref kN, .ref kA, .ref kO, .ref kK, .ref kV, .ref kG, .ref kP, .ref kC, .ref kD, .ref kE, .ref kF, .ref kX, .ref kY, .int 0, .ref kT, .ref kU, .int 0, .int 0, .int 0])), (kN, .inl (cI, 2, .inl (fun _ => 0))), (kA, .inl (cI, 2, .inl (fun _ => 0)))]) (w1 := [(oJ, .inl (cJ, 1, .inr (.inl u4)))]) hP hD [0, 1, 2, 3, 4, 5, 9] [6, 7, 8] rfl rfl (by decide) (by decide) hk1 hFc hP1 hD1
    generalize H1 = H at hP hS ⊢
    have hP : va_P (dC, dI) vwCl [(k0, .inr (9, [.ref kN, .ref kA, .ref kO, .ref kK, .ref kV, .ref kG, .ref kP, .ref kC, .ref kD, .ref kE, .ref kF, .ref kX, .ref kY, .int 0, .ref kT, .ref kU, .int 0, .int 0, .int 0])), (kN, .inl (cI, 2, .inl (fun _ => 0))), (kA, .inl (cI, 2, .inl (fun _ => 0))), (oJ, .inl (cJ, 1, .inr (.inl u4)))] _ := hP
    have hD : va_D A [(k0, .inr (9, [.ref kN, .ref kA, .ref kO, .ref kK, .ref kV, .ref kG, .ref kP, .ref kC, .ref kD, .ref kE, .ref kF, .ref kX, .ref kY, .int 0, .ref kT, .ref kU, .int 0, .int 0, .int 0])), (kN, .inl (cI, 2, .inl (fun _ => 0))), (kA, .inl (cI, 2, .inl (fun _ => 0))), (oJ, .inl (cJ, 1, .inr (.inl u4)))] := hD
    refine W.widen (k := 118) (n := 2085) (Nat.le_of_ble_eq_true rfl) (Nat.le_of_ble_eq_true rfl) ?_
    rcases hw with ⟨rfl, hf9⟩ | ⟨rfl, hf9⟩
    · skip
      have hf5 := hf9
      refine lv_istore (lv' := [(6, .int 1), (5, .int 0), (4, .ref oD), (3, .ref oJ), (2, .ref k0), (1, .ref h0), (0, .ref b)]) hx hb dL_law_573 hl (Nat.le_of_ble_eq_true rfl) rfl (fun ls hl => ?_)
      refine lv_aload_n hx hb dL_law_575 rfl (lv_at hl 4 rfl) ?_
      refine lv_aload_n hx hb dL_law_576 rfl (lv_at hl 6 rfl) ?_
      refine lv_iload hx hb dL_law_577 (lv_at hl 1 rfl) ?_
      refine lv_iconst (v := 1) hx hb dL_law_579 (by decide) ?_
      refine lv_iadd hx hb dL_law_580 ?_
      refine lv_topi (fun y6 ey6 => ?_)
      obtain rfl : y6 = 1 := ey6.trans (by decide)
      refine va_sld hx hb hX9 hbl hbA hS (show ¬ (_ ∨ _) by decide) dL_law_581 ?_
      refine W.eq (g2 := F0 m 582 ls [.int (xs 1), .ref k0]) rfl ?_
      refine lv_aload_n hx hb dL_law_582 rfl (lv_at hl 6 rfl) ?_
      refine lv_iload hx hb dL_law_583 (lv_at hl 1 rfl) ?_
      refine lv_iconst (v := 2) hx hb dL_law_585 (by decide) ?_
      refine lv_iadd hx hb dL_law_586 ?_
      refine lv_topi (fun y7 ey7 => ?_)
      obtain rfl : y7 = 2 := ey7.trans (by decide)
      refine va_sld hx hb hX9 hbl hbA hS (show ¬ (_ ∨ _) by decide) dL_law_587 ?_
      refine W.eq (g2 := F0 m 588 ls [.int (xs 2), .int (xs 1), .ref k0]) rfl ?_
      refine lv_aload_n hx hb dL_law_588 rfl (lv_at hl 6 rfl) ?_
      refine lv_iload hx hb dL_law_589 (lv_at hl 1 rfl) ?_
      refine lv_iconst (v := 3) hx hb dL_law_591 (by decide) ?_
      refine lv_iadd hx hb dL_law_592 ?_
      refine lv_topi (fun y8 ey8 => ?_)
      obtain rfl : y8 = 3 := ey8.trans (by decide)
      refine va_sld hx hb hX9 hbl hbA hS (show ¬ (_ ∨ _) by decide) dL_law_593 ?_
      refine W.eq (g2 := F0 m 594 ls [.int (xs 3), .int (xs 2), .int (xs 1), .ref k0]) rfl ?_
      have hPc := hP.sub (ws' := [(k0, .inr (9, [.ref kN, .ref kA, .ref kO, .ref kK, .ref kV, .ref kG, .ref kP, .ref kC, .ref kD, .ref kE, .ref kF, .ref kX, .ref kY, .int 0, .ref kT, .ref kU, .int 0, .int 0, .int 0])), (kN, .inl (cI, 2, .inl (fun _ => 0))), (kA, .inl (cI, 2, .inl (fun _ => 0)))]) [0, 1, 2] rfl
      have hDc := hD.sub (ws' := [(k0, .inr (9, [.ref kN, .ref kA, .ref kO, .ref kK, .ref kV, .ref kG, .ref kP, .ref kC, .ref kD, .ref kE, .ref kF, .ref kX, .ref kY, .int 0, .ref kT, .ref kU, .int 0, .int 0, .int 0])), (kN, .inl (cI, 2, .inl (fun _ => 0))), (kA, .inl (cI, 2, .inl (fun _ => 0)))]) [0, 1, 2] (by decide) rfl
      have hKc := hK.sub (tys' := [(cI, .int)]) [0] rfl
      have hFc := va_free (wc := [(k0, .inr (9, [.ref kN, .ref kA, .ref kO, .ref kK, .ref kV, .ref kG, .ref kP, .ref kC, .ref kD, .ref kE, .ref kF, .ref kX, .ref kY, .int 0, .ref kT, .ref kU, .int 0, .int 0, .int 0])), (kN, .inl (cI, 2, .inl (fun _ => 0))), (kA, .inl (cI, 2, .inl (fun _ => 0)))]) hD hS hA [0, 1, 2] rfl
      refine va_calli (va_runV (As := [.int (xs 1), .int (xs 2), .int (xs 3)]) (rest := []) ⟨hx, hb, hml, hown, hts⟩ (kX6_setValue l dC dI k0 kN kA kO kK kV kG kP kC kD kE kF kX kY kT kU cI (xs 1) (xs 2) (xs 3) H.size) (cwV 3 hts gL_law_X6_setValue rfl rfl rfl (by decide +kernel) ⟨Nat.le_of_ble_eq_true rfl, Nat.le_of_ble_eq_true rfl⟩) (fPreV hN hZ hS (fun q h => hFc q h) hPc hKc hDc (ci := 9) (q0 := 0) rfl rfl) rfl rfl hl.1 rfl (lv_room (Nat.le_of_ble_eq_true rfl)) dL_law_594 ⟨Nat.le_of_ble_eq_true rfl, Nat.le_of_ble_eq_true rfl⟩) hS (fun q _ h => hFc q h) hFc (fun r u t H1 locs ht hvm hw hB hz1 hk1 hS => ?_)
      obtain ⟨hP1, hK1, hD1⟩ := hB
      rw [ht] at hP1
      have hK1 := va_K.moved hvm.symm hK1
      obtain ⟨u10, rfl⟩ : ∃ z, z = u := ⟨_, rfl⟩
      obtain ⟨hP, hD⟩ := va_join (wr := [(oJ, .inl (cJ, 1, .inr (.inl u4)))]) (w1 := [(k0, .inr (9, [.ref kN, .ref kA, .ref kO, .ref kK, .ref kV, .ref kG, .ref kP, .ref kC, .ref kD, .ref kE, .ref kF, .ref kX, .ref kY, .int 0, .ref kT, .ref kU, .int u10, .int 0, .int 0]))]) hP hD [0, 1, 2] [3] rfl rfl (by decide) (by decide) hk1 hFc hP1 hD1
      generalize H1 = H at hP hS ⊢
      have hP : va_P (dC, dI) vwCl [(oJ, .inl (cJ, 1, .inr (.inl u4))), (k0, .inr (9, [.ref kN, .ref kA, .ref kO, .ref kK, .ref kV, .ref kG, .ref kP, .ref kC, .ref kD, .ref kE, .ref kF, .ref kX, .ref kY, .int 0, .ref kT, .ref kU, .int u10, .int 0, .int 0]))] _ := hP
      have hD : va_D A [(oJ, .inl (cJ, 1, .inr (.inl u4))), (k0, .inr (9, [.ref kN, .ref kA, .ref kO, .ref kK, .ref kV, .ref kG, .ref kP, .ref kC, .ref kD, .ref kE, .ref kF, .ref kX, .ref kY, .int 0, .ref kT, .ref kU, .int u10, .int 0, .int 0]))] := hD
      obtain ⟨r11, rfl⟩ : ∃ z, z = r := ⟨_, rfl⟩
      rcases hw with ⟨rfl, hg9⟩ | ⟨rfl, hg9⟩
      · skip
        have hP : va_P (dC, dI) vwCl [(oJ, .inl (cJ, 1, .inr (.inl u4))), (k0, .inr (9, [.ref kN, .ref kA, .ref kO, .ref kK, .ref kV, .ref kG, .ref kP, .ref kC, .ref kD, .ref kE, .ref kF, .ref kX, .ref kY, .int 0, .ref kT, .ref kU, .int 1, .int 0, .int 0]))] _ := hP
        have hD : va_D A [(oJ, .inl (cJ, 1, .inr (.inl u4))), (k0, .inr (9, [.ref kN, .ref kA, .ref kO, .ref kK, .ref kV, .ref kG, .ref kP, .ref kC, .ref kD, .ref kE, .ref kF, .ref kX, .ref kY, .int 0, .ref kT, .ref kU, .int 1, .int 0, .int 0]))] := hD
        refine lv_istore (lv' := [(7, .int r11), (6, .int 1), (5, .int 0), (4, .ref oD), (3, .ref oJ), (2, .ref k0), (1, .ref h0), (0, .ref b)]) hx hb dL_law_597 hl (Nat.le_of_ble_eq_true rfl) rfl (fun ls hl => ?_)
        refine lv_aload_n hx hb dL_law_599 rfl (lv_at hl 5 rfl) ?_
        have hPc := hP.sub (ws' := [(k0, .inr (9, [.ref kN, .ref kA, .ref kO, .ref kK, .ref kV, .ref kG, .ref kP, .ref kC, .ref kD, .ref kE, .ref kF, .ref kX, .ref kY, .int 0, .ref kT, .ref kU, .int 1, .int 0, .int 0]))]) [1] rfl
        have hDc := hD.sub (ws' := [(k0, .inr (9, [.ref kN, .ref kA, .ref kO, .ref kK, .ref kV, .ref kG, .ref kP, .ref kC, .ref kD, .ref kE, .ref kF, .ref kX, .ref kY, .int 0, .ref kT, .ref kU, .int 1, .int 0, .int 0]))]) [1] (by decide) rfl
        have hKc := hK.sub (tys' := []) [] rfl
        have hFc := va_free (wc := [(k0, .inr (9, [.ref kN, .ref kA, .ref kO, .ref kK, .ref kV, .ref kG, .ref kP, .ref kC, .ref kD, .ref kE, .ref kF, .ref kX, .ref kY, .int 0, .ref kT, .ref kU, .int 1, .int 0, .int 0]))]) hD hS hA [1] rfl
        refine va_calli (va_runV (As := []) (rest := []) ⟨hx, hb, hml, hown, hts⟩ (kX6_thrown l dC dI k0 kN kA kO kK kV kG kP kC kD kE kF kX kY kT kU 1 H.size) (cwV 0 hts gL_law_X6_thrown rfl rfl rfl (by decide +kernel) ⟨Nat.le_of_ble_eq_true rfl, Nat.le_of_ble_eq_true rfl⟩) (fPreV hN hZ hS (fun q h => hFc q h) hPc hKc hDc (ci := 9) (q0 := 0) rfl rfl) rfl rfl hl.1 rfl (lv_room (Nat.le_of_ble_eq_true rfl)) dL_law_600 ⟨Nat.le_of_ble_eq_true rfl, Nat.le_of_ble_eq_true rfl⟩) hS (fun q _ h => hFc q h) hFc (fun r u t H1 locs ht hvm hw hB hz1 hk1 hS => ?_)
        obtain ⟨hP1, hK1, hD1⟩ := hB
        rw [ht] at hP1
        have hK1 := va_K.moved hvm.symm hK1
        obtain ⟨hP, hD⟩ := va_join (wr := [(oJ, .inl (cJ, 1, .inr (.inl u4)))]) (w1 := []) hP hD [1] [0] rfl rfl (by decide) (by decide) hk1 hFc hP1 hD1
        generalize H1 = H at hP hS ⊢
        have hP : va_P (dC, dI) vwCl [(oJ, .inl (cJ, 1, .inr (.inl u4)))] _ := hP
        have hD : va_D A [(oJ, .inl (cJ, 1, .inr (.inl u4)))] := hD
        subst hw
        refine lv_iload hx hb dL_law_603 (lv_at hl 1 rfl) ?_
        refine lv_icmp_eq (tgt := 610) hx hb dL_law_605 (by decide) (fun _ => ?_) (fun h9 => absurd (by decide) h9)
        refine lv_iload hx hb dL_law_610 (lv_at hl 1 rfl) ?_
        refine lv_if_ne (tgt := 627) hx hb dL_law_612 (by decide) (fun _ => ?_) (fun h9 => absurd h9 (by decide))
        refine lv_goto (tgt := 2720) hx hb dL_law_627 (by decide) ?_
        refine lv_iinc (v := 7) (lv' := [(5, .int 7), (7, .int r11), (6, .int 1), (4, .ref oD), (3, .ref oJ), (2, .ref k0), (1, .ref h0), (0, .ref b)]) hx hb dL_law_2720 hl (k := 2) rfl (by decide) (Nat.le_of_ble_eq_true rfl) rfl (fun ls hl => ?_)
        refine lv_goto (tgt := 28) hx hb dL_law_2723 (by decide) ?_
        refine lv_iload hx hb dL_law_28 (lv_at hl 0 rfl) ?_
        refine lv_aload_n hx hb dL_law_30 rfl (lv_at hl 7 rfl) ?_
        refine va_slen hx hb hX9 hbl hbA hS dL_law_31 ?_
        refine W.eq (g2 := F0 m 32 ls [.int 7, .int 7]) rfl ?_
        refine lv_bipush (v := 7) hx hb dL_law_32 (by decide) ?_
        refine lv_isub hx hb dL_law_34 ?_
        refine lv_topi (fun y12 ey12 => ?_)
        obtain rfl : y12 = 0 := ey12.trans (by decide)
        refine lv_icmp_gt (tgt := 2726) hx hb dL_law_35 (by decide) (fun _ => ?_) (fun h9 => absurd (by decide) h9)
        refine lv_iconst (v := 1) hx hb dL_law_2726 (by decide) ?_
        refine va_forget (fun q hq => hAe _ (hS.2.2 q hq)) ?_
        refine W.widen (k := 600006) (n := 7302048) (Nat.le_of_ble_eq_true rfl) (Nat.le_of_ble_eq_true rfl) ?_
        exact W.base (lw_ret (d0 := s.drawn) (Drawn.sameBut.refl _ _) hx hb hr hlk dL_law_2727)
      · skip
        exact absurd hg9 ((fun h9 => h9 (hf5)))
    · skip
      have hf13 := hf9
      refine lv_istore (lv' := [(6, .int 2), (5, .int 0), (4, .ref oD), (3, .ref oJ), (2, .ref k0), (1, .ref h0), (0, .ref b)]) hx hb dL_law_573 hl (Nat.le_of_ble_eq_true rfl) rfl (fun ls hl => ?_)
      refine lv_aload_n hx hb dL_law_575 rfl (lv_at hl 4 rfl) ?_
      refine lv_aload_n hx hb dL_law_576 rfl (lv_at hl 6 rfl) ?_
      refine lv_iload hx hb dL_law_577 (lv_at hl 1 rfl) ?_
      refine lv_iconst (v := 1) hx hb dL_law_579 (by decide) ?_
      refine lv_iadd hx hb dL_law_580 ?_
      refine lv_topi (fun y14 ey14 => ?_)
      obtain rfl : y14 = 1 := ey14.trans (by decide)
      refine va_sld hx hb hX9 hbl hbA hS (show ¬ (_ ∨ _) by decide) dL_law_581 ?_
      refine W.eq (g2 := F0 m 582 ls [.int (xs 1), .ref k0]) rfl ?_
      refine lv_aload_n hx hb dL_law_582 rfl (lv_at hl 6 rfl) ?_
      refine lv_iload hx hb dL_law_583 (lv_at hl 1 rfl) ?_
      refine lv_iconst (v := 2) hx hb dL_law_585 (by decide) ?_
      refine lv_iadd hx hb dL_law_586 ?_
      refine lv_topi (fun y15 ey15 => ?_)
      obtain rfl : y15 = 2 := ey15.trans (by decide)
      refine va_sld hx hb hX9 hbl hbA hS (show ¬ (_ ∨ _) by decide) dL_law_587 ?_
      refine W.eq (g2 := F0 m 588 ls [.int (xs 2), .int (xs 1), .ref k0]) rfl ?_
      refine lv_aload_n hx hb dL_law_588 rfl (lv_at hl 6 rfl) ?_
      refine lv_iload hx hb dL_law_589 (lv_at hl 1 rfl) ?_
      refine lv_iconst (v := 3) hx hb dL_law_591 (by decide) ?_
      refine lv_iadd hx hb dL_law_592 ?_
      refine lv_topi (fun y16 ey16 => ?_)
      obtain rfl : y16 = 3 := ey16.trans (by decide)
      refine va_sld hx hb hX9 hbl hbA hS (show ¬ (_ ∨ _) by decide) dL_law_593 ?_
      refine W.eq (g2 := F0 m 594 ls [.int (xs 3), .int (xs 2), .int (xs 1), .ref k0]) rfl ?_
      have hPc := hP.sub (ws' := [(k0, .inr (9, [.ref kN, .ref kA, .ref kO, .ref kK, .ref kV, .ref kG, .ref kP, .ref kC, .ref kD, .ref kE, .ref kF, .ref kX, .ref kY, .int 0, .ref kT, .ref kU, .int 0, .int 0, .int 0])), (kN, .inl (cI, 2, .inl (fun _ => 0))), (kA, .inl (cI, 2, .inl (fun _ => 0)))]) [0, 1, 2] rfl
      have hDc := hD.sub (ws' := [(k0, .inr (9, [.ref kN, .ref kA, .ref kO, .ref kK, .ref kV, .ref kG, .ref kP, .ref kC, .ref kD, .ref kE, .ref kF, .ref kX, .ref kY, .int 0, .ref kT, .ref kU, .int 0, .int 0, .int 0])), (kN, .inl (cI, 2, .inl (fun _ => 0))), (kA, .inl (cI, 2, .inl (fun _ => 0)))]) [0, 1, 2] (by decide) rfl
      have hKc := hK.sub (tys' := [(cI, .int)]) [0] rfl
      have hFc := va_free (wc := [(k0, .inr (9, [.ref kN, .ref kA, .ref kO, .ref kK, .ref kV, .ref kG, .ref kP, .ref kC, .ref kD, .ref kE, .ref kF, .ref kX, .ref kY, .int 0, .ref kT, .ref kU, .int 0, .int 0, .int 0])), (kN, .inl (cI, 2, .inl (fun _ => 0))), (kA, .inl (cI, 2, .inl (fun _ => 0)))]) hD hS hA [0, 1, 2] rfl
      refine va_calli (va_runV (As := [.int (xs 1), .int (xs 2), .int (xs 3)]) (rest := []) ⟨hx, hb, hml, hown, hts⟩ (kX6_setValue l dC dI k0 kN kA kO kK kV kG kP kC kD kE kF kX kY kT kU cI (xs 1) (xs 2) (xs 3) H.size) (cwV 3 hts gL_law_X6_setValue rfl rfl rfl (by decide +kernel) ⟨Nat.le_of_ble_eq_true rfl, Nat.le_of_ble_eq_true rfl⟩) (fPreV hN hZ hS (fun q h => hFc q h) hPc hKc hDc (ci := 9) (q0 := 0) rfl rfl) rfl rfl hl.1 rfl (lv_room (Nat.le_of_ble_eq_true rfl)) dL_law_594 ⟨Nat.le_of_ble_eq_true rfl, Nat.le_of_ble_eq_true rfl⟩) hS (fun q _ h => hFc q h) hFc (fun r u t H1 locs ht hvm hw hB hz1 hk1 hS => ?_)
      obtain ⟨hP1, hK1, hD1⟩ := hB
      rw [ht] at hP1
      have hK1 := va_K.moved hvm.symm hK1
      obtain ⟨u17, rfl⟩ : ∃ z, z = u := ⟨_, rfl⟩
      obtain ⟨hP, hD⟩ := va_join (wr := [(oJ, .inl (cJ, 1, .inr (.inl u4)))]) (w1 := [(k0, .inr (9, [.ref kN, .ref kA, .ref kO, .ref kK, .ref kV, .ref kG, .ref kP, .ref kC, .ref kD, .ref kE, .ref kF, .ref kX, .ref kY, .int 0, .ref kT, .ref kU, .int u17, .int 0, .int 0]))]) hP hD [0, 1, 2] [3] rfl rfl (by decide) (by decide) hk1 hFc hP1 hD1
      generalize H1 = H at hP hS ⊢
      have hP : va_P (dC, dI) vwCl [(oJ, .inl (cJ, 1, .inr (.inl u4))), (k0, .inr (9, [.ref kN, .ref kA, .ref kO, .ref kK, .ref kV, .ref kG, .ref kP, .ref kC, .ref kD, .ref kE, .ref kF, .ref kX, .ref kY, .int 0, .ref kT, .ref kU, .int u17, .int 0, .int 0]))] _ := hP
      have hD : va_D A [(oJ, .inl (cJ, 1, .inr (.inl u4))), (k0, .inr (9, [.ref kN, .ref kA, .ref kO, .ref kK, .ref kV, .ref kG, .ref kP, .ref kC, .ref kD, .ref kE, .ref kF, .ref kX, .ref kY, .int 0, .ref kT, .ref kU, .int u17, .int 0, .int 0]))] := hD
      obtain ⟨r18, rfl⟩ : ∃ z, z = r := ⟨_, rfl⟩
      rcases hw with ⟨rfl, hg9⟩ | ⟨rfl, hg9⟩
      · skip
        exact absurd hg9 (hf13)
      · skip
        have hP : va_P (dC, dI) vwCl [(oJ, .inl (cJ, 1, .inr (.inl u4))), (k0, .inr (9, [.ref kN, .ref kA, .ref kO, .ref kK, .ref kV, .ref kG, .ref kP, .ref kC, .ref kD, .ref kE, .ref kF, .ref kX, .ref kY, .int 0, .ref kT, .ref kU, .int 2, .int 0, .int 0]))] _ := hP
        have hD : va_D A [(oJ, .inl (cJ, 1, .inr (.inl u4))), (k0, .inr (9, [.ref kN, .ref kA, .ref kO, .ref kK, .ref kV, .ref kG, .ref kP, .ref kC, .ref kD, .ref kE, .ref kF, .ref kX, .ref kY, .int 0, .ref kT, .ref kU, .int 2, .int 0, .int 0]))] := hD
        refine lv_istore (lv' := [(7, .int r18), (6, .int 2), (5, .int 0), (4, .ref oD), (3, .ref oJ), (2, .ref k0), (1, .ref h0), (0, .ref b)]) hx hb dL_law_597 hl (Nat.le_of_ble_eq_true rfl) rfl (fun ls hl => ?_)
        refine lv_aload_n hx hb dL_law_599 rfl (lv_at hl 5 rfl) ?_
        have hPc := hP.sub (ws' := [(k0, .inr (9, [.ref kN, .ref kA, .ref kO, .ref kK, .ref kV, .ref kG, .ref kP, .ref kC, .ref kD, .ref kE, .ref kF, .ref kX, .ref kY, .int 0, .ref kT, .ref kU, .int 2, .int 0, .int 0]))]) [1] rfl
        have hDc := hD.sub (ws' := [(k0, .inr (9, [.ref kN, .ref kA, .ref kO, .ref kK, .ref kV, .ref kG, .ref kP, .ref kC, .ref kD, .ref kE, .ref kF, .ref kX, .ref kY, .int 0, .ref kT, .ref kU, .int 2, .int 0, .int 0]))]) [1] (by decide) rfl
        have hKc := hK.sub (tys' := []) [] rfl
        have hFc := va_free (wc := [(k0, .inr (9, [.ref kN, .ref kA, .ref kO, .ref kK, .ref kV, .ref kG, .ref kP, .ref kC, .ref kD, .ref kE, .ref kF, .ref kX, .ref kY, .int 0, .ref kT, .ref kU, .int 2, .int 0, .int 0]))]) hD hS hA [1] rfl
        refine va_calli (va_runV (As := []) (rest := []) ⟨hx, hb, hml, hown, hts⟩ (kX6_thrown l dC dI k0 kN kA kO kK kV kG kP kC kD kE kF kX kY kT kU 2 H.size) (cwV 0 hts gL_law_X6_thrown rfl rfl rfl (by decide +kernel) ⟨Nat.le_of_ble_eq_true rfl, Nat.le_of_ble_eq_true rfl⟩) (fPreV hN hZ hS (fun q h => hFc q h) hPc hKc hDc (ci := 9) (q0 := 0) rfl rfl) rfl rfl hl.1 rfl (lv_room (Nat.le_of_ble_eq_true rfl)) dL_law_600 ⟨Nat.le_of_ble_eq_true rfl, Nat.le_of_ble_eq_true rfl⟩) hS (fun q _ h => hFc q h) hFc (fun r u t H1 locs ht hvm hw hB hz1 hk1 hS => ?_)
        obtain ⟨hP1, hK1, hD1⟩ := hB
        rw [ht] at hP1
        have hK1 := va_K.moved hvm.symm hK1
        obtain ⟨hP, hD⟩ := va_join (wr := [(oJ, .inl (cJ, 1, .inr (.inl u4)))]) (w1 := []) hP hD [1] [0] rfl rfl (by decide) (by decide) hk1 hFc hP1 hD1
        generalize H1 = H at hP hS ⊢
        have hP : va_P (dC, dI) vwCl [(oJ, .inl (cJ, 1, .inr (.inl u4)))] _ := hP
        have hD : va_D A [(oJ, .inl (cJ, 1, .inr (.inl u4)))] := hD
        subst hw
        refine lv_iload hx hb dL_law_603 (lv_at hl 1 rfl) ?_
        refine lv_icmp_eq (tgt := 610) hx hb dL_law_605 (by decide) (fun _ => ?_) (fun h9 => absurd (by decide) h9)
        refine lv_iload hx hb dL_law_610 (lv_at hl 1 rfl) ?_
        refine lv_if_ne (tgt := 627) hx hb dL_law_612 (by decide) (fun _ => ?_) (fun h9 => absurd h9 (by decide))
        refine lv_goto (tgt := 2720) hx hb dL_law_627 (by decide) ?_
        refine lv_iinc (v := 7) (lv' := [(5, .int 7), (7, .int r18), (6, .int 2), (4, .ref oD), (3, .ref oJ), (2, .ref k0), (1, .ref h0), (0, .ref b)]) hx hb dL_law_2720 hl (k := 2) rfl (by decide) (Nat.le_of_ble_eq_true rfl) rfl (fun ls hl => ?_)
        refine lv_goto (tgt := 28) hx hb dL_law_2723 (by decide) ?_
        refine lv_iload hx hb dL_law_28 (lv_at hl 0 rfl) ?_
        refine lv_aload_n hx hb dL_law_30 rfl (lv_at hl 7 rfl) ?_
        refine va_slen hx hb hX9 hbl hbA hS dL_law_31 ?_
        refine W.eq (g2 := F0 m 32 ls [.int 7, .int 7]) rfl ?_
        refine lv_bipush (v := 7) hx hb dL_law_32 (by decide) ?_
        refine lv_isub hx hb dL_law_34 ?_
        refine lv_topi (fun y19 ey19 => ?_)
        obtain rfl : y19 = 0 := ey19.trans (by decide)
        refine lv_icmp_gt (tgt := 2726) hx hb dL_law_35 (by decide) (fun _ => ?_) (fun h9 => absurd (by decide) h9)
        refine lv_iconst (v := 1) hx hb dL_law_2726 (by decide) ?_
        refine va_forget (fun q hq => hAe _ (hS.2.2 q hq)) ?_
        refine W.widen (k := 600006) (n := 7302048) (Nat.le_of_ble_eq_true rfl) (Nat.le_of_ble_eq_true rfl) ?_
        exact W.base (lw_ret (d0 := s.drawn) (Drawn.sameBut.refl _ _) hx hb hr hlk dL_law_2727)

set_option maxHeartbeats 4000000 in
set_option maxRecDepth 100000 in
/-- case 5 of the law: rewire, on fresh objects -/
theorem lc_5 {p : Program} {e : Env} {s : State} {m : MethodId} {below : List Frame} {meth : Method} {c : Code} (l : Launch) (hfl : l.stackTraces = false) {b : Nat} {xs : Nat → Int32} (hx : p.tables.exec = Jvm.exec) (hb : c.code = cL_law) (hr : meth.sig.returnType = ret) (hml : c.maxLocals = 9) (hown : s.vm.findClass RL = some m.cls) (hts : ∀ w ∈ wsL_law, w.before #[Value.ref b] s = true) (hlk : meth.locks = false) (A : Nat → Prop) (hAe : ∀ q, A q → s.heap.size ≤ q) (hA : ∀ q : Nat, s.heap.size ≤ q → A q) (hX9 : va_X b 7 xs s s.heap) (hbl : b < s.heap.size) (hN : fN s) (hZ : fZ A s s.heap) (hX : fX s) (dC : Nat → ClassId) (dI : Nat → Nat → Nat) (h0 pr w d on op un wL wK wV wN wS wB dL dK dV dN dS dB ma tm k0 kN kA kO kK kV kG kP kC kD kE kF kX kY kT kU oJ oD : Nat) (cI cJ : ClassId) {H : Heap} {locs : List Loc} {ls : Array Slot} (hK : va_K (dC, dI) vwCl [(cI, .int), (cJ, .long)] s) (hP : va_P (dC, dI) vwCl [(h0, .inr (8, [.ref pr, .ref ma, .ref tm])), (pr, .inr (7, [.ref w, .ref d, .ref on, .ref op, .ref un, .int 0, .int 0])), (w, .inr (3, [.int 0, .int 0, .ref wL, .ref wK, .ref wV, .ref wN, .ref wS, .ref wB, .int 0])), (d, .inr (3, [.int 0, .int 0, .ref dL, .ref dK, .ref dV, .ref dN, .ref dS, .ref dB, .int 0])), (wV, .inl (cI, 10, .inl (fun _ => 0))), (dV, .inl (cI, 10, .inl (fun _ => 0))), (k0, .inr (9, [.ref kN, .ref kA, .ref kO, .ref kK, .ref kV, .ref kG, .ref kP, .ref kC, .ref kD, .ref kE, .ref kF, .ref kX, .ref kY, .int 0, .ref kT, .ref kU, .int 0, .int 0, .int 0])), (kN, .inl (cI, 2, .inl (fun _ => 0))), (kA, .inl (cI, 2, .inl (fun _ => 0))), (oJ, .inl (cJ, 1, .inr (.inl (fun _ => 0))))] H) (hD : va_D A [(h0, .inr (8, [.ref pr, .ref ma, .ref tm])), (pr, .inr (7, [.ref w, .ref d, .ref on, .ref op, .ref un, .int 0, .int 0])), (w, .inr (3, [.int 0, .int 0, .ref wL, .ref wK, .ref wV, .ref wN, .ref wS, .ref wB, .int 0])), (d, .inr (3, [.int 0, .int 0, .ref dL, .ref dK, .ref dV, .ref dN, .ref dS, .ref dB, .int 0])), (wV, .inl (cI, 10, .inl (fun _ => 0))), (dV, .inl (cI, 10, .inl (fun _ => 0))), (k0, .inr (9, [.ref kN, .ref kA, .ref kO, .ref kK, .ref kV, .ref kG, .ref kP, .ref kC, .ref kD, .ref kE, .ref kF, .ref kX, .ref kY, .int 0, .ref kT, .ref kU, .int 0, .int 0, .int 0])), (kN, .inl (cI, 2, .inl (fun _ => 0))), (kA, .inl (cI, 2, .inl (fun _ => 0))), (oJ, .inl (cJ, 1, .inr (.inl (fun _ => 0))))]) (hS : va_S A s.heap H locs) (hl : lv_has ls 9 [(5, .int 0), (4, .ref oD), (3, .ref oJ), (2, .ref k0), (1, .ref h0), (0, .ref b)]) : W p l e room_1 s m #[Value.ref b] below meth c H locs 114 2061 (lw_Z below #[Value.ref b] s) (F0 m 630 ls []) := by
  have hbA : ¬ A b := fun h => Nat.not_le.mpr hbl (hAe _ h)
  have hX0 := hX
  refine lv_aload_n hx hb dL_law_630 rfl (lv_at hl 4 rfl) ?_
  refine lv_aload_n hx hb dL_law_631 rfl (lv_at hl 5 rfl) ?_
  refine lv_iload hx hb dL_law_632 (lv_at hl 0 rfl) ?_
  refine lv_iconst (v := 1) hx hb dL_law_634 (by decide) ?_
  refine lv_iadd hx hb dL_law_635 ?_
  refine lv_topi (fun y1 ey1 => ?_)
  obtain rfl : y1 = 1 := ey1.trans (by decide)
  refine va_sld hx hb hX9 hbl hbA hS (show ¬ (_ ∨ _) by decide) dL_law_636 ?_
  refine W.eq (g2 := F0 m 637 ls [.int (xs 1), .ref h0]) rfl ?_
  refine lv_aload_n hx hb dL_law_637 rfl (lv_at hl 5 rfl) ?_
  refine lv_iload hx hb dL_law_638 (lv_at hl 0 rfl) ?_
  refine lv_iconst (v := 2) hx hb dL_law_640 (by decide) ?_
  refine lv_iadd hx hb dL_law_641 ?_
  refine lv_topi (fun y2 ey2 => ?_)
  obtain rfl : y2 = 2 := ey2.trans (by decide)
  refine va_sld hx hb hX9 hbl hbA hS (show ¬ (_ ∨ _) by decide) dL_law_642 ?_
  refine W.eq (g2 := F0 m 643 ls [.int (xs 2), .int (xs 1), .ref h0]) rfl ?_
  refine lv_aload_n hx hb dL_law_643 rfl (lv_at hl 5 rfl) ?_
  refine lv_iload hx hb dL_law_644 (lv_at hl 0 rfl) ?_
  refine lv_iconst (v := 3) hx hb dL_law_646 (by decide) ?_
  refine lv_iadd hx hb dL_law_647 ?_
  refine lv_topi (fun y3 ey3 => ?_)
  obtain rfl : y3 = 3 := ey3.trans (by decide)
  refine va_sld hx hb hX9 hbl hbA hS (show ¬ (_ ∨ _) by decide) dL_law_648 ?_
  refine W.eq (g2 := F0 m 649 ls [.int (xs 3), .int (xs 2), .int (xs 1), .ref h0]) rfl ?_
  refine lv_aload_n hx hb dL_law_649 rfl (lv_at hl 5 rfl) ?_
  refine lv_iload hx hb dL_law_650 (lv_at hl 0 rfl) ?_
  refine lv_iconst (v := 4) hx hb dL_law_652 (by decide) ?_
  refine lv_iadd hx hb dL_law_653 ?_
  refine lv_topi (fun y4 ey4 => ?_)
  obtain rfl : y4 = 4 := ey4.trans (by decide)
  refine va_sld hx hb hX9 hbl hbA hS (show ¬ (_ ∨ _) by decide) dL_law_654 ?_
  refine W.eq (g2 := F0 m 655 ls [.int (xs 4), .int (xs 3), .int (xs 2), .int (xs 1), .ref h0]) rfl ?_
  refine lv_aload_n hx hb dL_law_655 rfl (lv_at hl 2 rfl) ?_
  have hPc := hP.sub (ws' := [(h0, .inr (8, [.ref pr, .ref ma, .ref tm])), (pr, .inr (7, [.ref w, .ref d, .ref on, .ref op, .ref un, .int 0, .int 0])), (w, .inr (3, [.int 0, .int 0, .ref wL, .ref wK, .ref wV, .ref wN, .ref wS, .ref wB, .int 0])), (d, .inr (3, [.int 0, .int 0, .ref dL, .ref dK, .ref dV, .ref dN, .ref dS, .ref dB, .int 0])), (wV, .inl (cI, 10, .inl (fun _ => 0))), (dV, .inl (cI, 10, .inl (fun _ => 0))), (oJ, .inl (cJ, 1, .inr (.inl (fun _ => 0))))]) [0, 1, 2, 3, 4, 5, 9] rfl
  have hDc := hD.sub (ws' := [(h0, .inr (8, [.ref pr, .ref ma, .ref tm])), (pr, .inr (7, [.ref w, .ref d, .ref on, .ref op, .ref un, .int 0, .int 0])), (w, .inr (3, [.int 0, .int 0, .ref wL, .ref wK, .ref wV, .ref wN, .ref wS, .ref wB, .int 0])), (d, .inr (3, [.int 0, .int 0, .ref dL, .ref dK, .ref dV, .ref dN, .ref dS, .ref dB, .int 0])), (wV, .inl (cI, 10, .inl (fun _ => 0))), (dV, .inl (cI, 10, .inl (fun _ => 0))), (oJ, .inl (cJ, 1, .inr (.inl (fun _ => 0))))]) [0, 1, 2, 3, 4, 5, 9] (by decide) rfl
  have hKc := hK.sub (tys' := [(cI, .int), (cJ, .long)]) [0, 1] rfl
  have hFc := va_free (wc := [(h0, .inr (8, [.ref pr, .ref ma, .ref tm])), (pr, .inr (7, [.ref w, .ref d, .ref on, .ref op, .ref un, .int 0, .int 0])), (w, .inr (3, [.int 0, .int 0, .ref wL, .ref wK, .ref wV, .ref wN, .ref wS, .ref wB, .int 0])), (d, .inr (3, [.int 0, .int 0, .ref dL, .ref dK, .ref dV, .ref dN, .ref dS, .ref dB, .int 0])), (wV, .inl (cI, 10, .inl (fun _ => 0))), (dV, .inl (cI, 10, .inl (fun _ => 0))), (oJ, .inl (cJ, 1, .inr (.inl (fun _ => 0))))]) hD hS hA [0, 1, 2, 3, 4, 5, 9] rfl
  refine vx_calli (vx_runSX (As := [.ref h0, .int (xs 1), .int (xs 2), .int (xs 3), .int (xs 4), .ref oJ]) (rest := []) ⟨hx, hb, hml, hown, hts⟩ (kL_rewire l hfl dC dI h0 pr ma tm w d on op un wL wK wV wN wS wB dL dK dV dN dS dB cI oJ cJ (xs 1) (xs 2) (xs 3) (xs 4) H.size) (vx_cwSW 6 hts gL_law_L_rewire rfl rfl rfl (by decide +kernel) ⟨Nat.le_of_ble_eq_true rfl, Nat.le_of_ble_eq_true rfl⟩) (gPreS hX hN hZ hS (fun q h => hFc q h) hPc hKc hDc) rfl rfl hl.1 rfl (lv_room (Nat.le_of_ble_eq_true rfl)) dL_law_656 ⟨Nat.le_of_ble_eq_true rfl, Nat.le_of_ble_eq_true rfl⟩) hS (fun q _ h => hFc q h) hFc (fun q _ h => hFc q h) (fun E ce q9 u t H locs ht hvm hpx hE hz1 hk1 hS hq9 hv9 hc9 => ?_) (fun r u t H1 locs ht hvm hw hB hz1 hk1 hS => ?_)
  · skip
    exact hE.elim
  · skip
    obtain ⟨hP1, hK1, hD1⟩ := hB
    rw [ht] at hP1
    have hK1 := va_K.moved hvm.symm hK1
    obtain ⟨u5, rfl⟩ : ∃ z, z = u := ⟨_, rfl⟩
    obtain ⟨hP, hD⟩ := va_join (wr := [(k0, .inr (9, [.ref kN, .ref kA, .ref kO, .ref kK, .ref kV, .ref kG, .ref kP, .ref kC, .ref kD, .ref kE, .ref kF, .ref kX, .ref kY, .int 0, .ref kT, .ref kU, .int 0, .int 0, .int 0])), (kN, .inl (cI, 2, .inl (fun _ => 0))), (kA, .inl (cI, 2, .inl (fun _ => 0)))]) (w1 := [(oJ, .inl (cJ, 1, .inr (.inl u5)))]) hP hD [0, 1, 2, 3, 4, 5, 9] [6, 7, 8] rfl rfl (by decide) (by decide) hk1 hFc hP1 hD1
    generalize H1 = H at hP hS ⊢
    have hP : va_P (dC, dI) vwCl [(k0, .inr (9, [.ref kN, .ref kA, .ref kO, .ref kK, .ref kV, .ref kG, .ref kP, .ref kC, .ref kD, .ref kE, .ref kF, .ref kX, .ref kY, .int 0, .ref kT, .ref kU, .int 0, .int 0, .int 0])), (kN, .inl (cI, 2, .inl (fun _ => 0))), (kA, .inl (cI, 2, .inl (fun _ => 0))), (oJ, .inl (cJ, 1, .inr (.inl u5)))] _ := hP
    have hD : va_D A [(k0, .inr (9, [.ref kN, .ref kA, .ref kO, .ref kK, .ref kV, .ref kG, .ref kP, .ref kC, .ref kD, .ref kE, .ref kF, .ref kX, .ref kY, .int 0, .ref kT, .ref kU, .int 0, .int 0, .int 0])), (kN, .inl (cI, 2, .inl (fun _ => 0))), (kA, .inl (cI, 2, .inl (fun _ => 0))), (oJ, .inl (cJ, 1, .inr (.inl u5)))] := hD
    refine W.widen (k := 117) (n := 2079) (Nat.le_of_ble_eq_true rfl) (Nat.le_of_ble_eq_true rfl) ?_
    rcases hw with ⟨rfl, hf9⟩ | ⟨rfl, hf9⟩
    · skip
      have hf6 := hf9
      refine lv_istore (lv' := [(6, .int 1), (5, .int 0), (4, .ref oD), (3, .ref oJ), (2, .ref k0), (1, .ref h0), (0, .ref b)]) hx hb dL_law_659 hl (Nat.le_of_ble_eq_true rfl) rfl (fun ls hl => ?_)
      refine lv_aload_n hx hb dL_law_661 rfl (lv_at hl 4 rfl) ?_
      refine lv_aload_n hx hb dL_law_662 rfl (lv_at hl 6 rfl) ?_
      refine lv_iload hx hb dL_law_663 (lv_at hl 1 rfl) ?_
      refine lv_iconst (v := 1) hx hb dL_law_665 (by decide) ?_
      refine lv_iadd hx hb dL_law_666 ?_
      refine lv_topi (fun y7 ey7 => ?_)
      obtain rfl : y7 = 1 := ey7.trans (by decide)
      refine va_sld hx hb hX9 hbl hbA hS (show ¬ (_ ∨ _) by decide) dL_law_667 ?_
      refine W.eq (g2 := F0 m 668 ls [.int (xs 1), .ref k0]) rfl ?_
      refine lv_aload_n hx hb dL_law_668 rfl (lv_at hl 6 rfl) ?_
      refine lv_iload hx hb dL_law_669 (lv_at hl 1 rfl) ?_
      refine lv_iconst (v := 2) hx hb dL_law_671 (by decide) ?_
      refine lv_iadd hx hb dL_law_672 ?_
      refine lv_topi (fun y8 ey8 => ?_)
      obtain rfl : y8 = 2 := ey8.trans (by decide)
      refine va_sld hx hb hX9 hbl hbA hS (show ¬ (_ ∨ _) by decide) dL_law_673 ?_
      refine W.eq (g2 := F0 m 674 ls [.int (xs 2), .int (xs 1), .ref k0]) rfl ?_
      refine lv_aload_n hx hb dL_law_674 rfl (lv_at hl 6 rfl) ?_
      refine lv_iload hx hb dL_law_675 (lv_at hl 1 rfl) ?_
      refine lv_iconst (v := 3) hx hb dL_law_677 (by decide) ?_
      refine lv_iadd hx hb dL_law_678 ?_
      refine lv_topi (fun y10 ey10 => ?_)
      obtain rfl : y10 = 3 := ey10.trans (by decide)
      refine va_sld hx hb hX9 hbl hbA hS (show ¬ (_ ∨ _) by decide) dL_law_679 ?_
      refine W.eq (g2 := F0 m 680 ls [.int (xs 3), .int (xs 2), .int (xs 1), .ref k0]) rfl ?_
      refine lv_aload_n hx hb dL_law_680 rfl (lv_at hl 6 rfl) ?_
      refine lv_iload hx hb dL_law_681 (lv_at hl 1 rfl) ?_
      refine lv_iconst (v := 4) hx hb dL_law_683 (by decide) ?_
      refine lv_iadd hx hb dL_law_684 ?_
      refine lv_topi (fun y11 ey11 => ?_)
      obtain rfl : y11 = 4 := ey11.trans (by decide)
      refine va_sld hx hb hX9 hbl hbA hS (show ¬ (_ ∨ _) by decide) dL_law_685 ?_
      refine W.eq (g2 := F0 m 686 ls [.int (xs 4), .int (xs 3), .int (xs 2), .int (xs 1), .ref k0]) rfl ?_
      have hPc := hP.sub (ws' := [(k0, .inr (9, [.ref kN, .ref kA, .ref kO, .ref kK, .ref kV, .ref kG, .ref kP, .ref kC, .ref kD, .ref kE, .ref kF, .ref kX, .ref kY, .int 0, .ref kT, .ref kU, .int 0, .int 0, .int 0])), (kN, .inl (cI, 2, .inl (fun _ => 0))), (kA, .inl (cI, 2, .inl (fun _ => 0)))]) [0, 1, 2] rfl
      have hDc := hD.sub (ws' := [(k0, .inr (9, [.ref kN, .ref kA, .ref kO, .ref kK, .ref kV, .ref kG, .ref kP, .ref kC, .ref kD, .ref kE, .ref kF, .ref kX, .ref kY, .int 0, .ref kT, .ref kU, .int 0, .int 0, .int 0])), (kN, .inl (cI, 2, .inl (fun _ => 0))), (kA, .inl (cI, 2, .inl (fun _ => 0)))]) [0, 1, 2] (by decide) rfl
      have hKc := hK.sub (tys' := [(cI, .int)]) [0] rfl
      have hFc := va_free (wc := [(k0, .inr (9, [.ref kN, .ref kA, .ref kO, .ref kK, .ref kV, .ref kG, .ref kP, .ref kC, .ref kD, .ref kE, .ref kF, .ref kX, .ref kY, .int 0, .ref kT, .ref kU, .int 0, .int 0, .int 0])), (kN, .inl (cI, 2, .inl (fun _ => 0))), (kA, .inl (cI, 2, .inl (fun _ => 0)))]) hD hS hA [0, 1, 2] rfl
      refine va_calli (va_runV (As := [.int (xs 1), .int (xs 2), .int (xs 3), .int (xs 4)]) (rest := []) ⟨hx, hb, hml, hown, hts⟩ (kX6_rewire l dC dI k0 kN kA kO kK kV kG kP kC kD kE kF kX kY kT kU cI (xs 1) (xs 2) (xs 3) (xs 4) H.size) (cwV 4 hts gL_law_X6_rewire rfl rfl rfl (by decide +kernel) ⟨Nat.le_of_ble_eq_true rfl, Nat.le_of_ble_eq_true rfl⟩) (fPreV hN hZ hS (fun q h => hFc q h) hPc hKc hDc (ci := 9) (q0 := 0) rfl rfl) rfl rfl hl.1 rfl (lv_room (Nat.le_of_ble_eq_true rfl)) dL_law_686 ⟨Nat.le_of_ble_eq_true rfl, Nat.le_of_ble_eq_true rfl⟩) hS (fun q _ h => hFc q h) hFc (fun r u t H1 locs ht hvm hw hB hz1 hk1 hS => ?_)
      obtain ⟨hP1, hK1, hD1⟩ := hB
      rw [ht] at hP1
      have hK1 := va_K.moved hvm.symm hK1
      obtain ⟨u12, rfl⟩ : ∃ z, z = u := ⟨_, rfl⟩
      obtain ⟨hP, hD⟩ := va_join (wr := [(oJ, .inl (cJ, 1, .inr (.inl u5)))]) (w1 := [(k0, .inr (9, [.ref kN, .ref kA, .ref kO, .ref kK, .ref kV, .ref kG, .ref kP, .ref kC, .ref kD, .ref kE, .ref kF, .ref kX, .ref kY, .int 0, .ref kT, .ref kU, .int u12, .int 0, .int 0]))]) hP hD [0, 1, 2] [3] rfl rfl (by decide) (by decide) hk1 hFc hP1 hD1
      generalize H1 = H at hP hS ⊢
      have hP : va_P (dC, dI) vwCl [(oJ, .inl (cJ, 1, .inr (.inl u5))), (k0, .inr (9, [.ref kN, .ref kA, .ref kO, .ref kK, .ref kV, .ref kG, .ref kP, .ref kC, .ref kD, .ref kE, .ref kF, .ref kX, .ref kY, .int 0, .ref kT, .ref kU, .int u12, .int 0, .int 0]))] _ := hP
      have hD : va_D A [(oJ, .inl (cJ, 1, .inr (.inl u5))), (k0, .inr (9, [.ref kN, .ref kA, .ref kO, .ref kK, .ref kV, .ref kG, .ref kP, .ref kC, .ref kD, .ref kE, .ref kF, .ref kX, .ref kY, .int 0, .ref kT, .ref kU, .int u12, .int 0, .int 0]))] := hD
      obtain ⟨r13, rfl⟩ : ∃ z, z = r := ⟨_, rfl⟩
      rcases hw with ⟨rfl, hg9⟩ | ⟨rfl, hg9⟩
      · skip
        have hP : va_P (dC, dI) vwCl [(oJ, .inl (cJ, 1, .inr (.inl u5))), (k0, .inr (9, [.ref kN, .ref kA, .ref kO, .ref kK, .ref kV, .ref kG, .ref kP, .ref kC, .ref kD, .ref kE, .ref kF, .ref kX, .ref kY, .int 0, .ref kT, .ref kU, .int 1, .int 0, .int 0]))] _ := hP
        have hD : va_D A [(oJ, .inl (cJ, 1, .inr (.inl u5))), (k0, .inr (9, [.ref kN, .ref kA, .ref kO, .ref kK, .ref kV, .ref kG, .ref kP, .ref kC, .ref kD, .ref kE, .ref kF, .ref kX, .ref kY, .int 0, .ref kT, .ref kU, .int 1, .int 0, .int 0]))] := hD
        refine lv_istore (lv' := [(7, .int r13), (6, .int 1), (5, .int 0), (4, .ref oD), (3, .ref oJ), (2, .ref k0), (1, .ref h0), (0, .ref b)]) hx hb dL_law_689 hl (Nat.le_of_ble_eq_true rfl) rfl (fun ls hl => ?_)
        refine lv_aload_n hx hb dL_law_691 rfl (lv_at hl 5 rfl) ?_
        have hPc := hP.sub (ws' := [(k0, .inr (9, [.ref kN, .ref kA, .ref kO, .ref kK, .ref kV, .ref kG, .ref kP, .ref kC, .ref kD, .ref kE, .ref kF, .ref kX, .ref kY, .int 0, .ref kT, .ref kU, .int 1, .int 0, .int 0]))]) [1] rfl
        have hDc := hD.sub (ws' := [(k0, .inr (9, [.ref kN, .ref kA, .ref kO, .ref kK, .ref kV, .ref kG, .ref kP, .ref kC, .ref kD, .ref kE, .ref kF, .ref kX, .ref kY, .int 0, .ref kT, .ref kU, .int 1, .int 0, .int 0]))]) [1] (by decide) rfl
        have hKc := hK.sub (tys' := []) [] rfl
        have hFc := va_free (wc := [(k0, .inr (9, [.ref kN, .ref kA, .ref kO, .ref kK, .ref kV, .ref kG, .ref kP, .ref kC, .ref kD, .ref kE, .ref kF, .ref kX, .ref kY, .int 0, .ref kT, .ref kU, .int 1, .int 0, .int 0]))]) hD hS hA [1] rfl
        refine va_calli (va_runV (As := []) (rest := []) ⟨hx, hb, hml, hown, hts⟩ (kX6_thrown l dC dI k0 kN kA kO kK kV kG kP kC kD kE kF kX kY kT kU 1 H.size) (cwV 0 hts gL_law_X6_thrown rfl rfl rfl (by decide +kernel) ⟨Nat.le_of_ble_eq_true rfl, Nat.le_of_ble_eq_true rfl⟩) (fPreV hN hZ hS (fun q h => hFc q h) hPc hKc hDc (ci := 9) (q0 := 0) rfl rfl) rfl rfl hl.1 rfl (lv_room (Nat.le_of_ble_eq_true rfl)) dL_law_692 ⟨Nat.le_of_ble_eq_true rfl, Nat.le_of_ble_eq_true rfl⟩) hS (fun q _ h => hFc q h) hFc (fun r u t H1 locs ht hvm hw hB hz1 hk1 hS => ?_)
        obtain ⟨hP1, hK1, hD1⟩ := hB
        rw [ht] at hP1
        have hK1 := va_K.moved hvm.symm hK1
        obtain ⟨hP, hD⟩ := va_join (wr := [(oJ, .inl (cJ, 1, .inr (.inl u5)))]) (w1 := []) hP hD [1] [0] rfl rfl (by decide) (by decide) hk1 hFc hP1 hD1
        generalize H1 = H at hP hS ⊢
        have hP : va_P (dC, dI) vwCl [(oJ, .inl (cJ, 1, .inr (.inl u5)))] _ := hP
        have hD : va_D A [(oJ, .inl (cJ, 1, .inr (.inl u5)))] := hD
        subst hw
        refine lv_iload hx hb dL_law_695 (lv_at hl 1 rfl) ?_
        refine lv_icmp_eq (tgt := 702) hx hb dL_law_697 (by decide) (fun _ => ?_) (fun h9 => absurd (by decide) h9)
        refine lv_iload hx hb dL_law_702 (lv_at hl 1 rfl) ?_
        refine lv_if_ne (tgt := 719) hx hb dL_law_704 (by decide) (fun _ => ?_) (fun h9 => absurd h9 (by decide))
        refine lv_goto (tgt := 2720) hx hb dL_law_719 (by decide) ?_
        refine lv_iinc (v := 7) (lv' := [(5, .int 7), (7, .int r13), (6, .int 1), (4, .ref oD), (3, .ref oJ), (2, .ref k0), (1, .ref h0), (0, .ref b)]) hx hb dL_law_2720 hl (k := 2) rfl (by decide) (Nat.le_of_ble_eq_true rfl) rfl (fun ls hl => ?_)
        refine lv_goto (tgt := 28) hx hb dL_law_2723 (by decide) ?_
        refine lv_iload hx hb dL_law_28 (lv_at hl 0 rfl) ?_
        refine lv_aload_n hx hb dL_law_30 rfl (lv_at hl 7 rfl) ?_
        refine va_slen hx hb hX9 hbl hbA hS dL_law_31 ?_
        refine W.eq (g2 := F0 m 32 ls [.int 7, .int 7]) rfl ?_
        refine lv_bipush (v := 7) hx hb dL_law_32 (by decide) ?_
        refine lv_isub hx hb dL_law_34 ?_
        refine lv_topi (fun y14 ey14 => ?_)
        obtain rfl : y14 = 0 := ey14.trans (by decide)
        refine lv_icmp_gt (tgt := 2726) hx hb dL_law_35 (by decide) (fun _ => ?_) (fun h9 => absurd (by decide) h9)
        refine lv_iconst (v := 1) hx hb dL_law_2726 (by decide) ?_
        refine va_forget (fun q hq => hAe _ (hS.2.2 q hq)) ?_
        refine W.widen (k := 600006) (n := 7302048) (Nat.le_of_ble_eq_true rfl) (Nat.le_of_ble_eq_true rfl) ?_
        exact W.base (lw_ret (d0 := s.drawn) (Drawn.sameBut.refl _ _) hx hb hr hlk dL_law_2727)
      · skip
        exact absurd hg9 ((fun h9 => h9 (hf6)))
    · skip
      have hf15 := hf9
      refine lv_istore (lv' := [(6, .int 2), (5, .int 0), (4, .ref oD), (3, .ref oJ), (2, .ref k0), (1, .ref h0), (0, .ref b)]) hx hb dL_law_659 hl (Nat.le_of_ble_eq_true rfl) rfl (fun ls hl => ?_)
      refine lv_aload_n hx hb dL_law_661 rfl (lv_at hl 4 rfl) ?_
      refine lv_aload_n hx hb dL_law_662 rfl (lv_at hl 6 rfl) ?_
      refine lv_iload hx hb dL_law_663 (lv_at hl 1 rfl) ?_
      refine lv_iconst (v := 1) hx hb dL_law_665 (by decide) ?_
      refine lv_iadd hx hb dL_law_666 ?_
      refine lv_topi (fun y16 ey16 => ?_)
      obtain rfl : y16 = 1 := ey16.trans (by decide)
      refine va_sld hx hb hX9 hbl hbA hS (show ¬ (_ ∨ _) by decide) dL_law_667 ?_
      refine W.eq (g2 := F0 m 668 ls [.int (xs 1), .ref k0]) rfl ?_
      refine lv_aload_n hx hb dL_law_668 rfl (lv_at hl 6 rfl) ?_
      refine lv_iload hx hb dL_law_669 (lv_at hl 1 rfl) ?_
      refine lv_iconst (v := 2) hx hb dL_law_671 (by decide) ?_
      refine lv_iadd hx hb dL_law_672 ?_
      refine lv_topi (fun y17 ey17 => ?_)
      obtain rfl : y17 = 2 := ey17.trans (by decide)
      refine va_sld hx hb hX9 hbl hbA hS (show ¬ (_ ∨ _) by decide) dL_law_673 ?_
      refine W.eq (g2 := F0 m 674 ls [.int (xs 2), .int (xs 1), .ref k0]) rfl ?_
      refine lv_aload_n hx hb dL_law_674 rfl (lv_at hl 6 rfl) ?_
      refine lv_iload hx hb dL_law_675 (lv_at hl 1 rfl) ?_
      refine lv_iconst (v := 3) hx hb dL_law_677 (by decide) ?_
      refine lv_iadd hx hb dL_law_678 ?_
      refine lv_topi (fun y18 ey18 => ?_)
      obtain rfl : y18 = 3 := ey18.trans (by decide)
      refine va_sld hx hb hX9 hbl hbA hS (show ¬ (_ ∨ _) by decide) dL_law_679 ?_
      refine W.eq (g2 := F0 m 680 ls [.int (xs 3), .int (xs 2), .int (xs 1), .ref k0]) rfl ?_
      refine lv_aload_n hx hb dL_law_680 rfl (lv_at hl 6 rfl) ?_
      refine lv_iload hx hb dL_law_681 (lv_at hl 1 rfl) ?_
      refine lv_iconst (v := 4) hx hb dL_law_683 (by decide) ?_
      refine lv_iadd hx hb dL_law_684 ?_
      refine lv_topi (fun y19 ey19 => ?_)
      obtain rfl : y19 = 4 := ey19.trans (by decide)
      refine va_sld hx hb hX9 hbl hbA hS (show ¬ (_ ∨ _) by decide) dL_law_685 ?_
      refine W.eq (g2 := F0 m 686 ls [.int (xs 4), .int (xs 3), .int (xs 2), .int (xs 1), .ref k0]) rfl ?_
      have hPc := hP.sub (ws' := [(k0, .inr (9, [.ref kN, .ref kA, .ref kO, .ref kK, .ref kV, .ref kG, .ref kP, .ref kC, .ref kD, .ref kE, .ref kF, .ref kX, .ref kY, .int 0, .ref kT, .ref kU, .int 0, .int 0, .int 0])), (kN, .inl (cI, 2, .inl (fun _ => 0))), (kA, .inl (cI, 2, .inl (fun _ => 0)))]) [0, 1, 2] rfl
      have hDc := hD.sub (ws' := [(k0, .inr (9, [.ref kN, .ref kA, .ref kO, .ref kK, .ref kV, .ref kG, .ref kP, .ref kC, .ref kD, .ref kE, .ref kF, .ref kX, .ref kY, .int 0, .ref kT, .ref kU, .int 0, .int 0, .int 0])), (kN, .inl (cI, 2, .inl (fun _ => 0))), (kA, .inl (cI, 2, .inl (fun _ => 0)))]) [0, 1, 2] (by decide) rfl
      have hKc := hK.sub (tys' := [(cI, .int)]) [0] rfl
      have hFc := va_free (wc := [(k0, .inr (9, [.ref kN, .ref kA, .ref kO, .ref kK, .ref kV, .ref kG, .ref kP, .ref kC, .ref kD, .ref kE, .ref kF, .ref kX, .ref kY, .int 0, .ref kT, .ref kU, .int 0, .int 0, .int 0])), (kN, .inl (cI, 2, .inl (fun _ => 0))), (kA, .inl (cI, 2, .inl (fun _ => 0)))]) hD hS hA [0, 1, 2] rfl
      refine va_calli (va_runV (As := [.int (xs 1), .int (xs 2), .int (xs 3), .int (xs 4)]) (rest := []) ⟨hx, hb, hml, hown, hts⟩ (kX6_rewire l dC dI k0 kN kA kO kK kV kG kP kC kD kE kF kX kY kT kU cI (xs 1) (xs 2) (xs 3) (xs 4) H.size) (cwV 4 hts gL_law_X6_rewire rfl rfl rfl (by decide +kernel) ⟨Nat.le_of_ble_eq_true rfl, Nat.le_of_ble_eq_true rfl⟩) (fPreV hN hZ hS (fun q h => hFc q h) hPc hKc hDc (ci := 9) (q0 := 0) rfl rfl) rfl rfl hl.1 rfl (lv_room (Nat.le_of_ble_eq_true rfl)) dL_law_686 ⟨Nat.le_of_ble_eq_true rfl, Nat.le_of_ble_eq_true rfl⟩) hS (fun q _ h => hFc q h) hFc (fun r u t H1 locs ht hvm hw hB hz1 hk1 hS => ?_)
      obtain ⟨hP1, hK1, hD1⟩ := hB
      rw [ht] at hP1
      have hK1 := va_K.moved hvm.symm hK1
      obtain ⟨u20, rfl⟩ : ∃ z, z = u := ⟨_, rfl⟩
      obtain ⟨hP, hD⟩ := va_join (wr := [(oJ, .inl (cJ, 1, .inr (.inl u5)))]) (w1 := [(k0, .inr (9, [.ref kN, .ref kA, .ref kO, .ref kK, .ref kV, .ref kG, .ref kP, .ref kC, .ref kD, .ref kE, .ref kF, .ref kX, .ref kY, .int 0, .ref kT, .ref kU, .int u20, .int 0, .int 0]))]) hP hD [0, 1, 2] [3] rfl rfl (by decide) (by decide) hk1 hFc hP1 hD1
      generalize H1 = H at hP hS ⊢
      have hP : va_P (dC, dI) vwCl [(oJ, .inl (cJ, 1, .inr (.inl u5))), (k0, .inr (9, [.ref kN, .ref kA, .ref kO, .ref kK, .ref kV, .ref kG, .ref kP, .ref kC, .ref kD, .ref kE, .ref kF, .ref kX, .ref kY, .int 0, .ref kT, .ref kU, .int u20, .int 0, .int 0]))] _ := hP
      have hD : va_D A [(oJ, .inl (cJ, 1, .inr (.inl u5))), (k0, .inr (9, [.ref kN, .ref kA, .ref kO, .ref kK, .ref kV, .ref kG, .ref kP, .ref kC, .ref kD, .ref kE, .ref kF, .ref kX, .ref kY, .int 0, .ref kT, .ref kU, .int u20, .int 0, .int 0]))] := hD
      obtain ⟨r21, rfl⟩ : ∃ z, z = r := ⟨_, rfl⟩
      rcases hw with ⟨rfl, hg9⟩ | ⟨rfl, hg9⟩
      · skip
        exact absurd hg9 (hf15)
      · skip
        have hP : va_P (dC, dI) vwCl [(oJ, .inl (cJ, 1, .inr (.inl u5))), (k0, .inr (9, [.ref kN, .ref kA, .ref kO, .ref kK, .ref kV, .ref kG, .ref kP, .ref kC, .ref kD, .ref kE, .ref kF, .ref kX, .ref kY, .int 0, .ref kT, .ref kU, .int 2, .int 0, .int 0]))] _ := hP
        have hD : va_D A [(oJ, .inl (cJ, 1, .inr (.inl u5))), (k0, .inr (9, [.ref kN, .ref kA, .ref kO, .ref kK, .ref kV, .ref kG, .ref kP, .ref kC, .ref kD, .ref kE, .ref kF, .ref kX, .ref kY, .int 0, .ref kT, .ref kU, .int 2, .int 0, .int 0]))] := hD
        refine lv_istore (lv' := [(7, .int r21), (6, .int 2), (5, .int 0), (4, .ref oD), (3, .ref oJ), (2, .ref k0), (1, .ref h0), (0, .ref b)]) hx hb dL_law_689 hl (Nat.le_of_ble_eq_true rfl) rfl (fun ls hl => ?_)
        refine lv_aload_n hx hb dL_law_691 rfl (lv_at hl 5 rfl) ?_
        have hPc := hP.sub (ws' := [(k0, .inr (9, [.ref kN, .ref kA, .ref kO, .ref kK, .ref kV, .ref kG, .ref kP, .ref kC, .ref kD, .ref kE, .ref kF, .ref kX, .ref kY, .int 0, .ref kT, .ref kU, .int 2, .int 0, .int 0]))]) [1] rfl
        have hDc := hD.sub (ws' := [(k0, .inr (9, [.ref kN, .ref kA, .ref kO, .ref kK, .ref kV, .ref kG, .ref kP, .ref kC, .ref kD, .ref kE, .ref kF, .ref kX, .ref kY, .int 0, .ref kT, .ref kU, .int 2, .int 0, .int 0]))]) [1] (by decide) rfl
        have hKc := hK.sub (tys' := []) [] rfl
        have hFc := va_free (wc := [(k0, .inr (9, [.ref kN, .ref kA, .ref kO, .ref kK, .ref kV, .ref kG, .ref kP, .ref kC, .ref kD, .ref kE, .ref kF, .ref kX, .ref kY, .int 0, .ref kT, .ref kU, .int 2, .int 0, .int 0]))]) hD hS hA [1] rfl
        refine va_calli (va_runV (As := []) (rest := []) ⟨hx, hb, hml, hown, hts⟩ (kX6_thrown l dC dI k0 kN kA kO kK kV kG kP kC kD kE kF kX kY kT kU 2 H.size) (cwV 0 hts gL_law_X6_thrown rfl rfl rfl (by decide +kernel) ⟨Nat.le_of_ble_eq_true rfl, Nat.le_of_ble_eq_true rfl⟩) (fPreV hN hZ hS (fun q h => hFc q h) hPc hKc hDc (ci := 9) (q0 := 0) rfl rfl) rfl rfl hl.1 rfl (lv_room (Nat.le_of_ble_eq_true rfl)) dL_law_692 ⟨Nat.le_of_ble_eq_true rfl, Nat.le_of_ble_eq_true rfl⟩) hS (fun q _ h => hFc q h) hFc (fun r u t H1 locs ht hvm hw hB hz1 hk1 hS => ?_)
        obtain ⟨hP1, hK1, hD1⟩ := hB
        rw [ht] at hP1
        have hK1 := va_K.moved hvm.symm hK1
        obtain ⟨hP, hD⟩ := va_join (wr := [(oJ, .inl (cJ, 1, .inr (.inl u5)))]) (w1 := []) hP hD [1] [0] rfl rfl (by decide) (by decide) hk1 hFc hP1 hD1
        generalize H1 = H at hP hS ⊢
        have hP : va_P (dC, dI) vwCl [(oJ, .inl (cJ, 1, .inr (.inl u5)))] _ := hP
        have hD : va_D A [(oJ, .inl (cJ, 1, .inr (.inl u5)))] := hD
        subst hw
        refine lv_iload hx hb dL_law_695 (lv_at hl 1 rfl) ?_
        refine lv_icmp_eq (tgt := 702) hx hb dL_law_697 (by decide) (fun _ => ?_) (fun h9 => absurd (by decide) h9)
        refine lv_iload hx hb dL_law_702 (lv_at hl 1 rfl) ?_
        refine lv_if_ne (tgt := 719) hx hb dL_law_704 (by decide) (fun _ => ?_) (fun h9 => absurd h9 (by decide))
        refine lv_goto (tgt := 2720) hx hb dL_law_719 (by decide) ?_
        refine lv_iinc (v := 7) (lv' := [(5, .int 7), (7, .int r21), (6, .int 2), (4, .ref oD), (3, .ref oJ), (2, .ref k0), (1, .ref h0), (0, .ref b)]) hx hb dL_law_2720 hl (k := 2) rfl (by decide) (Nat.le_of_ble_eq_true rfl) rfl (fun ls hl => ?_)
        refine lv_goto (tgt := 28) hx hb dL_law_2723 (by decide) ?_
        refine lv_iload hx hb dL_law_28 (lv_at hl 0 rfl) ?_
        refine lv_aload_n hx hb dL_law_30 rfl (lv_at hl 7 rfl) ?_
        refine va_slen hx hb hX9 hbl hbA hS dL_law_31 ?_
        refine W.eq (g2 := F0 m 32 ls [.int 7, .int 7]) rfl ?_
        refine lv_bipush (v := 7) hx hb dL_law_32 (by decide) ?_
        refine lv_isub hx hb dL_law_34 ?_
        refine lv_topi (fun y22 ey22 => ?_)
        obtain rfl : y22 = 0 := ey22.trans (by decide)
        refine lv_icmp_gt (tgt := 2726) hx hb dL_law_35 (by decide) (fun _ => ?_) (fun h9 => absurd (by decide) h9)
        refine lv_iconst (v := 1) hx hb dL_law_2726 (by decide) ?_
        refine va_forget (fun q hq => hAe _ (hS.2.2 q hq)) ?_
        refine W.widen (k := 600006) (n := 7302048) (Nat.le_of_ble_eq_true rfl) (Nat.le_of_ble_eq_true rfl) ?_
        exact W.base (lw_ret (d0 := s.drawn) (Drawn.sameBut.refl _ _) hx hb hr hlk dL_law_2727)

set_option maxHeartbeats 4000000 in
set_option maxRecDepth 100000 in
/-- case 6 of the law: swapPins, on fresh objects -/
theorem lc_6 {p : Program} {e : Env} {s : State} {m : MethodId} {below : List Frame} {meth : Method} {c : Code} (l : Launch) (hfl : l.stackTraces = false) {b : Nat} {xs : Nat → Int32} (hx : p.tables.exec = Jvm.exec) (hb : c.code = cL_law) (hr : meth.sig.returnType = ret) (hml : c.maxLocals = 9) (hown : s.vm.findClass RL = some m.cls) (hts : ∀ w ∈ wsL_law, w.before #[Value.ref b] s = true) (hlk : meth.locks = false) (A : Nat → Prop) (hAe : ∀ q, A q → s.heap.size ≤ q) (hA : ∀ q : Nat, s.heap.size ≤ q → A q) (hX9 : va_X b 7 xs s s.heap) (hbl : b < s.heap.size) (hN : fN s) (hZ : fZ A s s.heap) (hX : fX s) (dC : Nat → ClassId) (dI : Nat → Nat → Nat) (h0 pr w d on op un wL wK wV wN wS wB dL dK dV dN dS dB ma tm k0 kN kA kO kK kV kG kP kC kD kE kF kX kY kT kU oJ oD : Nat) (cI cJ : ClassId) {H : Heap} {locs : List Loc} {ls : Array Slot} (hK : va_K (dC, dI) vwCl [(cI, .int), (cJ, .long)] s) (hP : va_P (dC, dI) vwCl [(h0, .inr (8, [.ref pr, .ref ma, .ref tm])), (pr, .inr (7, [.ref w, .ref d, .ref on, .ref op, .ref un, .int 0, .int 0])), (w, .inr (3, [.int 0, .int 0, .ref wL, .ref wK, .ref wV, .ref wN, .ref wS, .ref wB, .int 0])), (d, .inr (3, [.int 0, .int 0, .ref dL, .ref dK, .ref dV, .ref dN, .ref dS, .ref dB, .int 0])), (wV, .inl (cI, 10, .inl (fun _ => 0))), (dV, .inl (cI, 10, .inl (fun _ => 0))), (k0, .inr (9, [.ref kN, .ref kA, .ref kO, .ref kK, .ref kV, .ref kG, .ref kP, .ref kC, .ref kD, .ref kE, .ref kF, .ref kX, .ref kY, .int 0, .ref kT, .ref kU, .int 0, .int 0, .int 0])), (kN, .inl (cI, 2, .inl (fun _ => 0))), (kA, .inl (cI, 2, .inl (fun _ => 0))), (oJ, .inl (cJ, 1, .inr (.inl (fun _ => 0))))] H) (hD : va_D A [(h0, .inr (8, [.ref pr, .ref ma, .ref tm])), (pr, .inr (7, [.ref w, .ref d, .ref on, .ref op, .ref un, .int 0, .int 0])), (w, .inr (3, [.int 0, .int 0, .ref wL, .ref wK, .ref wV, .ref wN, .ref wS, .ref wB, .int 0])), (d, .inr (3, [.int 0, .int 0, .ref dL, .ref dK, .ref dV, .ref dN, .ref dS, .ref dB, .int 0])), (wV, .inl (cI, 10, .inl (fun _ => 0))), (dV, .inl (cI, 10, .inl (fun _ => 0))), (k0, .inr (9, [.ref kN, .ref kA, .ref kO, .ref kK, .ref kV, .ref kG, .ref kP, .ref kC, .ref kD, .ref kE, .ref kF, .ref kX, .ref kY, .int 0, .ref kT, .ref kU, .int 0, .int 0, .int 0])), (kN, .inl (cI, 2, .inl (fun _ => 0))), (kA, .inl (cI, 2, .inl (fun _ => 0))), (oJ, .inl (cJ, 1, .inr (.inl (fun _ => 0))))]) (hS : va_S A s.heap H locs) (hl : lv_has ls 9 [(5, .int 0), (4, .ref oD), (3, .ref oJ), (2, .ref k0), (1, .ref h0), (0, .ref b)]) : W p l e room_1 s m #[Value.ref b] below meth c H locs 114 2061 (lw_Z below #[Value.ref b] s) (F0 m 722 ls []) := by
  have hbA : ¬ A b := fun h => Nat.not_le.mpr hbl (hAe _ h)
  have hX0 := hX
  refine lv_aload_n hx hb dL_law_722 rfl (lv_at hl 4 rfl) ?_
  refine lv_aload_n hx hb dL_law_723 rfl (lv_at hl 5 rfl) ?_
  refine lv_iload hx hb dL_law_724 (lv_at hl 0 rfl) ?_
  refine lv_iconst (v := 1) hx hb dL_law_726 (by decide) ?_
  refine lv_iadd hx hb dL_law_727 ?_
  refine lv_topi (fun y1 ey1 => ?_)
  obtain rfl : y1 = 1 := ey1.trans (by decide)
  refine va_sld hx hb hX9 hbl hbA hS (show ¬ (_ ∨ _) by decide) dL_law_728 ?_
  refine W.eq (g2 := F0 m 729 ls [.int (xs 1), .ref h0]) rfl ?_
  refine lv_aload_n hx hb dL_law_729 rfl (lv_at hl 5 rfl) ?_
  refine lv_iload hx hb dL_law_730 (lv_at hl 0 rfl) ?_
  refine lv_iconst (v := 2) hx hb dL_law_732 (by decide) ?_
  refine lv_iadd hx hb dL_law_733 ?_
  refine lv_topi (fun y2 ey2 => ?_)
  obtain rfl : y2 = 2 := ey2.trans (by decide)
  refine va_sld hx hb hX9 hbl hbA hS (show ¬ (_ ∨ _) by decide) dL_law_734 ?_
  refine W.eq (g2 := F0 m 735 ls [.int (xs 2), .int (xs 1), .ref h0]) rfl ?_
  refine lv_aload_n hx hb dL_law_735 rfl (lv_at hl 2 rfl) ?_
  have hPc := hP.sub (ws' := [(h0, .inr (8, [.ref pr, .ref ma, .ref tm])), (pr, .inr (7, [.ref w, .ref d, .ref on, .ref op, .ref un, .int 0, .int 0])), (w, .inr (3, [.int 0, .int 0, .ref wL, .ref wK, .ref wV, .ref wN, .ref wS, .ref wB, .int 0])), (d, .inr (3, [.int 0, .int 0, .ref dL, .ref dK, .ref dV, .ref dN, .ref dS, .ref dB, .int 0])), (wV, .inl (cI, 10, .inl (fun _ => 0))), (dV, .inl (cI, 10, .inl (fun _ => 0))), (oJ, .inl (cJ, 1, .inr (.inl (fun _ => 0))))]) [0, 1, 2, 3, 4, 5, 9] rfl
  have hDc := hD.sub (ws' := [(h0, .inr (8, [.ref pr, .ref ma, .ref tm])), (pr, .inr (7, [.ref w, .ref d, .ref on, .ref op, .ref un, .int 0, .int 0])), (w, .inr (3, [.int 0, .int 0, .ref wL, .ref wK, .ref wV, .ref wN, .ref wS, .ref wB, .int 0])), (d, .inr (3, [.int 0, .int 0, .ref dL, .ref dK, .ref dV, .ref dN, .ref dS, .ref dB, .int 0])), (wV, .inl (cI, 10, .inl (fun _ => 0))), (dV, .inl (cI, 10, .inl (fun _ => 0))), (oJ, .inl (cJ, 1, .inr (.inl (fun _ => 0))))]) [0, 1, 2, 3, 4, 5, 9] (by decide) rfl
  have hKc := hK.sub (tys' := [(cI, .int), (cJ, .long)]) [0, 1] rfl
  have hFc := va_free (wc := [(h0, .inr (8, [.ref pr, .ref ma, .ref tm])), (pr, .inr (7, [.ref w, .ref d, .ref on, .ref op, .ref un, .int 0, .int 0])), (w, .inr (3, [.int 0, .int 0, .ref wL, .ref wK, .ref wV, .ref wN, .ref wS, .ref wB, .int 0])), (d, .inr (3, [.int 0, .int 0, .ref dL, .ref dK, .ref dV, .ref dN, .ref dS, .ref dB, .int 0])), (wV, .inl (cI, 10, .inl (fun _ => 0))), (dV, .inl (cI, 10, .inl (fun _ => 0))), (oJ, .inl (cJ, 1, .inr (.inl (fun _ => 0))))]) hD hS hA [0, 1, 2, 3, 4, 5, 9] rfl
  refine vx_calli (vx_runSX (As := [.ref h0, .int (xs 1), .int (xs 2), .ref oJ]) (rest := []) ⟨hx, hb, hml, hown, hts⟩ (kL_swapPins l hfl dC dI h0 pr ma tm w d on op un wL wK wV wN wS wB dL dK dV dN dS dB cI oJ cJ (xs 1) (xs 2) H.size) (vx_cwSW 4 hts gL_law_L_swapPins rfl rfl rfl (by decide +kernel) ⟨Nat.le_of_ble_eq_true rfl, Nat.le_of_ble_eq_true rfl⟩) (gPreS hX hN hZ hS (fun q h => hFc q h) hPc hKc hDc) rfl rfl hl.1 rfl (lv_room (Nat.le_of_ble_eq_true rfl)) dL_law_736 ⟨Nat.le_of_ble_eq_true rfl, Nat.le_of_ble_eq_true rfl⟩) hS (fun q _ h => hFc q h) hFc (fun q _ h => hFc q h) (fun E ce q9 u t H locs ht hvm hpx hE hz1 hk1 hS hq9 hv9 hc9 => ?_) (fun r u t H1 locs ht hvm hw hB hz1 hk1 hS => ?_)
  · skip
    exact hE.elim
  · skip
    obtain ⟨hP1, hK1, hD1⟩ := hB
    rw [ht] at hP1
    have hK1 := va_K.moved hvm.symm hK1
    obtain ⟨u3, rfl⟩ : ∃ z, z = u := ⟨_, rfl⟩
    obtain ⟨hP, hD⟩ := va_join (wr := [(k0, .inr (9, [.ref kN, .ref kA, .ref kO, .ref kK, .ref kV, .ref kG, .ref kP, .ref kC, .ref kD, .ref kE, .ref kF, .ref kX, .ref kY, .int 0, .ref kT, .ref kU, .int 0, .int 0, .int 0])), (kN, .inl (cI, 2, .inl (fun _ => 0))), (kA, .inl (cI, 2, .inl (fun _ => 0)))]) (w1 := [(oJ, .inl (cJ, 1, .inr (.inl u3)))]) hP hD [0, 1, 2, 3, 4, 5, 9] [6, 7, 8] rfl rfl (by decide) (by decide) hk1 hFc hP1 hD1
    generalize H1 = H at hP hS ⊢
    have hP : va_P (dC, dI) vwCl [(k0, .inr (9, [.ref kN, .ref kA, .ref kO, .ref kK, .ref kV, .ref kG, .ref kP, .ref kC, .ref kD, .ref kE, .ref kF, .ref kX, .ref kY, .int 0, .ref kT, .ref kU, .int 0, .int 0, .int 0])), (kN, .inl (cI, 2, .inl (fun _ => 0))), (kA, .inl (cI, 2, .inl (fun _ => 0))), (oJ, .inl (cJ, 1, .inr (.inl u3)))] _ := hP
    have hD : va_D A [(k0, .inr (9, [.ref kN, .ref kA, .ref kO, .ref kK, .ref kV, .ref kG, .ref kP, .ref kC, .ref kD, .ref kE, .ref kF, .ref kX, .ref kY, .int 0, .ref kT, .ref kU, .int 0, .int 0, .int 0])), (kN, .inl (cI, 2, .inl (fun _ => 0))), (kA, .inl (cI, 2, .inl (fun _ => 0))), (oJ, .inl (cJ, 1, .inr (.inl u3)))] := hD
    refine W.widen (k := 117) (n := 2079) (Nat.le_of_ble_eq_true rfl) (Nat.le_of_ble_eq_true rfl) ?_
    rcases hw with ⟨rfl, hf9⟩ | ⟨rfl, hf9⟩
    · skip
      have hf4 := hf9
      refine lv_istore (lv' := [(6, .int 1), (5, .int 0), (4, .ref oD), (3, .ref oJ), (2, .ref k0), (1, .ref h0), (0, .ref b)]) hx hb dL_law_739 hl (Nat.le_of_ble_eq_true rfl) rfl (fun ls hl => ?_)
      refine lv_aload_n hx hb dL_law_741 rfl (lv_at hl 4 rfl) ?_
      refine lv_aload_n hx hb dL_law_742 rfl (lv_at hl 6 rfl) ?_
      refine lv_iload hx hb dL_law_743 (lv_at hl 1 rfl) ?_
      refine lv_iconst (v := 1) hx hb dL_law_745 (by decide) ?_
      refine lv_iadd hx hb dL_law_746 ?_
      refine lv_topi (fun y5 ey5 => ?_)
      obtain rfl : y5 = 1 := ey5.trans (by decide)
      refine va_sld hx hb hX9 hbl hbA hS (show ¬ (_ ∨ _) by decide) dL_law_747 ?_
      refine W.eq (g2 := F0 m 748 ls [.int (xs 1), .ref k0]) rfl ?_
      refine lv_aload_n hx hb dL_law_748 rfl (lv_at hl 6 rfl) ?_
      refine lv_iload hx hb dL_law_749 (lv_at hl 1 rfl) ?_
      refine lv_iconst (v := 2) hx hb dL_law_751 (by decide) ?_
      refine lv_iadd hx hb dL_law_752 ?_
      refine lv_topi (fun y6 ey6 => ?_)
      obtain rfl : y6 = 2 := ey6.trans (by decide)
      refine va_sld hx hb hX9 hbl hbA hS (show ¬ (_ ∨ _) by decide) dL_law_753 ?_
      refine W.eq (g2 := F0 m 754 ls [.int (xs 2), .int (xs 1), .ref k0]) rfl ?_
      have hPc := hP.sub (ws' := [(k0, .inr (9, [.ref kN, .ref kA, .ref kO, .ref kK, .ref kV, .ref kG, .ref kP, .ref kC, .ref kD, .ref kE, .ref kF, .ref kX, .ref kY, .int 0, .ref kT, .ref kU, .int 0, .int 0, .int 0])), (kN, .inl (cI, 2, .inl (fun _ => 0))), (kA, .inl (cI, 2, .inl (fun _ => 0)))]) [0, 1, 2] rfl
      have hDc := hD.sub (ws' := [(k0, .inr (9, [.ref kN, .ref kA, .ref kO, .ref kK, .ref kV, .ref kG, .ref kP, .ref kC, .ref kD, .ref kE, .ref kF, .ref kX, .ref kY, .int 0, .ref kT, .ref kU, .int 0, .int 0, .int 0])), (kN, .inl (cI, 2, .inl (fun _ => 0))), (kA, .inl (cI, 2, .inl (fun _ => 0)))]) [0, 1, 2] (by decide) rfl
      have hKc := hK.sub (tys' := [(cI, .int)]) [0] rfl
      have hFc := va_free (wc := [(k0, .inr (9, [.ref kN, .ref kA, .ref kO, .ref kK, .ref kV, .ref kG, .ref kP, .ref kC, .ref kD, .ref kE, .ref kF, .ref kX, .ref kY, .int 0, .ref kT, .ref kU, .int 0, .int 0, .int 0])), (kN, .inl (cI, 2, .inl (fun _ => 0))), (kA, .inl (cI, 2, .inl (fun _ => 0)))]) hD hS hA [0, 1, 2] rfl
      refine va_calli (va_runV (As := [.int (xs 1), .int (xs 2)]) (rest := []) ⟨hx, hb, hml, hown, hts⟩ (kX6_swapPins l dC dI k0 kN kA kO kK kV kG kP kC kD kE kF kX kY kT kU cI (xs 1) (xs 2) H.size) (cwV 2 hts gL_law_X6_swapPins rfl rfl rfl (by decide +kernel) ⟨Nat.le_of_ble_eq_true rfl, Nat.le_of_ble_eq_true rfl⟩) (fPreV hN hZ hS (fun q h => hFc q h) hPc hKc hDc (ci := 9) (q0 := 0) rfl rfl) rfl rfl hl.1 rfl (lv_room (Nat.le_of_ble_eq_true rfl)) dL_law_754 ⟨Nat.le_of_ble_eq_true rfl, Nat.le_of_ble_eq_true rfl⟩) hS (fun q _ h => hFc q h) hFc (fun r u t H1 locs ht hvm hw hB hz1 hk1 hS => ?_)
      obtain ⟨hP1, hK1, hD1⟩ := hB
      rw [ht] at hP1
      have hK1 := va_K.moved hvm.symm hK1
      obtain ⟨u7, rfl⟩ : ∃ z, z = u := ⟨_, rfl⟩
      obtain ⟨hP, hD⟩ := va_join (wr := [(oJ, .inl (cJ, 1, .inr (.inl u3)))]) (w1 := [(k0, .inr (9, [.ref kN, .ref kA, .ref kO, .ref kK, .ref kV, .ref kG, .ref kP, .ref kC, .ref kD, .ref kE, .ref kF, .ref kX, .ref kY, .int 0, .ref kT, .ref kU, .int u7, .int 0, .int 0]))]) hP hD [0, 1, 2] [3] rfl rfl (by decide) (by decide) hk1 hFc hP1 hD1
      generalize H1 = H at hP hS ⊢
      have hP : va_P (dC, dI) vwCl [(oJ, .inl (cJ, 1, .inr (.inl u3))), (k0, .inr (9, [.ref kN, .ref kA, .ref kO, .ref kK, .ref kV, .ref kG, .ref kP, .ref kC, .ref kD, .ref kE, .ref kF, .ref kX, .ref kY, .int 0, .ref kT, .ref kU, .int u7, .int 0, .int 0]))] _ := hP
      have hD : va_D A [(oJ, .inl (cJ, 1, .inr (.inl u3))), (k0, .inr (9, [.ref kN, .ref kA, .ref kO, .ref kK, .ref kV, .ref kG, .ref kP, .ref kC, .ref kD, .ref kE, .ref kF, .ref kX, .ref kY, .int 0, .ref kT, .ref kU, .int u7, .int 0, .int 0]))] := hD
      obtain ⟨r8, rfl⟩ : ∃ z, z = r := ⟨_, rfl⟩
      rcases hw with ⟨rfl, hg9⟩ | ⟨rfl, hg9⟩
      · skip
        have hP : va_P (dC, dI) vwCl [(oJ, .inl (cJ, 1, .inr (.inl u3))), (k0, .inr (9, [.ref kN, .ref kA, .ref kO, .ref kK, .ref kV, .ref kG, .ref kP, .ref kC, .ref kD, .ref kE, .ref kF, .ref kX, .ref kY, .int 0, .ref kT, .ref kU, .int 1, .int 0, .int 0]))] _ := hP
        have hD : va_D A [(oJ, .inl (cJ, 1, .inr (.inl u3))), (k0, .inr (9, [.ref kN, .ref kA, .ref kO, .ref kK, .ref kV, .ref kG, .ref kP, .ref kC, .ref kD, .ref kE, .ref kF, .ref kX, .ref kY, .int 0, .ref kT, .ref kU, .int 1, .int 0, .int 0]))] := hD
        refine lv_istore (lv' := [(7, .int r8), (6, .int 1), (5, .int 0), (4, .ref oD), (3, .ref oJ), (2, .ref k0), (1, .ref h0), (0, .ref b)]) hx hb dL_law_757 hl (Nat.le_of_ble_eq_true rfl) rfl (fun ls hl => ?_)
        refine lv_aload_n hx hb dL_law_759 rfl (lv_at hl 5 rfl) ?_
        have hPc := hP.sub (ws' := [(k0, .inr (9, [.ref kN, .ref kA, .ref kO, .ref kK, .ref kV, .ref kG, .ref kP, .ref kC, .ref kD, .ref kE, .ref kF, .ref kX, .ref kY, .int 0, .ref kT, .ref kU, .int 1, .int 0, .int 0]))]) [1] rfl
        have hDc := hD.sub (ws' := [(k0, .inr (9, [.ref kN, .ref kA, .ref kO, .ref kK, .ref kV, .ref kG, .ref kP, .ref kC, .ref kD, .ref kE, .ref kF, .ref kX, .ref kY, .int 0, .ref kT, .ref kU, .int 1, .int 0, .int 0]))]) [1] (by decide) rfl
        have hKc := hK.sub (tys' := []) [] rfl
        have hFc := va_free (wc := [(k0, .inr (9, [.ref kN, .ref kA, .ref kO, .ref kK, .ref kV, .ref kG, .ref kP, .ref kC, .ref kD, .ref kE, .ref kF, .ref kX, .ref kY, .int 0, .ref kT, .ref kU, .int 1, .int 0, .int 0]))]) hD hS hA [1] rfl
        refine va_calli (va_runV (As := []) (rest := []) ⟨hx, hb, hml, hown, hts⟩ (kX6_thrown l dC dI k0 kN kA kO kK kV kG kP kC kD kE kF kX kY kT kU 1 H.size) (cwV 0 hts gL_law_X6_thrown rfl rfl rfl (by decide +kernel) ⟨Nat.le_of_ble_eq_true rfl, Nat.le_of_ble_eq_true rfl⟩) (fPreV hN hZ hS (fun q h => hFc q h) hPc hKc hDc (ci := 9) (q0 := 0) rfl rfl) rfl rfl hl.1 rfl (lv_room (Nat.le_of_ble_eq_true rfl)) dL_law_760 ⟨Nat.le_of_ble_eq_true rfl, Nat.le_of_ble_eq_true rfl⟩) hS (fun q _ h => hFc q h) hFc (fun r u t H1 locs ht hvm hw hB hz1 hk1 hS => ?_)
        obtain ⟨hP1, hK1, hD1⟩ := hB
        rw [ht] at hP1
        have hK1 := va_K.moved hvm.symm hK1
        obtain ⟨hP, hD⟩ := va_join (wr := [(oJ, .inl (cJ, 1, .inr (.inl u3)))]) (w1 := []) hP hD [1] [0] rfl rfl (by decide) (by decide) hk1 hFc hP1 hD1
        generalize H1 = H at hP hS ⊢
        have hP : va_P (dC, dI) vwCl [(oJ, .inl (cJ, 1, .inr (.inl u3)))] _ := hP
        have hD : va_D A [(oJ, .inl (cJ, 1, .inr (.inl u3)))] := hD
        subst hw
        refine lv_iload hx hb dL_law_763 (lv_at hl 1 rfl) ?_
        refine lv_icmp_eq (tgt := 770) hx hb dL_law_765 (by decide) (fun _ => ?_) (fun h9 => absurd (by decide) h9)
        refine lv_iload hx hb dL_law_770 (lv_at hl 1 rfl) ?_
        refine lv_if_ne (tgt := 787) hx hb dL_law_772 (by decide) (fun _ => ?_) (fun h9 => absurd h9 (by decide))
        refine lv_goto (tgt := 2720) hx hb dL_law_787 (by decide) ?_
        refine lv_iinc (v := 7) (lv' := [(5, .int 7), (7, .int r8), (6, .int 1), (4, .ref oD), (3, .ref oJ), (2, .ref k0), (1, .ref h0), (0, .ref b)]) hx hb dL_law_2720 hl (k := 2) rfl (by decide) (Nat.le_of_ble_eq_true rfl) rfl (fun ls hl => ?_)
        refine lv_goto (tgt := 28) hx hb dL_law_2723 (by decide) ?_
        refine lv_iload hx hb dL_law_28 (lv_at hl 0 rfl) ?_
        refine lv_aload_n hx hb dL_law_30 rfl (lv_at hl 7 rfl) ?_
        refine va_slen hx hb hX9 hbl hbA hS dL_law_31 ?_
        refine W.eq (g2 := F0 m 32 ls [.int 7, .int 7]) rfl ?_
        refine lv_bipush (v := 7) hx hb dL_law_32 (by decide) ?_
        refine lv_isub hx hb dL_law_34 ?_
        refine lv_topi (fun y10 ey10 => ?_)
        obtain rfl : y10 = 0 := ey10.trans (by decide)
        refine lv_icmp_gt (tgt := 2726) hx hb dL_law_35 (by decide) (fun _ => ?_) (fun h9 => absurd (by decide) h9)
        refine lv_iconst (v := 1) hx hb dL_law_2726 (by decide) ?_
        refine va_forget (fun q hq => hAe _ (hS.2.2 q hq)) ?_
        refine W.widen (k := 600006) (n := 7302048) (Nat.le_of_ble_eq_true rfl) (Nat.le_of_ble_eq_true rfl) ?_
        exact W.base (lw_ret (d0 := s.drawn) (Drawn.sameBut.refl _ _) hx hb hr hlk dL_law_2727)
      · skip
        exact absurd hg9 ((fun h9 => h9 (hf4)))
    · skip
      have hf11 := hf9
      refine lv_istore (lv' := [(6, .int 2), (5, .int 0), (4, .ref oD), (3, .ref oJ), (2, .ref k0), (1, .ref h0), (0, .ref b)]) hx hb dL_law_739 hl (Nat.le_of_ble_eq_true rfl) rfl (fun ls hl => ?_)
      refine lv_aload_n hx hb dL_law_741 rfl (lv_at hl 4 rfl) ?_
      refine lv_aload_n hx hb dL_law_742 rfl (lv_at hl 6 rfl) ?_
      refine lv_iload hx hb dL_law_743 (lv_at hl 1 rfl) ?_
      refine lv_iconst (v := 1) hx hb dL_law_745 (by decide) ?_
      refine lv_iadd hx hb dL_law_746 ?_
      refine lv_topi (fun y12 ey12 => ?_)
      obtain rfl : y12 = 1 := ey12.trans (by decide)
      refine va_sld hx hb hX9 hbl hbA hS (show ¬ (_ ∨ _) by decide) dL_law_747 ?_
      refine W.eq (g2 := F0 m 748 ls [.int (xs 1), .ref k0]) rfl ?_
      refine lv_aload_n hx hb dL_law_748 rfl (lv_at hl 6 rfl) ?_
      refine lv_iload hx hb dL_law_749 (lv_at hl 1 rfl) ?_
      refine lv_iconst (v := 2) hx hb dL_law_751 (by decide) ?_
      refine lv_iadd hx hb dL_law_752 ?_
      refine lv_topi (fun y13 ey13 => ?_)
      obtain rfl : y13 = 2 := ey13.trans (by decide)
      refine va_sld hx hb hX9 hbl hbA hS (show ¬ (_ ∨ _) by decide) dL_law_753 ?_
      refine W.eq (g2 := F0 m 754 ls [.int (xs 2), .int (xs 1), .ref k0]) rfl ?_
      have hPc := hP.sub (ws' := [(k0, .inr (9, [.ref kN, .ref kA, .ref kO, .ref kK, .ref kV, .ref kG, .ref kP, .ref kC, .ref kD, .ref kE, .ref kF, .ref kX, .ref kY, .int 0, .ref kT, .ref kU, .int 0, .int 0, .int 0])), (kN, .inl (cI, 2, .inl (fun _ => 0))), (kA, .inl (cI, 2, .inl (fun _ => 0)))]) [0, 1, 2] rfl
      have hDc := hD.sub (ws' := [(k0, .inr (9, [.ref kN, .ref kA, .ref kO, .ref kK, .ref kV, .ref kG, .ref kP, .ref kC, .ref kD, .ref kE, .ref kF, .ref kX, .ref kY, .int 0, .ref kT, .ref kU, .int 0, .int 0, .int 0])), (kN, .inl (cI, 2, .inl (fun _ => 0))), (kA, .inl (cI, 2, .inl (fun _ => 0)))]) [0, 1, 2] (by decide) rfl
      have hKc := hK.sub (tys' := [(cI, .int)]) [0] rfl
      have hFc := va_free (wc := [(k0, .inr (9, [.ref kN, .ref kA, .ref kO, .ref kK, .ref kV, .ref kG, .ref kP, .ref kC, .ref kD, .ref kE, .ref kF, .ref kX, .ref kY, .int 0, .ref kT, .ref kU, .int 0, .int 0, .int 0])), (kN, .inl (cI, 2, .inl (fun _ => 0))), (kA, .inl (cI, 2, .inl (fun _ => 0)))]) hD hS hA [0, 1, 2] rfl
      refine va_calli (va_runV (As := [.int (xs 1), .int (xs 2)]) (rest := []) ⟨hx, hb, hml, hown, hts⟩ (kX6_swapPins l dC dI k0 kN kA kO kK kV kG kP kC kD kE kF kX kY kT kU cI (xs 1) (xs 2) H.size) (cwV 2 hts gL_law_X6_swapPins rfl rfl rfl (by decide +kernel) ⟨Nat.le_of_ble_eq_true rfl, Nat.le_of_ble_eq_true rfl⟩) (fPreV hN hZ hS (fun q h => hFc q h) hPc hKc hDc (ci := 9) (q0 := 0) rfl rfl) rfl rfl hl.1 rfl (lv_room (Nat.le_of_ble_eq_true rfl)) dL_law_754 ⟨Nat.le_of_ble_eq_true rfl, Nat.le_of_ble_eq_true rfl⟩) hS (fun q _ h => hFc q h) hFc (fun r u t H1 locs ht hvm hw hB hz1 hk1 hS => ?_)
      obtain ⟨hP1, hK1, hD1⟩ := hB
      rw [ht] at hP1
      have hK1 := va_K.moved hvm.symm hK1
      obtain ⟨u14, rfl⟩ : ∃ z, z = u := ⟨_, rfl⟩
      obtain ⟨hP, hD⟩ := va_join (wr := [(oJ, .inl (cJ, 1, .inr (.inl u3)))]) (w1 := [(k0, .inr (9, [.ref kN, .ref kA, .ref kO, .ref kK, .ref kV, .ref kG, .ref kP, .ref kC, .ref kD, .ref kE, .ref kF, .ref kX, .ref kY, .int 0, .ref kT, .ref kU, .int u14, .int 0, .int 0]))]) hP hD [0, 1, 2] [3] rfl rfl (by decide) (by decide) hk1 hFc hP1 hD1
      generalize H1 = H at hP hS ⊢
      have hP : va_P (dC, dI) vwCl [(oJ, .inl (cJ, 1, .inr (.inl u3))), (k0, .inr (9, [.ref kN, .ref kA, .ref kO, .ref kK, .ref kV, .ref kG, .ref kP, .ref kC, .ref kD, .ref kE, .ref kF, .ref kX, .ref kY, .int 0, .ref kT, .ref kU, .int u14, .int 0, .int 0]))] _ := hP
      have hD : va_D A [(oJ, .inl (cJ, 1, .inr (.inl u3))), (k0, .inr (9, [.ref kN, .ref kA, .ref kO, .ref kK, .ref kV, .ref kG, .ref kP, .ref kC, .ref kD, .ref kE, .ref kF, .ref kX, .ref kY, .int 0, .ref kT, .ref kU, .int u14, .int 0, .int 0]))] := hD
      obtain ⟨r15, rfl⟩ : ∃ z, z = r := ⟨_, rfl⟩
      rcases hw with ⟨rfl, hg9⟩ | ⟨rfl, hg9⟩
      · skip
        exact absurd hg9 (hf11)
      · skip
        have hP : va_P (dC, dI) vwCl [(oJ, .inl (cJ, 1, .inr (.inl u3))), (k0, .inr (9, [.ref kN, .ref kA, .ref kO, .ref kK, .ref kV, .ref kG, .ref kP, .ref kC, .ref kD, .ref kE, .ref kF, .ref kX, .ref kY, .int 0, .ref kT, .ref kU, .int 2, .int 0, .int 0]))] _ := hP
        have hD : va_D A [(oJ, .inl (cJ, 1, .inr (.inl u3))), (k0, .inr (9, [.ref kN, .ref kA, .ref kO, .ref kK, .ref kV, .ref kG, .ref kP, .ref kC, .ref kD, .ref kE, .ref kF, .ref kX, .ref kY, .int 0, .ref kT, .ref kU, .int 2, .int 0, .int 0]))] := hD
        refine lv_istore (lv' := [(7, .int r15), (6, .int 2), (5, .int 0), (4, .ref oD), (3, .ref oJ), (2, .ref k0), (1, .ref h0), (0, .ref b)]) hx hb dL_law_757 hl (Nat.le_of_ble_eq_true rfl) rfl (fun ls hl => ?_)
        refine lv_aload_n hx hb dL_law_759 rfl (lv_at hl 5 rfl) ?_
        have hPc := hP.sub (ws' := [(k0, .inr (9, [.ref kN, .ref kA, .ref kO, .ref kK, .ref kV, .ref kG, .ref kP, .ref kC, .ref kD, .ref kE, .ref kF, .ref kX, .ref kY, .int 0, .ref kT, .ref kU, .int 2, .int 0, .int 0]))]) [1] rfl
        have hDc := hD.sub (ws' := [(k0, .inr (9, [.ref kN, .ref kA, .ref kO, .ref kK, .ref kV, .ref kG, .ref kP, .ref kC, .ref kD, .ref kE, .ref kF, .ref kX, .ref kY, .int 0, .ref kT, .ref kU, .int 2, .int 0, .int 0]))]) [1] (by decide) rfl
        have hKc := hK.sub (tys' := []) [] rfl
        have hFc := va_free (wc := [(k0, .inr (9, [.ref kN, .ref kA, .ref kO, .ref kK, .ref kV, .ref kG, .ref kP, .ref kC, .ref kD, .ref kE, .ref kF, .ref kX, .ref kY, .int 0, .ref kT, .ref kU, .int 2, .int 0, .int 0]))]) hD hS hA [1] rfl
        refine va_calli (va_runV (As := []) (rest := []) ⟨hx, hb, hml, hown, hts⟩ (kX6_thrown l dC dI k0 kN kA kO kK kV kG kP kC kD kE kF kX kY kT kU 2 H.size) (cwV 0 hts gL_law_X6_thrown rfl rfl rfl (by decide +kernel) ⟨Nat.le_of_ble_eq_true rfl, Nat.le_of_ble_eq_true rfl⟩) (fPreV hN hZ hS (fun q h => hFc q h) hPc hKc hDc (ci := 9) (q0 := 0) rfl rfl) rfl rfl hl.1 rfl (lv_room (Nat.le_of_ble_eq_true rfl)) dL_law_760 ⟨Nat.le_of_ble_eq_true rfl, Nat.le_of_ble_eq_true rfl⟩) hS (fun q _ h => hFc q h) hFc (fun r u t H1 locs ht hvm hw hB hz1 hk1 hS => ?_)
        obtain ⟨hP1, hK1, hD1⟩ := hB
        rw [ht] at hP1
        have hK1 := va_K.moved hvm.symm hK1
        obtain ⟨hP, hD⟩ := va_join (wr := [(oJ, .inl (cJ, 1, .inr (.inl u3)))]) (w1 := []) hP hD [1] [0] rfl rfl (by decide) (by decide) hk1 hFc hP1 hD1
        generalize H1 = H at hP hS ⊢
        have hP : va_P (dC, dI) vwCl [(oJ, .inl (cJ, 1, .inr (.inl u3)))] _ := hP
        have hD : va_D A [(oJ, .inl (cJ, 1, .inr (.inl u3)))] := hD
        subst hw
        refine lv_iload hx hb dL_law_763 (lv_at hl 1 rfl) ?_
        refine lv_icmp_eq (tgt := 770) hx hb dL_law_765 (by decide) (fun _ => ?_) (fun h9 => absurd (by decide) h9)
        refine lv_iload hx hb dL_law_770 (lv_at hl 1 rfl) ?_
        refine lv_if_ne (tgt := 787) hx hb dL_law_772 (by decide) (fun _ => ?_) (fun h9 => absurd h9 (by decide))
        refine lv_goto (tgt := 2720) hx hb dL_law_787 (by decide) ?_
        refine lv_iinc (v := 7) (lv' := [(5, .int 7), (7, .int r15), (6, .int 2), (4, .ref oD), (3, .ref oJ), (2, .ref k0), (1, .ref h0), (0, .ref b)]) hx hb dL_law_2720 hl (k := 2) rfl (by decide) (Nat.le_of_ble_eq_true rfl) rfl (fun ls hl => ?_)
        refine lv_goto (tgt := 28) hx hb dL_law_2723 (by decide) ?_
        refine lv_iload hx hb dL_law_28 (lv_at hl 0 rfl) ?_
        refine lv_aload_n hx hb dL_law_30 rfl (lv_at hl 7 rfl) ?_
        refine va_slen hx hb hX9 hbl hbA hS dL_law_31 ?_
        refine W.eq (g2 := F0 m 32 ls [.int 7, .int 7]) rfl ?_
        refine lv_bipush (v := 7) hx hb dL_law_32 (by decide) ?_
        refine lv_isub hx hb dL_law_34 ?_
        refine lv_topi (fun y16 ey16 => ?_)
        obtain rfl : y16 = 0 := ey16.trans (by decide)
        refine lv_icmp_gt (tgt := 2726) hx hb dL_law_35 (by decide) (fun _ => ?_) (fun h9 => absurd (by decide) h9)
        refine lv_iconst (v := 1) hx hb dL_law_2726 (by decide) ?_
        refine va_forget (fun q hq => hAe _ (hS.2.2 q hq)) ?_
        refine W.widen (k := 600006) (n := 7302048) (Nat.le_of_ble_eq_true rfl) (Nat.le_of_ble_eq_true rfl) ?_
        exact W.base (lw_ret (d0 := s.drawn) (Drawn.sameBut.refl _ _) hx hb hr hlk dL_law_2727)
