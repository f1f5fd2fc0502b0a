set_option maxRecDepth 20000 in
theorem gk_L_valueOf_r1 : GoodIn wsL_law wsL_valueOf_r1 := goodIn_r _ [102, 147, 516, 517, 518, 2, 519, 221, 222, 223, 224, 156, 157, 110, 111, 112, 113, 17, 114, 115, 116, 117, 118, 119] (by decide +kernel) (by decide +kernel)
set_option maxRecDepth 20000 in
theorem gk_L_valueOf_r2 : GoodIn wsL_law wsL_valueOf_r2 := goodIn_r _ [120, 121, 16, 122, 30, 31, 225, 226, 227, 29, 228, 229, 230, 231, 232, 49, 520] (by decide +kernel) (by decide +kernel)
set_option maxRecDepth 20000 in
theorem ggL_law_L_valueOf : GoodIn wsL_law wsL_valueOf := goodIn_ca (goodIn_ca (goodIn_ca (goodIn_c1 (goodIn_r _ [515] (by decide +kernel) (by decide +kernel)) (goodIn_app (goodIn_app (goodIn_app (goodIn_app gk_L_valueOf_r1 gk_L_valueOf_r2) (goodIn_sub inlX5 (by decide +kernel))) (goodIn_sub inlX4 (by decide +kernel))) (goodIn_sub inlX0 (by decide +kernel)))) (goodIn_sub (fun _ h => List.mem_append_left _ (List.mem_append_left _ (List.mem_append_left _ (List.mem_append_left _ (List.mem_append_left _ (List.mem_append_left _ (List.mem_append_left _ (List.mem_append_right _ h)))))))) (by decide +kernel))) (goodIn_sub (fun _ h => List.mem_append_left _ (List.mem_append_left _ (List.mem_append_left _ (List.mem_append_left _ (List.mem_append_right _ h))))) (by decide +kernel))) (goodIn_sub (fun _ h => List.mem_append_left _ (List.mem_append_left _ (List.mem_append_left _ (List.mem_append_left _ (List.mem_append_left _ (List.mem_append_right _ h)))))) (by decide +kernel))
set_option maxRecDepth 20000 in
theorem gL_law_L_valueOf : GoodIn wsL_law (va_wsS RL 199 yL_valueOf wsL_valueOf) := goodIn_app (goodIn_of _ (by decide +kernel)) ggL_law_L_valueOf
set_option maxRecDepth 20000 in
theorem ggL_law_X6_valueOf : GoodIn wsL_law wsX6_valueOf := goodIn_ca (goodIn_r _ [524, 257, 258, 259, 5, 260, 136, 137, 138, 139, 261, 262, 263, 264, 83, 88, 180, 181, 182, 281, 282, 283, 284, 86, 1411, 1412, 1413, 1414, 1415, 1416, 1417, 1418, 1419, 1420, 1421, 1422, 1423, 1424, 1425, 1426, 1427, 1428, 1429] (by decide +kernel) (by decide +kernel)) (goodIn_sub (fun _ h => List.mem_append_left _ (List.mem_append_left _ (List.mem_append_left _ (List.mem_append_left _ (List.mem_append_left _ (List.mem_append_left _ (List.mem_append_left _ (List.mem_append_right _ h)))))))) (by decide +kernel))
set_option maxRecDepth 20000 in
theorem gL_law_X6_valueOf : GoodIn wsL_law (wsV RL 201 RX6 yX6_valueOf wsX6_valueOf) := goodIn_app (goodIn_of _ (by decide +kernel)) ggL_law_X6_valueOf
set_option maxRecDepth 20000 in
theorem gk_L_netOf_r1 : GoodIn wsL_law wsL_netOf_r1 := goodIn_r _ [102, 147, 288, 528, 529, 530, 2, 531, 221, 222, 223, 224, 156, 157, 110, 111, 112, 113, 17, 114, 115, 116, 117, 118] (by decide +kernel) (by decide +kernel)
set_option maxRecDepth 20000 in
theorem gk_L_netOf_r2 : GoodIn wsL_law wsL_netOf_r2 := goodIn_r _ [119, 120, 121, 16, 122, 30, 31, 225, 226, 227, 29, 228, 229, 230, 231, 232, 49, 296, 297, 298, 299, 300, 301, 302] (by decide +kernel) (by decide +kernel)
set_option maxRecDepth 20000 in
theorem gk_L_netOf_r3 : GoodIn wsL_law wsL_netOf_r3 := goodIn_r _ [246, 247, 248, 51] (by decide +kernel) (by decide +kernel)
set_option maxRecDepth 20000 in
theorem ggL_law_L_netOf : GoodIn wsL_law wsL_netOf := goodIn_ca (goodIn_ca (goodIn_ca (goodIn_ca (goodIn_c1 (goodIn_r _ [527] (by decide +kernel) (by decide +kernel)) (goodIn_app (goodIn_app (goodIn_app (goodIn_app gk_L_netOf_r1 (goodIn_app gk_L_netOf_r2 gk_L_netOf_r3)) (goodIn_sub inlX5 (by decide +kernel))) (goodIn_sub inlX4 (by decide +kernel))) (goodIn_sub inlX0 (by decide +kernel)))) (goodIn_sub (fun _ h => List.mem_append_left _ (List.mem_append_left _ (List.mem_append_left _ (List.mem_append_left _ (List.mem_append_left _ (List.mem_append_left _ (List.mem_append_left _ (List.mem_append_right _ h)))))))) (by decide +kernel))) (goodIn_sub (fun _ h => List.mem_append_left _ (List.mem_append_left _ (List.mem_append_left _ (List.mem_append_left _ (List.mem_append_right _ h))))) (by decide +kernel))) (goodIn_sub (fun _ h => List.mem_append_left _ (List.mem_append_left _ (List.mem_append_left _ (List.mem_append_left _ (List.mem_append_left _ (List.mem_append_right _ h)))))) (by decide +kernel))) (goodIn_sub (fun _ h => List.mem_append_left _ (List.mem_append_left _ (List.mem_append_right _ h))) (by decide +kernel))
set_option maxRecDepth 20000 in
theorem gL_law_L_netOf : GoodIn wsL_law (va_wsS RL 202 yL_netOf wsL_netOf) := goodIn_app (goodIn_of _ (by decide +kernel)) ggL_law_L_netOf
set_option maxRecDepth 20000 in
theorem gk_X6_netOf_r1 : GoodIn wsL_law wsX6_netOf_r1 := goodIn_r _ [136, 257, 258, 259, 5, 260, 137, 138, 139, 261, 262, 263, 264, 83, 88, 180, 181, 182, 308, 309, 310, 311, 85, 312] (by decide +kernel) (by decide +kernel)
set_option maxRecDepth 20000 in
theorem gk_X6_netOf_r2 : GoodIn wsL_law wsX6_netOf_r2 := goodIn_r _ [313, 314, 315, 316, 317, 318, 89] (by decide +kernel) (by decide +kernel)
set_option maxRecDepth 20000 in
theorem ggL_law_X6_netOf : GoodIn wsL_law wsX6_netOf := goodIn_ca (goodIn_c1 (goodIn_r _ [535] (by decide +kernel) (by decide +kernel)) (goodIn_app (goodIn_app gk_X6_netOf_r1 gk_X6_netOf_r2) (goodIn_sub inlX6 (by decide +kernel)))) (goodIn_sub (fun _ h => List.mem_append_left _ (List.mem_append_left _ (List.mem_append_left _ (List.mem_append_left _ (List.mem_append_left _ (List.mem_append_left _ (List.mem_append_left _ (List.mem_append_right _ h)))))))) (by decide +kernel))
set_option maxRecDepth 20000 in
theorem gL_law_X6_netOf : GoodIn wsL_law (wsV RL 204 RX6 yX6_netOf wsX6_netOf) := goodIn_app (goodIn_of _ (by decide +kernel)) ggL_law_X6_netOf
set_option maxRecDepth 20000 in
theorem gk_L_pinsOn_r1 : GoodIn wsL_law wsL_pinsOn_r1 := goodIn_r _ [102, 147, 539, 540, 541, 2, 542, 152, 153, 154, 155, 156, 157, 110, 111, 112, 113, 17, 114, 115, 116, 117, 118, 119] (by decide +kernel) (by decide +kernel)
set_option maxRecDepth 20000 in
theorem gk_L_pinsOn_r2 : GoodIn wsL_law wsL_pinsOn_r2 := goodIn_r _ [120, 121, 16, 122, 30, 31, 158, 159, 160, 29, 161, 127, 543, 383, 384, 385, 51] (by decide +kernel) (by decide +kernel)
set_option maxRecDepth 20000 in
theorem ggL_law_L_pinsOn : GoodIn wsL_law wsL_pinsOn := goodIn_ca (goodIn_ca (goodIn_ca (goodIn_c1 (goodIn_r _ [538] (by decide +kernel) (by decide +kernel)) (goodIn_app (goodIn_app (goodIn_app (goodIn_app gk_L_pinsOn_r1 gk_L_pinsOn_r2) (goodIn_sub inlX5 (by decide +kernel))) (goodIn_sub inlX4 (by decide +kernel))) (goodIn_sub inlX0 (by decide +kernel)))) (goodIn_sub (fun _ h => List.mem_append_left _ (List.mem_append_left _ (List.mem_append_left _ (List.mem_append_left _ (List.mem_append_left _ (List.mem_append_left _ (List.mem_append_left _ (List.mem_append_right _ h)))))))) (by decide +kernel))) (goodIn_sub (fun _ h => List.mem_append_left _ (List.mem_append_left _ (List.mem_append_left _ (List.mem_append_left _ (List.mem_append_right _ h))))) (by decide +kernel))) (goodIn_sub (fun _ h => List.mem_append_left _ (List.mem_append_left _ (List.mem_append_left _ (List.mem_append_left _ (List.mem_append_left _ (List.mem_append_right _ h)))))) (by decide +kernel))
set_option maxRecDepth 20000 in
theorem gL_law_L_pinsOn : GoodIn wsL_law (va_wsS RL 205 yL_pinsOn wsL_pinsOn) := goodIn_app (goodIn_of _ (by decide +kernel)) ggL_law_L_pinsOn
set_option maxRecDepth 20000 in
theorem gk_X6_pinsOn_r1 : GoodIn wsL_law wsX6_pinsOn_r1 := goodIn_r _ [548, 549, 550, 5, 551, 136, 137, 138, 139, 183, 184, 185, 186, 82, 180, 181, 182, 414, 415, 416, 417, 83, 308, 309] (by decide +kernel) (by decide +kernel)
set_option maxRecDepth 20000 in
theorem gk_X6_pinsOn_r2 : GoodIn wsL_law wsX6_pinsOn_r2 := goodIn_r _ [310, 311, 85, 312, 313, 314, 261, 262, 263, 264, 88, 315, 316, 317, 318, 89] (by decide +kernel) (by decide +kernel)
set_option maxRecDepth 20000 in
theorem ggL_law_X6_pinsOn : GoodIn wsL_law wsX6_pinsOn := goodIn_ca (goodIn_c1 (goodIn_r _ [547] (by decide +kernel) (by decide +kernel)) (goodIn_app (goodIn_app gk_X6_pinsOn_r1 gk_X6_pinsOn_r2) (goodIn_sub inlX6 (by decide +kernel)))) (goodIn_sub (fun _ h => List.mem_append_left _ (List.mem_append_left _ (List.mem_append_left _ (List.mem_append_left _ (List.mem_append_left _ (List.mem_append_left _ (List.mem_append_left _ (List.mem_append_right _ h)))))))) (by decide +kernel))
set_option maxRecDepth 20000 in
theorem gL_law_X6_pinsOn : GoodIn wsL_law (wsV RL 207 RX6 yX6_pinsOn wsX6_pinsOn) := goodIn_app (goodIn_of _ (by decide +kernel)) ggL_law_X6_pinsOn
set_option maxRecDepth 20000 in
theorem gk_L_portOf_r1 : GoodIn wsL_law wsL_portOf_r1 := goodIn_r _ [102, 147, 555, 556, 557, 2, 558, 152, 153, 154, 155, 156, 157, 110, 111, 112, 113, 17, 114, 115, 116, 117, 118, 119] (by decide +kernel) (by decide +kernel)
set_option maxRecDepth 20000 in
theorem gk_L_portOf_r2 : GoodIn wsL_law wsL_portOf_r2 := goodIn_r _ [120, 121, 16, 122, 30, 31, 158, 159, 160, 29, 161, 127, 559, 167, 168, 169, 46] (by decide +kernel) (by decide +kernel)
set_option maxRecDepth 20000 in
theorem ggL_law_L_portOf : GoodIn wsL_law wsL_portOf := goodIn_ca (goodIn_ca (goodIn_ca (goodIn_c1 (goodIn_r _ [554] (by decide +kernel) (by decide +kernel)) (goodIn_app (goodIn_app (goodIn_app (goodIn_app gk_L_portOf_r1 gk_L_portOf_r2) (goodIn_sub inlX5 (by decide +kernel))) (goodIn_sub inlX4 (by decide +kernel))) (goodIn_sub inlX0 (by decide +kernel)))) (goodIn_sub (fun _ h => List.mem_append_left _ (List.mem_append_left _ (List.mem_append_left _ (List.mem_append_left _ (List.mem_append_left _ (List.mem_append_left _ (List.mem_append_left _ (List.mem_append_right _ h)))))))) (by decide +kernel))) (goodIn_sub (fun _ h => List.mem_append_left _ (List.mem_append_left _ (List.mem_append_left _ (List.mem_append_left _ (List.mem_append_right _ h))))) (by decide +kernel))) (goodIn_sub (fun _ h => List.mem_append_left _ (List.mem_append_left _ (List.mem_append_left _ (List.mem_append_left _ (List.mem_append_left _ (List.mem_append_right _ h)))))) (by decide +kernel))
set_option maxRecDepth 20000 in
theorem gL_law_L_portOf : GoodIn wsL_law (va_wsS RL 208 yL_portOf wsL_portOf) := goodIn_app (goodIn_of _ (by decide +kernel)) ggL_law_L_portOf
set_option maxRecDepth 20000 in
theorem ggL_law_X6_portOf : GoodIn wsL_law wsX6_portOf := goodIn_ca (goodIn_r _ [563, 84, 548, 549, 550, 5, 551, 136, 137, 138, 139, 183, 184, 185, 186, 82, 180, 181, 182, 1411, 1412, 1413, 1414, 1415, 1416, 1417, 1418, 1419, 1420, 1421, 1422, 1423, 1424, 1425, 1426, 1427, 1428, 1429] (by decide +kernel) (by decide +kernel)) (goodIn_sub (fun _ h => List.mem_append_left _ (List.mem_append_left _ (List.mem_append_left _ (List.mem_append_left _ (List.mem_append_left _ (List.mem_append_left _ (List.mem_append_left _ (List.mem_append_right _ h)))))))) (by decide +kernel))
set_option maxRecDepth 20000 in
theorem gL_law_X6_portOf : GoodIn wsL_law (wsV RL 210 RX6 yX6_portOf wsX6_portOf) := goodIn_app (goodIn_of _ (by decide +kernel)) ggL_law_X6_portOf
set_option maxRecDepth 20000 in
theorem gk_L_distance_r1 : GoodIn wsL_law wsL_distance_r1 := goodIn_r _ [102, 147, 567, 568, 569, 2, 570, 152, 153, 154, 155, 156, 157, 110, 111, 112, 113, 17, 114, 115, 116, 117, 118, 119] (by decide +kernel) (by decide +kernel)
set_option maxRecDepth 20000 in
theorem gk_L_distance_r2 : GoodIn wsL_law wsL_distance_r2 := goodIn_r _ [120, 121, 16, 122, 30, 31, 158, 159, 160, 29, 161, 127, 571, 572, 573, 574, 52, 166, 167, 168, 169, 46, 575, 576] (by decide +kernel) (by decide +kernel)
set_option maxRecDepth 20000 in
theorem gk_L_distance_r3 : GoodIn wsL_law wsL_distance_r3 := goodIn_r _ [577, 578, 429, 430, 431, 432, 245, 246, 247, 248, 51, 579, 580, 581, 582, 583, 584, 585, 586, 587] (by decide +kernel) (by decide +kernel)
set_option maxRecDepth 20000 in
theorem ggL_law_L_distance : GoodIn wsL_law wsL_distance := goodIn_ca (goodIn_ca (goodIn_ca (goodIn_c1 (goodIn_r _ [566] (by decide +kernel) (by decide +kernel)) (goodIn_app (goodIn_app (goodIn_app (goodIn_app gk_L_distance_r1 (goodIn_app gk_L_distance_r2 gk_L_distance_r3)) (goodIn_sub inlX5 (by decide +kernel))) (goodIn_sub inlX4 (by decide +kernel))) (goodIn_sub inlX0 (by decide +kernel)))) (goodIn_sub (fun _ h => List.mem_append_left _ (List.mem_append_left _ (List.mem_append_left _ (List.mem_append_left _ (List.mem_append_left _ (List.mem_append_left _ (List.mem_append_left _ (List.mem_append_right _ h)))))))) (by decide +kernel))) (goodIn_sub (fun _ h => List.mem_append_left _ (List.mem_append_left _ (List.mem_append_left _ (List.mem_append_left _ (List.mem_append_right _ h))))) (by decide +kernel))) (goodIn_sub (fun _ h => List.mem_append_left _ (List.mem_append_left _ (List.mem_append_left _ (List.mem_append_left _ (List.mem_append_left _ (List.mem_append_right _ h)))))) (by decide +kernel))
set_option maxRecDepth 20000 in
theorem gL_law_L_distance : GoodIn wsL_law (va_wsS RL 211 yL_distance wsL_distance) := goodIn_app (goodIn_of _ (by decide +kernel)) ggL_law_L_distance
set_option maxRecDepth 20000 in
theorem gk_X6_distance_r1 : GoodIn wsL_law wsX6_distance_r1 := goodIn_r _ [548, 549, 550, 5, 551, 136, 137, 138, 139, 183, 184, 185, 186, 82, 180, 181, 182, 592, 593, 594, 595, 48, 84, 83] (by decide +kernel) (by decide +kernel)
set_option maxRecDepth 20000 in
theorem gk_X6_distance_r2 : GoodIn wsL_law wsX6_distance_r2 := goodIn_r _ [449, 430, 431, 432, 261, 262, 263, 264, 88, 596, 597, 598, 599, 308, 309, 310, 311, 85, 312, 313, 314, 315, 316, 317] (by decide +kernel) (by decide +kernel)
set_option maxRecDepth 20000 in
theorem gk_X6_distance_r3 : GoodIn wsL_law wsX6_distance_r3 := goodIn_r _ [318, 89] (by decide +kernel) (by decide +kernel)
set_option maxRecDepth 20000 in
theorem ggL_law_X6_distance : GoodIn wsL_law wsX6_distance := goodIn_ca (goodIn_c1 (goodIn_r _ [591] (by decide +kernel) (by decide +kernel)) (goodIn_app (goodIn_app gk_X6_distance_r1 (goodIn_app gk_X6_distance_r2 gk_X6_distance_r3)) (goodIn_sub inlX6 (by decide +kernel)))) (goodIn_sub (fun _ h => List.mem_append_left _ (List.mem_append_left _ (List.mem_append_left _ (List.mem_append_left _ (List.mem_append_left _ (List.mem_append_left _ (List.mem_append_left _ (List.mem_append_right _ h)))))))) (by decide +kernel))
set_option maxRecDepth 20000 in
theorem gL_law_X6_distance : GoodIn wsL_law (wsV RL 213 RX6 yX6_distance wsX6_distance) := goodIn_app (goodIn_of _ (by decide +kernel)) ggL_law_X6_distance
set_option maxRecDepth 20000 in
theorem gk_L_labelLength_r1 : GoodIn wsL_law wsL_labelLength_r1 := goodIn_r _ [102, 147, 603, 604, 605, 2, 606, 221, 222, 223, 224, 156, 157, 110, 111, 112, 113, 17, 114, 115, 116, 117, 118, 119] (by decide +kernel) (by decide +kernel)
set_option maxRecDepth 20000 in
theorem gk_L_labelLength_r2 : GoodIn wsL_law wsL_labelLength_r2 := goodIn_r _ [120, 121, 16, 122, 30, 31, 225, 226, 227, 29, 228, 229, 230, 231, 232, 49, 607, 608, 609, 610, 611, 330, 331, 332] (by decide +kernel) (by decide +kernel)
set_option maxRecDepth 20000 in
theorem gk_L_labelLength_r3 : GoodIn wsL_law wsL_labelLength_r3 := goodIn_r _ [333, 47, 612, 613, 614, 615, 53, 616, 617, 618, 619, 245, 246, 247, 248, 51] (by decide +kernel) (by decide +kernel)
set_option maxRecDepth 20000 in
theorem ggL_law_L_labelLength : GoodIn wsL_law wsL_labelLength := goodIn_ca (goodIn_ca (goodIn_ca (goodIn_c1 (goodIn_r _ [602] (by decide +kernel) (by decide +kernel)) (goodIn_app (goodIn_app (goodIn_app (goodIn_app gk_L_labelLength_r1 (goodIn_app gk_L_labelLength_r2 gk_L_labelLength_r3)) (goodIn_sub inlX5 (by decide +kernel))) (goodIn_sub inlX4 (by decide +kernel))) (goodIn_sub inlX0 (by decide +kernel)))) (goodIn_sub (fun _ h => List.mem_append_left _ (List.mem_append_left _ (List.mem_append_left _ (List.mem_append_left _ (List.mem_append_left _ (List.mem_append_left _ (List.mem_append_left _ (List.mem_append_right _ h)))))))) (by decide +kernel))) (goodIn_sub (fun _ h => List.mem_append_left _ (List.mem_append_left _ (List.mem_append_left _ (List.mem_append_left _ (List.mem_append_right _ h))))) (by decide +kernel))) (goodIn_sub (fun _ h => List.mem_append_left _ (List.mem_append_left _ (List.mem_append_left _ (List.mem_append_left _ (List.mem_append_left _ (List.mem_append_right _ h)))))) (by decide +kernel))
set_option maxRecDepth 20000 in
theorem gL_law_L_labelLength : GoodIn wsL_law (va_wsS RL 214 yL_labelLength wsL_labelLength) := goodIn_app (goodIn_of _ (by decide +kernel)) ggL_law_L_labelLength
set_option maxRecDepth 20000 in
theorem gk_X6_labelLength_r1 : GoodIn wsL_law wsX6_labelLength_r1 := goodIn_r _ [257, 258, 259, 5, 260, 136, 137, 138, 139, 261, 262, 263, 264, 83, 88, 180, 181, 182, 624, 625, 626, 627, 628, 629] (by decide +kernel) (by decide +kernel)
set_option maxRecDepth 20000 in
theorem gk_X6_labelLength_r2 : GoodIn wsL_law wsX6_labelLength_r2 := goodIn_r _ [630, 631, 632, 633, 634, 635, 636, 637, 638, 12, 13, 639, 640, 641, 642, 643, 644, 645, 646, 647, 648, 649, 650, 308] (by decide +kernel) (by decide +kernel)
set_option maxRecDepth 20000 in
theorem gk_X6_labelLength_r3 : GoodIn wsL_law wsX6_labelLength_r3 := goodIn_r _ [309, 310, 311, 85, 651, 652, 653, 654, 655, 656, 657, 658, 659, 660, 661, 662, 663, 664, 665, 666, 667, 668, 669, 670] (by decide +kernel) (by decide +kernel)
set_option maxRecDepth 20000 in
theorem gk_X6_labelLength_r4 : GoodIn wsL_law wsX6_labelLength_r4 := goodIn_r _ [671, 672, 673, 674, 675, 676, 434, 431, 435, 677, 678, 679, 680, 681, 682, 683, 684, 685, 686, 687, 688, 689, 690, 691] (by decide +kernel) (by decide +kernel)
set_option maxRecDepth 20000 in
theorem gk_X6_labelLength_r5 : GoodIn wsL_law wsX6_labelLength_r5 := goodIn_r _ [430, 432, 692, 352, 353, 354, 693, 694, 695, 696, 697, 698, 699, 700, 701, 702, 703, 704, 705, 706, 707, 708, 709, 710] (by decide +kernel) (by decide +kernel)
set_option maxRecDepth 20000 in
theorem gk_X6_labelLength_r6 : GoodIn wsL_law wsX6_labelLength_r6 := goodIn_r _ [711, 712, 713, 714, 715, 716, 717, 718, 719, 720, 721, 722, 723, 724, 725, 726, 727, 728, 729, 730, 731, 732, 733, 734] (by decide +kernel) (by decide +kernel)
set_option maxRecDepth 20000 in
theorem gk_X6_labelLength_r7 : GoodIn wsL_law wsX6_labelLength_r7 := goodIn_r _ [735, 736, 737, 738, 739, 740, 741, 742, 743, 744, 745, 281, 282, 283, 284, 86, 746, 747, 748, 749, 750, 751, 752, 753] (by decide +kernel) (by decide +kernel)
set_option maxRecDepth 20000 in
theorem gk_X6_labelLength_r8 : GoodIn wsL_law wsX6_labelLength_r8 := goodIn_r _ [754, 755, 756, 757, 758, 759, 760, 761, 762, 763, 764, 765, 766, 767, 768, 769, 770, 771, 772, 773, 774, 775, 776, 777] (by decide +kernel) (by decide +kernel)
set_option maxRecDepth 20000 in
theorem gk_X6_labelLength_r9 : GoodIn wsL_law wsX6_labelLength_r9 := goodIn_r _ [778, 779, 312, 313, 314, 315, 316, 317, 318, 89, 780, 781, 782, 783, 784, 785, 786, 787, 788, 789, 790, 791, 792, 793] (by decide +kernel) (by decide +kernel)
set_option maxRecDepth 20000 in
theorem gk_X6_labelLength_r10 : GoodIn wsL_law wsX6_labelLength_r10 := goodIn_r _ [794, 795, 796, 797, 798, 799, 800, 801, 802, 803, 804, 805, 806, 807, 808, 809, 810, 811, 812, 813, 814, 815, 816, 817] (by decide +kernel) (by decide +kernel)
set_option maxRecDepth 20000 in
theorem gk_X6_labelLength_r11 : GoodIn wsL_law wsX6_labelLength_r11 := goodIn_r _ [818, 819, 820, 821, 822, 823, 824, 825, 826, 827, 828, 829, 830, 831, 832, 833, 834, 835, 836, 837, 838, 839, 840, 841] (by decide +kernel) (by decide +kernel)
set_option maxRecDepth 20000 in
theorem gk_X6_labelLength_r12 : GoodIn wsL_law wsX6_labelLength_r12 := goodIn_r _ [842] (by decide +kernel) (by decide +kernel)
set_option maxRecDepth 20000 in
theorem ggL_law_X6_labelLength : GoodIn wsL_law wsX6_labelLength := goodIn_ca (goodIn_c1 (goodIn_r _ [623] (by decide +kernel) (by decide +kernel)) (goodIn_app (goodIn_app (goodIn_app (goodIn_app gk_X6_labelLength_r1 (goodIn_app gk_X6_labelLength_r2 (goodIn_app gk_X6_labelLength_r3 (goodIn_app gk_X6_labelLength_r4 (goodIn_app gk_X6_labelLength_r5 (goodIn_app gk_X6_labelLength_r6 (goodIn_app gk_X6_labelLength_r7 (goodIn_app gk_X6_labelLength_r8 (goodIn_app gk_X6_labelLength_r9 (goodIn_app gk_X6_labelLength_r10 (goodIn_app gk_X6_labelLength_r11 gk_X6_labelLength_r12))))))))))) (goodIn_sub inlX6 (by decide +kernel))) (goodIn_sub inlJ4 (by decide +kernel))) (goodIn_sub inlJ0 (by decide +kernel)))) (goodIn_sub (fun _ h => List.mem_append_left _ (List.mem_append_left _ (List.mem_append_left _ (List.mem_append_left _ (List.mem_append_left _ (List.mem_append_left _ (List.mem_append_left _ (List.mem_append_right _ h)))))))) (by decide +kernel))
set_option maxRecDepth 20000 in
theorem gL_law_X6_labelLength : GoodIn wsL_law (wsV RL 216 RX6 yX6_labelLength wsX6_labelLength) := goodIn_app (goodIn_of _ (by decide +kernel)) ggL_law_X6_labelLength
set_option maxRecDepth 20000 in
theorem gk_L_labelAt_r1 : GoodIn wsL_law wsL_labelAt_r1 := goodIn_r _ [102, 147, 288, 846, 847, 848, 2, 849, 300, 301, 221, 222, 223, 224, 156, 157, 110, 111, 112, 113, 17, 114, 115, 116] (by decide +kernel) (by decide +kernel)
set_option maxRecDepth 20000 in
theorem gk_L_labelAt_r2 : GoodIn wsL_law wsL_labelAt_r2 := goodIn_r _ [117, 118, 119, 120, 121, 16, 122, 30, 31, 225, 226, 227, 29, 228, 229, 230, 231, 232, 49, 607, 608, 609, 610, 611] (by decide +kernel) (by decide +kernel)
set_option maxRecDepth 20000 in
theorem gk_L_labelAt_r3 : GoodIn wsL_law wsL_labelAt_r3 := goodIn_r _ [330, 331, 332, 333, 47, 612, 613, 614, 615, 53, 616, 617, 618, 619, 245, 246, 247, 248, 51, 850, 851, 852, 853] (by decide +kernel) (by decide +kernel)
set_option maxRecDepth 20000 in
theorem ggL_law_L_labelAt : GoodIn wsL_law wsL_labelAt := goodIn_ca (goodIn_ca (goodIn_ca (goodIn_ca (goodIn_c1 (goodIn_r _ [845] (by decide +kernel) (by decide +kernel)) (goodIn_app (goodIn_app (goodIn_app (goodIn_app gk_L_labelAt_r1 (goodIn_app gk_L_labelAt_r2 gk_L_labelAt_r3)) (goodIn_sub inlX5 (by decide +kernel))) (goodIn_sub inlX4 (by decide +kernel))) (goodIn_sub inlX0 (by decide +kernel)))) (goodIn_sub (fun _ h => List.mem_append_left _ (List.mem_append_left _ (List.mem_append_left _ (List.mem_append_left _ (List.mem_append_left _ (List.mem_append_left _ (List.mem_append_left _ (List.mem_append_right _ h)))))))) (by decide +kernel))) (goodIn_sub (fun _ h => List.mem_append_left _ (List.mem_append_left _ (List.mem_append_right _ h))) (by decide +kernel))) (goodIn_sub (fun _ h => List.mem_append_left _ (List.mem_append_left _ (List.mem_append_left _ (List.mem_append_left _ (List.mem_append_right _ h))))) (by decide +kernel))) (goodIn_sub (fun _ h => List.mem_append_left _ (List.mem_append_left _ (List.mem_append_left _ (List.mem_append_left _ (List.mem_append_left _ (List.mem_append_right _ h)))))) (by decide +kernel))
set_option maxRecDepth 20000 in
theorem gL_law_L_labelAt : GoodIn wsL_law (va_wsS RL 217 yL_labelAt wsL_labelAt) := goodIn_app (goodIn_of _ (by decide +kernel)) ggL_law_L_labelAt
set_option maxRecDepth 20000 in
theorem gk_X6_labelAt_r1 : GoodIn wsL_law wsX6_labelAt_r1 := goodIn_r _ [136, 257, 258, 259, 5, 260, 137, 138, 139, 261, 262, 263, 264, 83, 88, 180, 181, 182, 624, 625, 626, 627, 628, 629] (by decide +kernel) (by decide +kernel)
set_option maxRecDepth 20000 in
theorem gk_X6_labelAt_r2 : GoodIn wsL_law wsX6_labelAt_r2 := goodIn_r _ [630, 631, 632, 633, 634, 635, 636, 637, 638, 12, 13, 639, 640, 641, 642, 643, 644, 645, 646, 647, 648, 649, 650, 308] (by decide +kernel) (by decide +kernel)
set_option maxRecDepth 20000 in
theorem gk_X6_labelAt_r3 : GoodIn wsL_law wsX6_labelAt_r3 := goodIn_r _ [309, 310, 311, 85, 651, 652, 653, 654, 655, 656, 657, 658, 659, 660, 661, 662, 663, 664, 665, 666, 667, 668, 669, 670] (by decide +kernel) (by decide +kernel)
set_option maxRecDepth 20000 in
theorem gk_X6_labelAt_r4 : GoodIn wsL_law wsX6_labelAt_r4 := goodIn_r _ [671, 672, 673, 674, 675, 676, 434, 431, 435, 677, 678, 679, 680, 681, 682, 683, 684, 685, 686, 687, 688, 689, 690, 691] (by decide +kernel) (by decide +kernel)
set_option maxRecDepth 20000 in
theorem gk_X6_labelAt_r5 : GoodIn wsL_law wsX6_labelAt_r5 := goodIn_r _ [430, 432, 692, 352, 353, 354, 693, 694, 695, 696, 697, 698, 699, 700, 701, 702, 703, 704, 705, 706, 707, 708, 709, 710] (by decide +kernel) (by decide +kernel)
set_option maxRecDepth 20000 in
theorem gk_X6_labelAt_r6 : GoodIn wsL_law wsX6_labelAt_r6 := goodIn_r _ [711, 712, 713, 714, 715, 716, 717, 718, 719, 720, 721, 722, 723, 724, 725, 726, 727, 728, 729, 730, 731, 732, 733, 734] (by decide +kernel) (by decide +kernel)
set_option maxRecDepth 20000 in
theorem gk_X6_labelAt_r7 : GoodIn wsL_law wsX6_labelAt_r7 := goodIn_r _ [735, 736, 737, 738, 739, 740, 741, 742, 743, 744, 745, 281, 282, 283, 284, 86, 746, 747, 748, 749, 750, 751, 752, 753] (by decide +kernel) (by decide +kernel)
set_option maxRecDepth 20000 in
theorem gk_X6_labelAt_r8 : GoodIn wsL_law wsX6_labelAt_r8 := goodIn_r _ [754, 755, 756, 757, 758, 759, 760, 761, 762, 763, 764, 765, 766, 767, 768, 769, 770, 771, 772, 773, 774, 775, 776, 777] (by decide +kernel) (by decide +kernel)
set_option maxRecDepth 20000 in
theorem gk_X6_labelAt_r9 : GoodIn wsL_law wsX6_labelAt_r9 := goodIn_r _ [778, 779, 312, 313, 314, 315, 316, 317, 318, 89, 780, 781, 782, 783, 784, 785, 786, 787, 788, 789, 790, 791, 792, 793] (by decide +kernel) (by decide +kernel)
set_option maxRecDepth 20000 in
theorem gk_X6_labelAt_r10 : GoodIn wsL_law wsX6_labelAt_r10 := goodIn_r _ [794, 795, 796, 797, 798, 799, 800, 801, 802, 803, 804, 805, 806, 807, 808, 809, 810, 811, 812, 813, 814, 815, 816, 817] (by decide +kernel) (by decide +kernel)
set_option maxRecDepth 20000 in
theorem gk_X6_labelAt_r11 : GoodIn wsL_law wsX6_labelAt_r11 := goodIn_r _ [818, 819, 820, 821, 822, 823, 824, 825, 826, 827, 828, 829, 830, 831, 832, 833, 834, 835, 836, 837, 838, 839, 840, 841] (by decide +kernel) (by decide +kernel)
set_option maxRecDepth 20000 in
theorem gk_X6_labelAt_r12 : GoodIn wsL_law wsX6_labelAt_r12 := goodIn_r _ [842, 858, 859, 860, 861, 862, 863, 864, 865, 866, 867, 868, 869, 870, 871, 872] (by decide +kernel) (by decide +kernel)
set_option maxRecDepth 20000 in
theorem ggL_law_X6_labelAt : GoodIn wsL_law wsX6_labelAt := goodIn_ca (goodIn_c1 (goodIn_r _ [857] (by decide +kernel) (by decide +kernel)) (goodIn_app (goodIn_app (goodIn_app (goodIn_app gk_X6_labelAt_r1 (goodIn_app gk_X6_labelAt_r2 (goodIn_app gk_X6_labelAt_r3 (goodIn_app gk_X6_labelAt_r4 (goodIn_app gk_X6_labelAt_r5 (goodIn_app gk_X6_labelAt_r6 (goodIn_app gk_X6_labelAt_r7 (goodIn_app gk_X6_labelAt_r8 (goodIn_app gk_X6_labelAt_r9 (goodIn_app gk_X6_labelAt_r10 (goodIn_app gk_X6_labelAt_r11 gk_X6_labelAt_r12))))))))))) (goodIn_sub inlX6 (by decide +kernel))) (goodIn_sub inlJ4 (by decide +kernel))) (goodIn_sub inlJ0 (by decide +kernel)))) (goodIn_sub (fun _ h => List.mem_append_left _ (List.mem_append_left _ (List.mem_append_left _ (List.mem_append_left _ (List.mem_append_left _ (List.mem_append_left _ (List.mem_append_left _ (List.mem_append_right _ h)))))))) (by decide +kernel))
set_option maxRecDepth 20000 in
theorem gL_law_X6_labelAt : GoodIn wsL_law (wsV RL 219 RX6 yX6_labelAt wsX6_labelAt) := goodIn_app (goodIn_of _ (by decide +kernel)) ggL_law_X6_labelAt
theorem dL_law_1199 : decode cL_law 1199 = .ok (.aload_n 1, 1) := by decide +kernel
theorem dL_law_1200 : decode cL_law 1200 = .ok (.aload_n 0, 1) := by decide +kernel
theorem dL_law_1201 : decode cL_law 1201 = .ok (.iload 5, 2) := by decide +kernel
theorem dL_law_1203 : decode cL_law 1203 = .ok (.iconst 1, 1) := by decide +kernel
theorem dL_law_1204 : decode cL_law 1204 = .ok (.iadd, 1) := by decide +kernel
theorem dL_law_1205 : decode cL_law 1205 = .ok (.iaload, 1) := by decide +kernel
theorem dL_law_1206 : decode cL_law 1206 = .ok (.aload_n 0, 1) := by decide +kernel
theorem dL_law_1207 : decode cL_law 1207 = .ok (.iload 5, 2) := by decide +kernel
theorem dL_law_1209 : decode cL_law 1209 = .ok (.iconst 2, 1) := by decide +kernel
theorem dL_law_1210 : decode cL_law 1210 = .ok (.iadd, 1) := by decide +kernel
theorem dL_law_1211 : decode cL_law 1211 = .ok (.iaload, 1) := by decide +kernel
theorem dL_law_1212 : decode cL_law 1212 = .ok (.aload_n 3, 1) := by decide +kernel
theorem dL_law_1213 : decode cL_law 1213 = .ok (.invokestatic 199, 3) := by decide +kernel
theorem dL_law_1216 : decode cL_law 1216 = .ok (.istore 6, 2) := by decide +kernel
theorem dL_law_1218 : decode cL_law 1218 = .ok (.aload_n 2, 1) := by decide +kernel
theorem dL_law_1219 : decode cL_law 1219 = .ok (.aload_n 0, 1) := by decide +kernel
theorem dL_law_1220 : decode cL_law 1220 = .ok (.iload 5, 2) := by decide +kernel
theorem dL_law_1222 : decode cL_law 1222 = .ok (.iconst 1, 1) := by decide +kernel
theorem dL_law_1223 : decode cL_law 1223 = .ok (.iadd, 1) := by decide +kernel
theorem dL_law_1224 : decode cL_law 1224 = .ok (.iaload, 1) := by decide +kernel
theorem dL_law_1225 : decode cL_law 1225 = .ok (.aload_n 0, 1) := by decide +kernel
theorem dL_law_1226 : decode cL_law 1226 = .ok (.iload 5, 2) := by decide +kernel
theorem dL_law_1228 : decode cL_law 1228 = .ok (.iconst 2, 1) := by decide +kernel
theorem dL_law_1229 : decode cL_law 1229 = .ok (.iadd, 1) := by decide +kernel
theorem dL_law_1230 : decode cL_law 1230 = .ok (.iaload, 1) := by decide +kernel
theorem dL_law_1231 : decode cL_law 1231 = .ok (.invokevirtual 201, 3) := by decide +kernel
theorem dL_law_1234 : decode cL_law 1234 = .ok (.istore 7, 2) := by decide +kernel
theorem dL_law_1236 : decode cL_law 1236 = .ok (.aload_n 2, 1) := by decide +kernel
theorem dL_law_1237 : decode cL_law 1237 = .ok (.invokevirtual 150, 3) := by decide +kernel
theorem dL_law_1240 : decode cL_law 1240 = .ok (.iload 6, 2) := by decide +kernel
theorem dL_law_1242 : decode cL_law 1242 = .ok (.if_icmp .eq 5, 3) := by decide +kernel
theorem dL_law_1247 : decode cL_law 1247 = .ok (.iload 6, 2) := by decide +kernel
theorem dL_law_1249 : decode cL_law 1249 = .ok (.ifCond .ne 15, 3) := by decide +kernel
theorem dL_law_1264 : decode cL_law 1264 = .ok (.goto 1456, 3) := by decide +kernel
theorem dL_law_1267 : decode cL_law 1267 = .ok (.aload_n 1, 1) := by decide +kernel
theorem dL_law_1268 : decode cL_law 1268 = .ok (.aload_n 0, 1) := by decide +kernel
theorem dL_law_1269 : decode cL_law 1269 = .ok (.iload 5, 2) := by decide +kernel
theorem dL_law_1271 : decode cL_law 1271 = .ok (.iconst 1, 1) := by decide +kernel
theorem dL_law_1272 : decode cL_law 1272 = .ok (.iadd, 1) := by decide +kernel
theorem dL_law_1273 : decode cL_law 1273 = .ok (.iaload, 1) := by decide +kernel
theorem dL_law_1274 : decode cL_law 1274 = .ok (.aload_n 0, 1) := by decide +kernel
theorem dL_law_1275 : decode cL_law 1275 = .ok (.iload 5, 2) := by decide +kernel
theorem dL_law_1277 : decode cL_law 1277 = .ok (.iconst 2, 1) := by decide +kernel
theorem dL_law_1278 : decode cL_law 1278 = .ok (.iadd, 1) := by decide +kernel
theorem dL_law_1279 : decode cL_law 1279 = .ok (.iaload, 1) := by decide +kernel
theorem dL_law_1280 : decode cL_law 1280 = .ok (.aload_n 0, 1) := by decide +kernel
theorem dL_law_1281 : decode cL_law 1281 = .ok (.iload 5, 2) := by decide +kernel
theorem dL_law_1283 : decode cL_law 1283 = .ok (.iconst 3, 1) := by decide +kernel
theorem dL_law_1284 : decode cL_law 1284 = .ok (.iadd, 1) := by decide +kernel
theorem dL_law_1285 : decode cL_law 1285 = .ok (.iaload, 1) := by decide +kernel
theorem dL_law_1286 : decode cL_law 1286 = .ok (.aload_n 3, 1) := by decide +kernel
theorem dL_law_1287 : decode cL_law 1287 = .ok (.invokestatic 202, 3) := by decide +kernel
theorem dL_law_1290 : decode cL_law 1290 = .ok (.istore 6, 2) := by decide +kernel
theorem dL_law_1292 : decode cL_law 1292 = .ok (.aload_n 2, 1) := by decide +kernel
theorem dL_law_1293 : decode cL_law 1293 = .ok (.aload_n 0, 1) := by decide +kernel
theorem dL_law_1294 : decode cL_law 1294 = .ok (.iload 5, 2) := by decide +kernel
theorem dL_law_1296 : decode cL_law 1296 = .ok (.iconst 1, 1) := by decide +kernel
theorem dL_law_1297 : decode cL_law 1297 = .ok (.iadd, 1) := by decide +kernel
theorem dL_law_1298 : decode cL_law 1298 = .ok (.iaload, 1) := by decide +kernel
theorem dL_law_1299 : decode cL_law 1299 = .ok (.aload_n 0, 1) := by decide +kernel
theorem dL_law_1300 : decode cL_law 1300 = .ok (.iload 5, 2) := by decide +kernel
theorem dL_law_1302 : decode cL_law 1302 = .ok (.iconst 2, 1) := by decide +kernel
theorem dL_law_1303 : decode cL_law 1303 = .ok (.iadd, 1) := by decide +kernel
theorem dL_law_1304 : decode cL_law 1304 = .ok (.iaload, 1) := by decide +kernel
theorem dL_law_1305 : decode cL_law 1305 = .ok (.aload_n 0, 1) := by decide +kernel
theorem dL_law_1306 : decode cL_law 1306 = .ok (.iload 5, 2) := by decide +kernel
theorem dL_law_1308 : decode cL_law 1308 = .ok (.iconst 3, 1) := by decide +kernel
theorem dL_law_1309 : decode cL_law 1309 = .ok (.iadd, 1) := by decide +kernel
theorem dL_law_1310 : decode cL_law 1310 = .ok (.iaload, 1) := by decide +kernel
theorem dL_law_1311 : decode cL_law 1311 = .ok (.invokevirtual 204, 3) := by decide +kernel
theorem dL_law_1314 : decode cL_law 1314 = .ok (.istore 7, 2) := by decide +kernel
theorem dL_law_1316 : decode cL_law 1316 = .ok (.aload_n 2, 1) := by decide +kernel
theorem dL_law_1317 : decode cL_law 1317 = .ok (.invokevirtual 150, 3) := by decide +kernel
theorem dL_law_1320 : decode cL_law 1320 = .ok (.iload 6, 2) := by decide +kernel
theorem dL_law_1322 : decode cL_law 1322 = .ok (.if_icmp .eq 5, 3) := by decide +kernel
theorem dL_law_1327 : decode cL_law 1327 = .ok (.iload 6, 2) := by decide +kernel
theorem dL_law_1329 : decode cL_law 1329 = .ok (.ifCond .ne 15, 3) := by decide +kernel
theorem dL_law_1344 : decode cL_law 1344 = .ok (.goto 1376, 3) := by decide +kernel
theorem dL_law_1347 : decode cL_law 1347 = .ok (.aload_n 1, 1) := by decide +kernel
theorem dL_law_1348 : decode cL_law 1348 = .ok (.aload_n 0, 1) := by decide +kernel
theorem dL_law_1349 : decode cL_law 1349 = .ok (.iload 5, 2) := by decide +kernel
theorem dL_law_1351 : decode cL_law 1351 = .ok (.iconst 1, 1) := by decide +kernel
theorem dL_law_1352 : decode cL_law 1352 = .ok (.iadd, 1) := by decide +kernel
theorem dL_law_1353 : decode cL_law 1353 = .ok (.iaload, 1) := by decide +kernel
theorem dL_law_1354 : decode cL_law 1354 = .ok (.aload_n 0, 1) := by decide +kernel
theorem dL_law_1355 : decode cL_law 1355 = .ok (.iload 5, 2) := by decide +kernel
theorem dL_law_1357 : decode cL_law 1357 = .ok (.iconst 2, 1) := by decide +kernel
theorem dL_law_1358 : decode cL_law 1358 = .ok (.iadd, 1) := by decide +kernel
theorem dL_law_1359 : decode cL_law 1359 = .ok (.iaload, 1) := by decide +kernel
theorem dL_law_1360 : decode cL_law 1360 = .ok (.aload_n 3, 1) := by decide +kernel
theorem dL_law_1361 : decode cL_law 1361 = .ok (.invokestatic 205, 3) := by decide +kernel
theorem dL_law_1364 : decode cL_law 1364 = .ok (.istore 6, 2) := by decide +kernel
theorem dL_law_1366 : decode cL_law 1366 = .ok (.aload_n 2, 1) := by decide +kernel
theorem dL_law_1367 : decode cL_law 1367 = .ok (.aload_n 0, 1) := by decide +kernel
theorem dL_law_1368 : decode cL_law 1368 = .ok (.iload 5, 2) := by decide +kernel
theorem dL_law_1370 : decode cL_law 1370 = .ok (.iconst 1, 1) := by decide +kernel
theorem dL_law_1371 : decode cL_law 1371 = .ok (.iadd, 1) := by decide +kernel
theorem dL_law_1372 : decode cL_law 1372 = .ok (.iaload, 1) := by decide +kernel
theorem dL_law_1373 : decode cL_law 1373 = .ok (.aload_n 0, 1) := by decide +kernel
theorem dL_law_1374 : decode cL_law 1374 = .ok (.iload 5, 2) := by decide +kernel
theorem dL_law_1376 : decode cL_law 1376 = .ok (.iconst 2, 1) := by decide +kernel
theorem dL_law_1377 : decode cL_law 1377 = .ok (.iadd, 1) := by decide +kernel
theorem dL_law_1378 : decode cL_law 1378 = .ok (.iaload, 1) := by decide +kernel
theorem dL_law_1379 : decode cL_law 1379 = .ok (.invokevirtual 207, 3) := by decide +kernel
theorem dL_law_1382 : decode cL_law 1382 = .ok (.istore 7, 2) := by decide +kernel
theorem dL_law_1384 : decode cL_law 1384 = .ok (.aload_n 2, 1) := by decide +kernel
theorem dL_law_1385 : decode cL_law 1385 = .ok (.invokevirtual 150, 3) := by decide +kernel
theorem dL_law_1388 : decode cL_law 1388 = .ok (.iload 6, 2) := by decide +kernel
theorem dL_law_1390 : decode cL_law 1390 = .ok (.if_icmp .eq 5, 3) := by decide +kernel
theorem dL_law_1395 : decode cL_law 1395 = .ok (.iload 6, 2) := by decide +kernel
theorem dL_law_1397 : decode cL_law 1397 = .ok (.ifCond .ne 15, 3) := by decide +kernel
theorem dL_law_1412 : decode cL_law 1412 = .ok (.goto 1308, 3) := by decide +kernel
theorem dL_law_1415 : decode cL_law 1415 = .ok (.aload_n 1, 1) := by decide +kernel
theorem dL_law_1416 : decode cL_law 1416 = .ok (.aload_n 0, 1) := by decide +kernel
theorem dL_law_1417 : decode cL_law 1417 = .ok (.iload 5, 2) := by decide +kernel
theorem dL_law_1419 : decode cL_law 1419 = .ok (.iconst 1, 1) := by decide +kernel
theorem dL_law_1420 : decode cL_law 1420 = .ok (.iadd, 1) := by decide +kernel
theorem dL_law_1421 : decode cL_law 1421 = .ok (.iaload, 1) := by decide +kernel
theorem dL_law_1422 : decode cL_law 1422 = .ok (.aload_n 0, 1) := by decide +kernel
theorem dL_law_1423 : decode cL_law 1423 = .ok (.iload 5, 2) := by decide +kernel
theorem dL_law_1425 : decode cL_law 1425 = .ok (.iconst 2, 1) := by decide +kernel
theorem dL_law_1426 : decode cL_law 1426 = .ok (.iadd, 1) := by decide +kernel
theorem dL_law_1427 : decode cL_law 1427 = .ok (.iaload, 1) := by decide +kernel
theorem dL_law_1428 : decode cL_law 1428 = .ok (.aload_n 3, 1) := by decide +kernel
theorem dL_law_1429 : decode cL_law 1429 = .ok (.invokestatic 208, 3) := by decide +kernel
theorem dL_law_1432 : decode cL_law 1432 = .ok (.istore 6, 2) := by decide +kernel
theorem dL_law_1434 : decode cL_law 1434 = .ok (.aload_n 2, 1) := by decide +kernel
theorem dL_law_1435 : decode cL_law 1435 = .ok (.aload_n 0, 1) := by decide +kernel
theorem dL_law_1436 : decode cL_law 1436 = .ok (.iload 5, 2) := by decide +kernel
theorem dL_law_1438 : decode cL_law 1438 = .ok (.iconst 1, 1) := by decide +kernel
theorem dL_law_1439 : decode cL_law 1439 = .ok (.iadd, 1) := by decide +kernel
theorem dL_law_1440 : decode cL_law 1440 = .ok (.iaload, 1) := by decide +kernel
theorem dL_law_1441 : decode cL_law 1441 = .ok (.aload_n 0, 1) := by decide +kernel
theorem dL_law_1442 : decode cL_law 1442 = .ok (.iload 5, 2) := by decide +kernel
theorem dL_law_1444 : decode cL_law 1444 = .ok (.iconst 2, 1) := by decide +kernel
theorem dL_law_1445 : decode cL_law 1445 = .ok (.iadd, 1) := by decide +kernel
theorem dL_law_1446 : decode cL_law 1446 = .ok (.iaload, 1) := by decide +kernel
theorem dL_law_1447 : decode cL_law 1447 = .ok (.invokevirtual 210, 3) := by decide +kernel
theorem dL_law_1450 : decode cL_law 1450 = .ok (.istore 7, 2) := by decide +kernel
theorem dL_law_1452 : decode cL_law 1452 = .ok (.aload_n 2, 1) := by decide +kernel
theorem dL_law_1453 : decode cL_law 1453 = .ok (.invokevirtual 150, 3) := by decide +kernel
theorem dL_law_1456 : decode cL_law 1456 = .ok (.iload 6, 2) := by decide +kernel
theorem dL_law_1458 : decode cL_law 1458 = .ok (.if_icmp .eq 5, 3) := by decide +kernel
theorem dL_law_1463 : decode cL_law 1463 = .ok (.iload 6, 2) := by decide +kernel
theorem dL_law_1465 : decode cL_law 1465 = .ok (.ifCond .ne 15, 3) := by decide +kernel
theorem dL_law_1480 : decode cL_law 1480 = .ok (.goto 1240, 3) := by decide +kernel
theorem dL_law_1483 : decode cL_law 1483 = .ok (.aload_n 1, 1) := by decide +kernel
theorem dL_law_1484 : decode cL_law 1484 = .ok (.aload_n 0, 1) := by decide +kernel
theorem dL_law_1485 : decode cL_law 1485 = .ok (.iload 5, 2) := by decide +kernel
theorem dL_law_1487 : decode cL_law 1487 = .ok (.iconst 1, 1) := by decide +kernel
theorem dL_law_1488 : decode cL_law 1488 = .ok (.iadd, 1) := by decide +kernel
theorem dL_law_1489 : decode cL_law 1489 = .ok (.iaload, 1) := by decide +kernel
theorem dL_law_1490 : decode cL_law 1490 = .ok (.aload_n 0, 1) := by decide +kernel
theorem dL_law_1491 : decode cL_law 1491 = .ok (.iload 5, 2) := by decide +kernel
theorem dL_law_1493 : decode cL_law 1493 = .ok (.iconst 2, 1) := by decide +kernel
theorem dL_law_1494 : decode cL_law 1494 = .ok (.iadd, 1) := by decide +kernel
theorem dL_law_1495 : decode cL_law 1495 = .ok (.iaload, 1) := by decide +kernel
theorem dL_law_1496 : decode cL_law 1496 = .ok (.aload_n 3, 1) := by decide +kernel
theorem dL_law_1497 : decode cL_law 1497 = .ok (.invokestatic 211, 3) := by decide +kernel
theorem dL_law_1500 : decode cL_law 1500 = .ok (.istore 6, 2) := by decide +kernel
theorem dL_law_1502 : decode cL_law 1502 = .ok (.aload_n 2, 1) := by decide +kernel
theorem dL_law_1503 : decode cL_law 1503 = .ok (.aload_n 0, 1) := by decide +kernel
theorem dL_law_1504 : decode cL_law 1504 = .ok (.iload 5, 2) := by decide +kernel
theorem dL_law_1506 : decode cL_law 1506 = .ok (.iconst 1, 1) := by decide +kernel
theorem dL_law_1507 : decode cL_law 1507 = .ok (.iadd, 1) := by decide +kernel
theorem dL_law_1508 : decode cL_law 1508 = .ok (.iaload, 1) := by decide +kernel
theorem dL_law_1509 : decode cL_law 1509 = .ok (.aload_n 0, 1) := by decide +kernel
theorem dL_law_1510 : decode cL_law 1510 = .ok (.iload 5, 2) := by decide +kernel
theorem dL_law_1512 : decode cL_law 1512 = .ok (.iconst 2, 1) := by decide +kernel
theorem dL_law_1513 : decode cL_law 1513 = .ok (.iadd, 1) := by decide +kernel
theorem dL_law_1514 : decode cL_law 1514 = .ok (.iaload, 1) := by decide +kernel
theorem dL_law_1515 : decode cL_law 1515 = .ok (.invokevirtual 213, 3) := by decide +kernel
theorem dL_law_1518 : decode cL_law 1518 = .ok (.istore 7, 2) := by decide +kernel
theorem dL_law_1520 : decode cL_law 1520 = .ok (.aload_n 2, 1) := by decide +kernel
theorem dL_law_1521 : decode cL_law 1521 = .ok (.invokevirtual 150, 3) := by decide +kernel
theorem dL_law_1524 : decode cL_law 1524 = .ok (.iload 6, 2) := by decide +kernel
theorem dL_law_1526 : decode cL_law 1526 = .ok (.if_icmp .eq 5, 3) := by decide +kernel
theorem dL_law_1531 : decode cL_law 1531 = .ok (.iload 6, 2) := by decide +kernel
theorem dL_law_1533 : decode cL_law 1533 = .ok (.ifCond .ne 15, 3) := by decide +kernel
theorem dL_law_1548 : decode cL_law 1548 = .ok (.goto 1172, 3) := by decide +kernel
theorem dL_law_1551 : decode cL_law 1551 = .ok (.aload_n 1, 1) := by decide +kernel
theorem dL_law_1552 : decode cL_law 1552 = .ok (.aload_n 0, 1) := by decide +kernel
theorem dL_law_1553 : decode cL_law 1553 = .ok (.iload 5, 2) := by decide +kernel
theorem dL_law_1555 : decode cL_law 1555 = .ok (.iconst 1, 1) := by decide +kernel
theorem dL_law_1556 : decode cL_law 1556 = .ok (.iadd, 1) := by decide +kernel
theorem dL_law_1557 : decode cL_law 1557 = .ok (.iaload, 1) := by decide +kernel
theorem dL_law_1558 : decode cL_law 1558 = .ok (.aload_n 0, 1) := by decide +kernel
theorem dL_law_1559 : decode cL_law 1559 = .ok (.iload 5, 2) := by decide +kernel
theorem dL_law_1561 : decode cL_law 1561 = .ok (.iconst 2, 1) := by decide +kernel
theorem dL_law_1562 : decode cL_law 1562 = .ok (.iadd, 1) := by decide +kernel
theorem dL_law_1563 : decode cL_law 1563 = .ok (.iaload, 1) := by decide +kernel
theorem dL_law_1564 : decode cL_law 1564 = .ok (.aload_n 3, 1) := by decide +kernel
theorem dL_law_1565 : decode cL_law 1565 = .ok (.invokestatic 214, 3) := by decide +kernel
theorem dL_law_1568 : decode cL_law 1568 = .ok (.istore 6, 2) := by decide +kernel
theorem dL_law_1570 : decode cL_law 1570 = .ok (.aload_n 2, 1) := by decide +kernel
theorem dL_law_1571 : decode cL_law 1571 = .ok (.aload_n 0, 1) := by decide +kernel
theorem dL_law_1572 : decode cL_law 1572 = .ok (.iload 5, 2) := by decide +kernel
theorem dL_law_1574 : decode cL_law 1574 = .ok (.iconst 1, 1) := by decide +kernel
theorem dL_law_1575 : decode cL_law 1575 = .ok (.iadd, 1) := by decide +kernel
theorem dL_law_1576 : decode cL_law 1576 = .ok (.iaload, 1) := by decide +kernel
theorem dL_law_1577 : decode cL_law 1577 = .ok (.aload_n 0, 1) := by decide +kernel
theorem dL_law_1578 : decode cL_law 1578 = .ok (.iload 5, 2) := by decide +kernel
theorem dL_law_1580 : decode cL_law 1580 = .ok (.iconst 2, 1) := by decide +kernel
theorem dL_law_1581 : decode cL_law 1581 = .ok (.iadd, 1) := by decide +kernel
theorem dL_law_1582 : decode cL_law 1582 = .ok (.iaload, 1) := by decide +kernel
theorem dL_law_1583 : decode cL_law 1583 = .ok (.invokevirtual 216, 3) := by decide +kernel
theorem dL_law_1586 : decode cL_law 1586 = .ok (.istore 7, 2) := by decide +kernel
theorem dL_law_1588 : decode cL_law 1588 = .ok (.aload_n 2, 1) := by decide +kernel
theorem dL_law_1589 : decode cL_law 1589 = .ok (.invokevirtual 150, 3) := by decide +kernel
theorem dL_law_1592 : decode cL_law 1592 = .ok (.iload 6, 2) := by decide +kernel
theorem dL_law_1594 : decode cL_law 1594 = .ok (.if_icmp .eq 5, 3) := by decide +kernel
theorem dL_law_1599 : decode cL_law 1599 = .ok (.iload 6, 2) := by decide +kernel
theorem dL_law_1601 : decode cL_law 1601 = .ok (.ifCond .ne 15, 3) := by decide +kernel
theorem dL_law_1616 : decode cL_law 1616 = .ok (.goto 1104, 3) := by decide +kernel
theorem dL_law_1619 : decode cL_law 1619 = .ok (.aload_n 1, 1) := by decide +kernel
theorem dL_law_1620 : decode cL_law 1620 = .ok (.aload_n 0, 1) := by decide +kernel
theorem dL_law_1621 : decode cL_law 1621 = .ok (.iload 5, 2) := by decide +kernel
theorem dL_law_1623 : decode cL_law 1623 = .ok (.iconst 1, 1) := by decide +kernel
theorem dL_law_1624 : decode cL_law 1624 = .ok (.iadd, 1) := by decide +kernel
theorem dL_law_1625 : decode cL_law 1625 = .ok (.iaload, 1) := by decide +kernel
theorem dL_law_1626 : decode cL_law 1626 = .ok (.aload_n 0, 1) := by decide +kernel
theorem dL_law_1627 : decode cL_law 1627 = .ok (.iload 5, 2) := by decide +kernel
theorem dL_law_1629 : decode cL_law 1629 = .ok (.iconst 2, 1) := by decide +kernel
theorem dL_law_1630 : decode cL_law 1630 = .ok (.iadd, 1) := by decide +kernel
theorem dL_law_1631 : decode cL_law 1631 = .ok (.iaload, 1) := by decide +kernel
theorem dL_law_1632 : decode cL_law 1632 = .ok (.aload_n 0, 1) := by decide +kernel
theorem dL_law_1633 : decode cL_law 1633 = .ok (.iload 5, 2) := by decide +kernel
theorem dL_law_1635 : decode cL_law 1635 = .ok (.iconst 3, 1) := by decide +kernel
theorem dL_law_1636 : decode cL_law 1636 = .ok (.iadd, 1) := by decide +kernel
theorem dL_law_1637 : decode cL_law 1637 = .ok (.iaload, 1) := by decide +kernel
theorem dL_law_1638 : decode cL_law 1638 = .ok (.aload_n 3, 1) := by decide +kernel
theorem dL_law_1639 : decode cL_law 1639 = .ok (.invokestatic 217, 3) := by decide +kernel
theorem dL_law_1642 : decode cL_law 1642 = .ok (.istore 6, 2) := by decide +kernel
theorem dL_law_1644 : decode cL_law 1644 = .ok (.aload_n 2, 1) := by decide +kernel
theorem dL_law_1645 : decode cL_law 1645 = .ok (.aload_n 0, 1) := by decide +kernel
theorem dL_law_1646 : decode cL_law 1646 = .ok (.iload 5, 2) := by decide +kernel
theorem dL_law_1648 : decode cL_law 1648 = .ok (.iconst 1, 1) := by decide +kernel
theorem dL_law_1649 : decode cL_law 1649 = .ok (.iadd, 1) := by decide +kernel
theorem dL_law_1650 : decode cL_law 1650 = .ok (.iaload, 1) := by decide +kernel
theorem dL_law_1651 : decode cL_law 1651 = .ok (.aload_n 0, 1) := by decide +kernel
theorem dL_law_1652 : decode cL_law 1652 = .ok (.iload 5, 2) := by decide +kernel
theorem dL_law_1654 : decode cL_law 1654 = .ok (.iconst 2, 1) := by decide +kernel
theorem dL_law_1655 : decode cL_law 1655 = .ok (.iadd, 1) := by decide +kernel
theorem dL_law_1656 : decode cL_law 1656 = .ok (.iaload, 1) := by decide +kernel
theorem dL_law_1657 : decode cL_law 1657 = .ok (.aload_n 0, 1) := by decide +kernel
theorem dL_law_1658 : decode cL_law 1658 = .ok (.iload 5, 2) := by decide +kernel
theorem dL_law_1660 : decode cL_law 1660 = .ok (.iconst 3, 1) := by decide +kernel
theorem dL_law_1661 : decode cL_law 1661 = .ok (.iadd, 1) := by decide +kernel
theorem dL_law_1662 : decode cL_law 1662 = .ok (.iaload, 1) := by decide +kernel
theorem dL_law_1663 : decode cL_law 1663 = .ok (.invokevirtual 219, 3) := by decide +kernel
theorem dL_law_1666 : decode cL_law 1666 = .ok (.istore 7, 2) := by decide +kernel
theorem dL_law_1668 : decode cL_law 1668 = .ok (.aload_n 2, 1) := by decide +kernel
theorem dL_law_1669 : decode cL_law 1669 = .ok (.invokevirtual 150, 3) := by decide +kernel
theorem dL_law_1672 : decode cL_law 1672 = .ok (.iload 6, 2) := by decide +kernel
theorem dL_law_1674 : decode cL_law 1674 = .ok (.if_icmp .eq 5, 3) := by decide +kernel
theorem dL_law_1679 : decode cL_law 1679 = .ok (.iload 6, 2) := by decide +kernel
theorem dL_law_1681 : decode cL_law 1681 = .ok (.ifCond .ne 15, 3) := by decide +kernel
theorem dL_law_1696 : decode cL_law 1696 = .ok (.goto 1024, 3) := by decide +kernel
set_option maxHeartbeats 4000000 in
set_option maxRecDepth 100000 in
/-- case 14 of the law: valueOf, on fresh objects -/
theorem lc_14 {p : Program} {e : Env} {s : State} {m : MethodId} {below : List Frame} {meth : Method} {c : Code} (l : Launch) (hfl : l.stackTraces = false) {b : Nat} {xs : Nat → Int32} (hx : p.tables.exec = Jvm.exec) (hb : c.code = cL_law) (hr : meth.sig.returnType = ret) (hml : c.maxLocals = 9) (hown : s.vm.findClass RL = some m.cls) (hts : ∀ w ∈ wsL_law, w.before #[Value.ref b] s = true) (hlk : meth.locks = false) (A : Nat → Prop) (hAe : ∀ q, A q → s.heap.size ≤ q) (hA : ∀ q : Nat, s.heap.size ≤ q → A q) (hX9 : va_X b 7 xs s s.heap) (hbl : b < s.heap.size) (hN : fN s) (hZ : fZ A s s.heap) (hX : fX s) (dC : Nat → ClassId) (dI : Nat → Nat → Nat) (h0 pr w d on op un wL wK wV wN wS wB dL dK dV dN dS dB ma tm k0 kN kA kO kK kV kG kP kC kD kE kF kX kY kT kU oJ oD : Nat) (cI cJ : ClassId) {H : Heap} {locs : List Loc} {ls : Array Slot} (hK : va_K (dC, dI) vwCl [(cI, .int), (cJ, .long)] s) (hP : va_P (dC, dI) vwCl [(h0, .inr (8, [.ref pr, .ref ma, .ref tm])), (pr, .inr (7, [.ref w, .ref d, .ref on, .ref op, .ref un, .int 0, .int 0])), (w, .inr (3, [.int 0, .int 0, .ref wL, .ref wK, .ref wV, .ref wN, .ref wS, .ref wB, .int 0])), (d, .inr (3, [.int 0, .int 0, .ref dL, .ref dK, .ref dV, .ref dN, .ref dS, .ref dB, .int 0])), (wV, .inl (cI, 10, .inl (fun _ => 0))), (dV, .inl (cI, 10, .inl (fun _ => 0))), (k0, .inr (9, [.ref kN, .ref kA, .ref kO, .ref kK, .ref kV, .ref kG, .ref kP, .ref kC, .ref kD, .ref kE, .ref kF, .ref kX, .ref kY, .int 0, .ref kT, .ref kU, .int 0, .int 0, .int 0])), (kN, .inl (cI, 2, .inl (fun _ => 0))), (kA, .inl (cI, 2, .inl (fun _ => 0))), (oJ, .inl (cJ, 1, .inr (.inl (fun _ => 0))))] H) (hD : va_D A [(h0, .inr (8, [.ref pr, .ref ma, .ref tm])), (pr, .inr (7, [.ref w, .ref d, .ref on, .ref op, .ref un, .int 0, .int 0])), (w, .inr (3, [.int 0, .int 0, .ref wL, .ref wK, .ref wV, .ref wN, .ref wS, .ref wB, .int 0])), (d, .inr (3, [.int 0, .int 0, .ref dL, .ref dK, .ref dV, .ref dN, .ref dS, .ref dB, .int 0])), (wV, .inl (cI, 10, .inl (fun _ => 0))), (dV, .inl (cI, 10, .inl (fun _ => 0))), (k0, .inr (9, [.ref kN, .ref kA, .ref kO, .ref kK, .ref kV, .ref kG, .ref kP, .ref kC, .ref kD, .ref kE, .ref kF, .ref kX, .ref kY, .int 0, .ref kT, .ref kU, .int 0, .int 0, .int 0])), (kN, .inl (cI, 2, .inl (fun _ => 0))), (kA, .inl (cI, 2, .inl (fun _ => 0))), (oJ, .inl (cJ, 1, .inr (.inl (fun _ => 0))))]) (hS : va_S A s.heap H locs) (hl : lv_has ls 9 [(5, .int 0), (4, .ref oD), (3, .ref oJ), (2, .ref k0), (1, .ref h0), (0, .ref b)]) : W p l e room_1 s m #[Value.ref b] below meth c H locs 114 2061 (lw_Z below #[Value.ref b] s) (F0 m 1199 ls []) := by
  have hbA : ¬ A b := fun h => Nat.not_le.mpr hbl (hAe _ h)
  have hX0 := hX
  refine lv_aload_n hx hb dL_law_1199 rfl (lv_at hl 4 rfl) ?_
  refine lv_aload_n hx hb dL_law_1200 rfl (lv_at hl 5 rfl) ?_
  refine lv_iload hx hb dL_law_1201 (lv_at hl 0 rfl) ?_
  refine lv_iconst (v := 1) hx hb dL_law_1203 (by decide) ?_
  refine lv_iadd hx hb dL_law_1204 ?_
  refine lv_topi (fun y1 ey1 => ?_)
  obtain rfl : y1 = 1 := ey1.trans (by decide)
  refine va_sld hx hb hX9 hbl hbA hS (show ¬ (_ ∨ _) by decide) dL_law_1205 ?_
  refine W.eq (g2 := F0 m 1206 ls [.int (xs 1), .ref h0]) rfl ?_
  refine lv_aload_n hx hb dL_law_1206 rfl (lv_at hl 5 rfl) ?_
  refine lv_iload hx hb dL_law_1207 (lv_at hl 0 rfl) ?_
  refine lv_iconst (v := 2) hx hb dL_law_1209 (by decide) ?_
  refine lv_iadd hx hb dL_law_1210 ?_
  refine lv_topi (fun y2 ey2 => ?_)
  obtain rfl : y2 = 2 := ey2.trans (by decide)
  refine va_sld hx hb hX9 hbl hbA hS (show ¬ (_ ∨ _) by decide) dL_law_1211 ?_
  refine W.eq (g2 := F0 m 1212 ls [.int (xs 2), .int (xs 1), .ref h0]) rfl ?_
  refine lv_aload_n hx hb dL_law_1212 rfl (lv_at hl 2 rfl) ?_
  have hPc := hP.sub (ws' := [(h0, .inr (8, [.ref pr, .ref ma, .ref tm])), (pr, .inr (7, [.ref w, .ref d, .ref on, .ref op, .ref un, .int 0, .int 0])), (w, .inr (3, [.int 0, .int 0, .ref wL, .ref wK, .ref wV, .ref wN, .ref wS, .ref wB, .int 0])), (d, .inr (3, [.int 0, .int 0, .ref dL, .ref dK, .ref dV, .ref dN, .ref dS, .ref dB, .int 0])), (wV, .inl (cI, 10, .inl (fun _ => 0))), (dV, .inl (cI, 10, .inl (fun _ => 0))), (oJ, .inl (cJ, 1, .inr (.inl (fun _ => 0))))]) [0, 1, 2, 3, 4, 5, 9] rfl
  have hDc := hD.sub (ws' := [(h0, .inr (8, [.ref pr, .ref ma, .ref tm])), (pr, .inr (7, [.ref w, .ref d, .ref on, .ref op, .ref un, .int 0, .int 0])), (w, .inr (3, [.int 0, .int 0, .ref wL, .ref wK, .ref wV, .ref wN, .ref wS, .ref wB, .int 0])), (d, .inr (3, [.int 0, .int 0, .ref dL, .ref dK, .ref dV, .ref dN, .ref dS, .ref dB, .int 0])), (wV, .inl (cI, 10, .inl (fun _ => 0))), (dV, .inl (cI, 10, .inl (fun _ => 0))), (oJ, .inl (cJ, 1, .inr (.inl (fun _ => 0))))]) [0, 1, 2, 3, 4, 5, 9] (by decide) rfl
  have hKc := hK.sub (tys' := [(cI, .int), (cJ, .long)]) [0, 1] rfl
  have hFc := va_free (wc := [(h0, .inr (8, [.ref pr, .ref ma, .ref tm])), (pr, .inr (7, [.ref w, .ref d, .ref on, .ref op, .ref un, .int 0, .int 0])), (w, .inr (3, [.int 0, .int 0, .ref wL, .ref wK, .ref wV, .ref wN, .ref wS, .ref wB, .int 0])), (d, .inr (3, [.int 0, .int 0, .ref dL, .ref dK, .ref dV, .ref dN, .ref dS, .ref dB, .int 0])), (wV, .inl (cI, 10, .inl (fun _ => 0))), (dV, .inl (cI, 10, .inl (fun _ => 0))), (oJ, .inl (cJ, 1, .inr (.inl (fun _ => 0))))]) hD hS hA [0, 1, 2, 3, 4, 5, 9] rfl
  refine vx_calli (vx_runSX (As := [.ref h0, .int (xs 1), .int (xs 2), .ref oJ]) (rest := []) ⟨hx, hb, hml, hown, hts⟩ (kL_valueOf l hfl dC dI h0 pr ma tm w d on op un wL wK wV wN wS wB dL dK dV dN dS dB cI oJ cJ (xs 1) (xs 2) H.size) (vx_cwSW 4 hts gL_law_L_valueOf rfl rfl rfl (by decide +kernel) ⟨Nat.le_of_ble_eq_true rfl, Nat.le_of_ble_eq_true rfl⟩) (gPreS hX hN hZ hS (fun q h => hFc q h) hPc hKc hDc) rfl rfl hl.1 rfl (lv_room (Nat.le_of_ble_eq_true rfl)) dL_law_1213 ⟨Nat.le_of_ble_eq_true rfl, Nat.le_of_ble_eq_true rfl⟩) hS (fun q _ h => hFc q h) hFc (fun q _ h => hFc q h) (fun E ce q9 u t H locs ht hvm hpx hE hz1 hk1 hS hq9 hv9 hc9 => ?_) (fun r u t H1 locs ht hvm hw hB hz1 hk1 hS => ?_)
  · skip
    exact hE.elim
  · skip
    obtain ⟨hP1, hK1, hD1⟩ := hB
    rw [ht] at hP1
    have hK1 := va_K.moved hvm.symm hK1
    obtain ⟨u3, rfl⟩ : ∃ z, z = u := ⟨_, rfl⟩
    obtain ⟨hP, hD⟩ := va_join (wr := [(k0, .inr (9, [.ref kN, .ref kA, .ref kO, .ref kK, .ref kV, .ref kG, .ref kP, .ref kC, .ref kD, .ref kE, .ref kF, .ref kX, .ref kY, .int 0, .ref kT, .ref kU, .int 0, .int 0, .int 0])), (kN, .inl (cI, 2, .inl (fun _ => 0))), (kA, .inl (cI, 2, .inl (fun _ => 0)))]) (w1 := [(oJ, .inl (cJ, 1, .inr (.inl u3)))]) hP hD [0, 1, 2, 3, 4, 5, 9] [6, 7, 8] rfl rfl (by decide) (by decide) hk1 hFc hP1 hD1
    generalize H1 = H at hP hS ⊢
    have hP : va_P (dC, dI) vwCl [(k0, .inr (9, [.ref kN, .ref kA, .ref kO, .ref kK, .ref kV, .ref kG, .ref kP, .ref kC, .ref kD, .ref kE, .ref kF, .ref kX, .ref kY, .int 0, .ref kT, .ref kU, .int 0, .int 0, .int 0])), (kN, .inl (cI, 2, .inl (fun _ => 0))), (kA, .inl (cI, 2, .inl (fun _ => 0))), (oJ, .inl (cJ, 1, .inr (.inl u3)))] _ := hP
    have hD : va_D A [(k0, .inr (9, [.ref kN, .ref kA, .ref kO, .ref kK, .ref kV, .ref kG, .ref kP, .ref kC, .ref kD, .ref kE, .ref kF, .ref kX, .ref kY, .int 0, .ref kT, .ref kU, .int 0, .int 0, .int 0])), (kN, .inl (cI, 2, .inl (fun _ => 0))), (kA, .inl (cI, 2, .inl (fun _ => 0))), (oJ, .inl (cJ, 1, .inr (.inl u3)))] := hD
    refine W.widen (k := 116) (n := 2073) (Nat.le_of_ble_eq_true rfl) (Nat.le_of_ble_eq_true rfl) ?_
    rcases hw with ⟨rfl, hf9⟩ | ⟨rfl, hf9⟩
    · skip
      have hf4 := hf9
      refine lv_istore (lv' := [(6, .int 1), (5, .int 0), (4, .ref oD), (3, .ref oJ), (2, .ref k0), (1, .ref h0), (0, .ref b)]) hx hb dL_law_1216 hl (Nat.le_of_ble_eq_true rfl) rfl (fun ls hl => ?_)
      refine lv_aload_n hx hb dL_law_1218 rfl (lv_at hl 4 rfl) ?_
      refine lv_aload_n hx hb dL_law_1219 rfl (lv_at hl 6 rfl) ?_
      refine lv_iload hx hb dL_law_1220 (lv_at hl 1 rfl) ?_
      refine lv_iconst (v := 1) hx hb dL_law_1222 (by decide) ?_
      refine lv_iadd hx hb dL_law_1223 ?_
      refine lv_topi (fun y5 ey5 => ?_)
      obtain rfl : y5 = 1 := ey5.trans (by decide)
      refine va_sld hx hb hX9 hbl hbA hS (show ¬ (_ ∨ _) by decide) dL_law_1224 ?_
      refine W.eq (g2 := F0 m 1225 ls [.int (xs 1), .ref k0]) rfl ?_
      refine lv_aload_n hx hb dL_law_1225 rfl (lv_at hl 6 rfl) ?_
      refine lv_iload hx hb dL_law_1226 (lv_at hl 1 rfl) ?_
      refine lv_iconst (v := 2) hx hb dL_law_1228 (by decide) ?_
      refine lv_iadd hx hb dL_law_1229 ?_
      refine lv_topi (fun y6 ey6 => ?_)
      obtain rfl : y6 = 2 := ey6.trans (by decide)
      refine va_sld hx hb hX9 hbl hbA hS (show ¬ (_ ∨ _) by decide) dL_law_1230 ?_
      refine W.eq (g2 := F0 m 1231 ls [.int (xs 2), .int (xs 1), .ref k0]) rfl ?_
      have hPc := hP.sub (ws' := [(k0, .inr (9, [.ref kN, .ref kA, .ref kO, .ref kK, .ref kV, .ref kG, .ref kP, .ref kC, .ref kD, .ref kE, .ref kF, .ref kX, .ref kY, .int 0, .ref kT, .ref kU, .int 0, .int 0, .int 0])), (kN, .inl (cI, 2, .inl (fun _ => 0))), (kA, .inl (cI, 2, .inl (fun _ => 0)))]) [0, 1, 2] rfl
      have hDc := hD.sub (ws' := [(k0, .inr (9, [.ref kN, .ref kA, .ref kO, .ref kK, .ref kV, .ref kG, .ref kP, .ref kC, .ref kD, .ref kE, .ref kF, .ref kX, .ref kY, .int 0, .ref kT, .ref kU, .int 0, .int 0, .int 0])), (kN, .inl (cI, 2, .inl (fun _ => 0))), (kA, .inl (cI, 2, .inl (fun _ => 0)))]) [0, 1, 2] (by decide) rfl
      have hKc := hK.sub (tys' := [(cI, .int)]) [0] rfl
      have hFc := va_free (wc := [(k0, .inr (9, [.ref kN, .ref kA, .ref kO, .ref kK, .ref kV, .ref kG, .ref kP, .ref kC, .ref kD, .ref kE, .ref kF, .ref kX, .ref kY, .int 0, .ref kT, .ref kU, .int 0, .int 0, .int 0])), (kN, .inl (cI, 2, .inl (fun _ => 0))), (kA, .inl (cI, 2, .inl (fun _ => 0)))]) hD hS hA [0, 1, 2] rfl
      refine va_calli (va_runV (As := [.int (xs 1), .int (xs 2)]) (rest := []) ⟨hx, hb, hml, hown, hts⟩ (kX6_valueOf l dC dI k0 kN kA kO kK kV kG kP kC kD kE kF kX kY kT kU cI (xs 1) (xs 2) H.size) (cwV 2 hts gL_law_X6_valueOf rfl rfl rfl (by decide +kernel) ⟨Nat.le_of_ble_eq_true rfl, Nat.le_of_ble_eq_true rfl⟩) (fPreV hN hZ hS (fun q h => hFc q h) hPc hKc hDc (ci := 9) (q0 := 0) rfl rfl) rfl rfl hl.1 rfl (lv_room (Nat.le_of_ble_eq_true rfl)) dL_law_1231 ⟨Nat.le_of_ble_eq_true rfl, Nat.le_of_ble_eq_true rfl⟩) hS (fun q _ h => hFc q h) hFc (fun r u t H1 locs ht hvm hw hB hz1 hk1 hS => ?_)
      obtain ⟨hP1, hK1, hD1⟩ := hB
      rw [ht] at hP1
      have hK1 := va_K.moved hvm.symm hK1
      obtain ⟨u7, rfl⟩ : ∃ z, z = u := ⟨_, rfl⟩
      obtain ⟨hP, hD⟩ := va_join (wr := [(oJ, .inl (cJ, 1, .inr (.inl u3)))]) (w1 := [(k0, .inr (9, [.ref kN, .ref kA, .ref kO, .ref kK, .ref kV, .ref kG, .ref kP, .ref kC, .ref kD, .ref kE, .ref kF, .ref kX, .ref kY, .int 0, .ref kT, .ref kU, .int u7, .int 0, .int 0]))]) hP hD [0, 1, 2] [3] rfl rfl (by decide) (by decide) hk1 hFc hP1 hD1
      generalize H1 = H at hP hS ⊢
      have hP : va_P (dC, dI) vwCl [(oJ, .inl (cJ, 1, .inr (.inl u3))), (k0, .inr (9, [.ref kN, .ref kA, .ref kO, .ref kK, .ref kV, .ref kG, .ref kP, .ref kC, .ref kD, .ref kE, .ref kF, .ref kX, .ref kY, .int 0, .ref kT, .ref kU, .int u7, .int 0, .int 0]))] _ := hP
      have hD : va_D A [(oJ, .inl (cJ, 1, .inr (.inl u3))), (k0, .inr (9, [.ref kN, .ref kA, .ref kO, .ref kK, .ref kV, .ref kG, .ref kP, .ref kC, .ref kD, .ref kE, .ref kF, .ref kX, .ref kY, .int 0, .ref kT, .ref kU, .int u7, .int 0, .int 0]))] := hD
      obtain ⟨r8, rfl⟩ : ∃ z, z = r := ⟨_, rfl⟩
      rcases hw with ⟨rfl, hg9⟩ | ⟨rfl, hg9⟩
      · skip
        have hP : va_P (dC, dI) vwCl [(oJ, .inl (cJ, 1, .inr (.inl u3))), (k0, .inr (9, [.ref kN, .ref kA, .ref kO, .ref kK, .ref kV, .ref kG, .ref kP, .ref kC, .ref kD, .ref kE, .ref kF, .ref kX, .ref kY, .int 0, .ref kT, .ref kU, .int 1, .int 0, .int 0]))] _ := hP
        have hD : va_D A [(oJ, .inl (cJ, 1, .inr (.inl u3))), (k0, .inr (9, [.ref kN, .ref kA, .ref kO, .ref kK, .ref kV, .ref kG, .ref kP, .ref kC, .ref kD, .ref kE, .ref kF, .ref kX, .ref kY, .int 0, .ref kT, .ref kU, .int 1, .int 0, .int 0]))] := hD
        refine lv_istore (lv' := [(7, .int r8), (6, .int 1), (5, .int 0), (4, .ref oD), (3, .ref oJ), (2, .ref k0), (1, .ref h0), (0, .ref b)]) hx hb dL_law_1234 hl (Nat.le_of_ble_eq_true rfl) rfl (fun ls hl => ?_)
        refine lv_aload_n hx hb dL_law_1236 rfl (lv_at hl 5 rfl) ?_
        have hPc := hP.sub (ws' := [(k0, .inr (9, [.ref kN, .ref kA, .ref kO, .ref kK, .ref kV, .ref kG, .ref kP, .ref kC, .ref kD, .ref kE, .ref kF, .ref kX, .ref kY, .int 0, .ref kT, .ref kU, .int 1, .int 0, .int 0]))]) [1] rfl
        have hDc := hD.sub (ws' := [(k0, .inr (9, [.ref kN, .ref kA, .ref kO, .ref kK, .ref kV, .ref kG, .ref kP, .ref kC, .ref kD, .ref kE, .ref kF, .ref kX, .ref kY, .int 0, .ref kT, .ref kU, .int 1, .int 0, .int 0]))]) [1] (by decide) rfl
        have hKc := hK.sub (tys' := []) [] rfl
        have hFc := va_free (wc := [(k0, .inr (9, [.ref kN, .ref kA, .ref kO, .ref kK, .ref kV, .ref kG, .ref kP, .ref kC, .ref kD, .ref kE, .ref kF, .ref kX, .ref kY, .int 0, .ref kT, .ref kU, .int 1, .int 0, .int 0]))]) hD hS hA [1] rfl
        refine va_calli (va_runV (As := []) (rest := []) ⟨hx, hb, hml, hown, hts⟩ (kX6_thrown l dC dI k0 kN kA kO kK kV kG kP kC kD kE kF kX kY kT kU 1 H.size) (cwV 0 hts gL_law_X6_thrown rfl rfl rfl (by decide +kernel) ⟨Nat.le_of_ble_eq_true rfl, Nat.le_of_ble_eq_true rfl⟩) (fPreV hN hZ hS (fun q h => hFc q h) hPc hKc hDc (ci := 9) (q0 := 0) rfl rfl) rfl rfl hl.1 rfl (lv_room (Nat.le_of_ble_eq_true rfl)) dL_law_1237 ⟨Nat.le_of_ble_eq_true rfl, Nat.le_of_ble_eq_true rfl⟩) hS (fun q _ h => hFc q h) hFc (fun r u t H1 locs ht hvm hw hB hz1 hk1 hS => ?_)
        obtain ⟨hP1, hK1, hD1⟩ := hB
        rw [ht] at hP1
        have hK1 := va_K.moved hvm.symm hK1
        obtain ⟨hP, hD⟩ := va_join (wr := [(oJ, .inl (cJ, 1, .inr (.inl u3)))]) (w1 := []) hP hD [1] [0] rfl rfl (by decide) (by decide) hk1 hFc hP1 hD1
        generalize H1 = H at hP hS ⊢
        have hP : va_P (dC, dI) vwCl [(oJ, .inl (cJ, 1, .inr (.inl u3)))] _ := hP
        have hD : va_D A [(oJ, .inl (cJ, 1, .inr (.inl u3)))] := hD
        subst hw
        refine lv_iload hx hb dL_law_1240 (lv_at hl 1 rfl) ?_
        refine lv_icmp_eq (tgt := 1247) hx hb dL_law_1242 (by decide) (fun _ => ?_) (fun h9 => absurd (by decide) h9)
        refine lv_iload hx hb dL_law_1247 (lv_at hl 1 rfl) ?_
        refine lv_if_ne (tgt := 1264) hx hb dL_law_1249 (by decide) (fun _ => ?_) (fun h9 => absurd h9 (by decide))
        refine lv_goto (tgt := 2720) hx hb dL_law_1264 (by decide) ?_
        refine lv_iinc (v := 7) (lv' := [(5, .int 7), (7, .int r8), (6, .int 1), (4, .ref oD), (3, .ref oJ), (2, .ref k0), (1, .ref h0), (0, .ref b)]) hx hb dL_law_2720 hl (k := 2) rfl (by decide) (Nat.le_of_ble_eq_true rfl) rfl (fun ls hl => ?_)
        refine lv_goto (tgt := 28) hx hb dL_law_2723 (by decide) ?_
        refine lv_iload hx hb dL_law_28 (lv_at hl 0 rfl) ?_
        refine lv_aload_n hx hb dL_law_30 rfl (lv_at hl 7 rfl) ?_
        refine va_slen hx hb hX9 hbl hbA hS dL_law_31 ?_
        refine W.eq (g2 := F0 m 32 ls [.int 7, .int 7]) rfl ?_
        refine lv_bipush (v := 7) hx hb dL_law_32 (by decide) ?_
        refine lv_isub hx hb dL_law_34 ?_
        refine lv_topi (fun y10 ey10 => ?_)
        obtain rfl : y10 = 0 := ey10.trans (by decide)
        refine lv_icmp_gt (tgt := 2726) hx hb dL_law_35 (by decide) (fun _ => ?_) (fun h9 => absurd (by decide) h9)
        refine lv_iconst (v := 1) hx hb dL_law_2726 (by decide) ?_
        refine va_forget (fun q hq => hAe _ (hS.2.2 q hq)) ?_
        refine W.widen (k := 600006) (n := 7302048) (Nat.le_of_ble_eq_true rfl) (Nat.le_of_ble_eq_true rfl) ?_
        exact W.base (lw_ret (d0 := s.drawn) (Drawn.sameBut.refl _ _) hx hb hr hlk dL_law_2727)
      · skip
        exact absurd hg9 ((fun h9 => h9 (hf4)))
    · skip
      have hf11 := hf9
      refine lv_istore (lv' := [(6, .int 2), (5, .int 0), (4, .ref oD), (3, .ref oJ), (2, .ref k0), (1, .ref h0), (0, .ref b)]) hx hb dL_law_1216 hl (Nat.le_of_ble_eq_true rfl) rfl (fun ls hl => ?_)
      refine lv_aload_n hx hb dL_law_1218 rfl (lv_at hl 4 rfl) ?_
      refine lv_aload_n hx hb dL_law_1219 rfl (lv_at hl 6 rfl) ?_
      refine lv_iload hx hb dL_law_1220 (lv_at hl 1 rfl) ?_
      refine lv_iconst (v := 1) hx hb dL_law_1222 (by decide) ?_
      refine lv_iadd hx hb dL_law_1223 ?_
      refine lv_topi (fun y12 ey12 => ?_)
      obtain rfl : y12 = 1 := ey12.trans (by decide)
      refine va_sld hx hb hX9 hbl hbA hS (show ¬ (_ ∨ _) by decide) dL_law_1224 ?_
      refine W.eq (g2 := F0 m 1225 ls [.int (xs 1), .ref k0]) rfl ?_
      refine lv_aload_n hx hb dL_law_1225 rfl (lv_at hl 6 rfl) ?_
      refine lv_iload hx hb dL_law_1226 (lv_at hl 1 rfl) ?_
      refine lv_iconst (v := 2) hx hb dL_law_1228 (by decide) ?_
      refine lv_iadd hx hb dL_law_1229 ?_
      refine lv_topi (fun y13 ey13 => ?_)
      obtain rfl : y13 = 2 := ey13.trans (by decide)
      refine va_sld hx hb hX9 hbl hbA hS (show ¬ (_ ∨ _) by decide) dL_law_1230 ?_
      refine W.eq (g2 := F0 m 1231 ls [.int (xs 2), .int (xs 1), .ref k0]) rfl ?_
      have hPc := hP.sub (ws' := [(k0, .inr (9, [.ref kN, .ref kA, .ref kO, .ref kK, .ref kV, .ref kG, .ref kP, .ref kC, .ref kD, .ref kE, .ref kF, .ref kX, .ref kY, .int 0, .ref kT, .ref kU, .int 0, .int 0, .int 0])), (kN, .inl (cI, 2, .inl (fun _ => 0))), (kA, .inl (cI, 2, .inl (fun _ => 0)))]) [0, 1, 2] rfl
      have hDc := hD.sub (ws' := [(k0, .inr (9, [.ref kN, .ref kA, .ref kO, .ref kK, .ref kV, .ref kG, .ref kP, .ref kC, .ref kD, .ref kE, .ref kF, .ref kX, .ref kY, .int 0, .ref kT, .ref kU, .int 0, .int 0, .int 0])), (kN, .inl (cI, 2, .inl (fun _ => 0))), (kA, .inl (cI, 2, .inl (fun _ => 0)))]) [0, 1, 2] (by decide) rfl
      have hKc := hK.sub (tys' := [(cI, .int)]) [0] rfl
      have hFc := va_free (wc := [(k0, .inr (9, [.ref kN, .ref kA, .ref kO, .ref kK, .ref kV, .ref kG, .ref kP, .ref kC, .ref kD, .ref kE, .ref kF, .ref kX, .ref kY, .int 0, .ref kT, .ref kU, .int 0, .int 0, .int 0])), (kN, .inl (cI, 2, .inl (fun _ => 0))), (kA, .inl (cI, 2, .inl (fun _ => 0)))]) hD hS hA [0, 1, 2] rfl
      refine va_calli (va_runV (As := [.int (xs 1), .int (xs 2)]) (rest := []) ⟨hx, hb, hml, hown, hts⟩ (kX6_valueOf l dC dI k0 kN kA kO kK kV kG kP kC kD kE kF kX kY kT kU cI (xs 1) (xs 2) H.size) (cwV 2 hts gL_law_X6_valueOf rfl rfl rfl (by decide +kernel) ⟨Nat.le_of_ble_eq_true rfl, Nat.le_of_ble_eq_true rfl⟩) (fPreV hN hZ hS (fun q h => hFc q h) hPc hKc hDc (ci := 9) (q0 := 0) rfl rfl) rfl rfl hl.1 rfl (lv_room (Nat.le_of_ble_eq_true rfl)) dL_law_1231 ⟨Nat.le_of_ble_eq_true rfl, Nat.le_of_ble_eq_true rfl⟩) hS (fun q _ h => hFc q h) hFc (fun r u t H1 locs ht hvm hw hB hz1 hk1 hS => ?_)
      obtain ⟨hP1, hK1, hD1⟩ := hB
      rw [ht] at hP1
      have hK1 := va_K.moved hvm.symm hK1
      obtain ⟨u14, rfl⟩ : ∃ z, z = u := ⟨_, rfl⟩
      obtain ⟨hP, hD⟩ := va_join (wr := [(oJ, .inl (cJ, 1, .inr (.inl u3)))]) (w1 := [(k0, .inr (9, [.ref kN, .ref kA, .ref kO, .ref kK, .ref kV, .ref kG, .ref kP, .ref kC, .ref kD, .ref kE, .ref kF, .ref kX, .ref kY, .int 0, .ref kT, .ref kU, .int u14, .int 0, .int 0]))]) hP hD [0, 1, 2] [3] rfl rfl (by decide) (by decide) hk1 hFc hP1 hD1
      generalize H1 = H at hP hS ⊢
      have hP : va_P (dC, dI) vwCl [(oJ, .inl (cJ, 1, .inr (.inl u3))), (k0, .inr (9, [.ref kN, .ref kA, .ref kO, .ref kK, .ref kV, .ref kG, .ref kP, .ref kC, .ref kD, .ref kE, .ref kF, .ref kX, .ref kY, .int 0, .ref kT, .ref kU, .int u14, .int 0, .int 0]))] _ := hP
      have hD : va_D A [(oJ, .inl (cJ, 1, .inr (.inl u3))), (k0, .inr (9, [.ref kN, .ref kA, .ref kO, .ref kK, .ref kV, .ref kG, .ref kP, .ref kC, .ref kD, .ref kE, .ref kF, .ref kX, .ref kY, .int 0, .ref kT, .ref kU, .int u14, .int 0, .int 0]))] := hD
      obtain ⟨r15, rfl⟩ : ∃ z, z = r := ⟨_, rfl⟩
      rcases hw with ⟨rfl, hg9⟩ | ⟨rfl, hg9⟩
      · skip
        exact absurd hg9 (hf11)
      · skip
        have hP : va_P (dC, dI) vwCl [(oJ, .inl (cJ, 1, .inr (.inl u3))), (k0, .inr (9, [.ref kN, .ref kA, .ref kO, .ref kK, .ref kV, .ref kG, .ref kP, .ref kC, .ref kD, .ref kE, .ref kF, .ref kX, .ref kY, .int 0, .ref kT, .ref kU, .int 2, .int 0, .int 0]))] _ := hP
        have hD : va_D A [(oJ, .inl (cJ, 1, .inr (.inl u3))), (k0, .inr (9, [.ref kN, .ref kA, .ref kO, .ref kK, .ref kV, .ref kG, .ref kP, .ref kC, .ref kD, .ref kE, .ref kF, .ref kX, .ref kY, .int 0, .ref kT, .ref kU, .int 2, .int 0, .int 0]))] := hD
        refine lv_istore (lv' := [(7, .int r15), (6, .int 2), (5, .int 0), (4, .ref oD), (3, .ref oJ), (2, .ref k0), (1, .ref h0), (0, .ref b)]) hx hb dL_law_1234 hl (Nat.le_of_ble_eq_true rfl) rfl (fun ls hl => ?_)
        refine lv_aload_n hx hb dL_law_1236 rfl (lv_at hl 5 rfl) ?_
        have hPc := hP.sub (ws' := [(k0, .inr (9, [.ref kN, .ref kA, .ref kO, .ref kK, .ref kV, .ref kG, .ref kP, .ref kC, .ref kD, .ref kE, .ref kF, .ref kX, .ref kY, .int 0, .ref kT, .ref kU, .int 2, .int 0, .int 0]))]) [1] rfl
        have hDc := hD.sub (ws' := [(k0, .inr (9, [.ref kN, .ref kA, .ref kO, .ref kK, .ref kV, .ref kG, .ref kP, .ref kC, .ref kD, .ref kE, .ref kF, .ref kX, .ref kY, .int 0, .ref kT, .ref kU, .int 2, .int 0, .int 0]))]) [1] (by decide) rfl
        have hKc := hK.sub (tys' := []) [] rfl
        have hFc := va_free (wc := [(k0, .inr (9, [.ref kN, .ref kA, .ref kO, .ref kK, .ref kV, .ref kG, .ref kP, .ref kC, .ref kD, .ref kE, .ref kF, .ref kX, .ref kY, .int 0, .ref kT, .ref kU, .int 2, .int 0, .int 0]))]) hD hS hA [1] rfl
        refine va_calli (va_runV (As := []) (rest := []) ⟨hx, hb, hml, hown, hts⟩ (kX6_thrown l dC dI k0 kN kA kO kK kV kG kP kC kD kE kF kX kY kT kU 2 H.size) (cwV 0 hts gL_law_X6_thrown rfl rfl rfl (by decide +kernel) ⟨Nat.le_of_ble_eq_true rfl, Nat.le_of_ble_eq_true rfl⟩) (fPreV hN hZ hS (fun q h => hFc q h) hPc hKc hDc (ci := 9) (q0 := 0) rfl rfl) rfl rfl hl.1 rfl (lv_room (Nat.le_of_ble_eq_true rfl)) dL_law_1237 ⟨Nat.le_of_ble_eq_true rfl, Nat.le_of_ble_eq_true rfl⟩) hS (fun q _ h => hFc q h) hFc (fun r u t H1 locs ht hvm hw hB hz1 hk1 hS => ?_)
        obtain ⟨hP1, hK1, hD1⟩ := hB
        rw [ht] at hP1
        have hK1 := va_K.moved hvm.symm hK1
        obtain ⟨hP, hD⟩ := va_join (wr := [(oJ, .inl (cJ, 1, .inr (.inl u3)))]) (w1 := []) hP hD [1] [0] rfl rfl (by decide) (by decide) hk1 hFc hP1 hD1
        generalize H1 = H at hP hS ⊢
        have hP : va_P (dC, dI) vwCl [(oJ, .inl (cJ, 1, .inr (.inl u3)))] _ := hP
        have hD : va_D A [(oJ, .inl (cJ, 1, .inr (.inl u3)))] := hD
        subst hw
        refine lv_iload hx hb dL_law_1240 (lv_at hl 1 rfl) ?_
        refine lv_icmp_eq (tgt := 1247) hx hb dL_law_1242 (by decide) (fun _ => ?_) (fun h9 => absurd (by decide) h9)
        refine lv_iload hx hb dL_law_1247 (lv_at hl 1 rfl) ?_
        refine lv_if_ne (tgt := 1264) hx hb dL_law_1249 (by decide) (fun _ => ?_) (fun h9 => absurd h9 (by decide))
        refine lv_goto (tgt := 2720) hx hb dL_law_1264 (by decide) ?_
        refine lv_iinc (v := 7) (lv' := [(5, .int 7), (7, .int r15), (6, .int 2), (4, .ref oD), (3, .ref oJ), (2, .ref k0), (1, .ref h0), (0, .ref b)]) hx hb dL_law_2720 hl (k := 2) rfl (by decide) (Nat.le_of_ble_eq_true rfl) rfl (fun ls hl => ?_)
        refine lv_goto (tgt := 28) hx hb dL_law_2723 (by decide) ?_
        refine lv_iload hx hb dL_law_28 (lv_at hl 0 rfl) ?_
        refine lv_aload_n hx hb dL_law_30 rfl (lv_at hl 7 rfl) ?_
        refine va_slen hx hb hX9 hbl hbA hS dL_law_31 ?_
        refine W.eq (g2 := F0 m 32 ls [.int 7, .int 7]) rfl ?_
        refine lv_bipush (v := 7) hx hb dL_law_32 (by decide) ?_
        refine lv_isub hx hb dL_law_34 ?_
        refine lv_topi (fun y16 ey16 => ?_)
        obtain rfl : y16 = 0 := ey16.trans (by decide)
        refine lv_icmp_gt (tgt := 2726) hx hb dL_law_35 (by decide) (fun _ => ?_) (fun h9 => absurd (by decide) h9)
        refine lv_iconst (v := 1) hx hb dL_law_2726 (by decide) ?_
        refine va_forget (fun q hq => hAe _ (hS.2.2 q hq)) ?_
        refine W.widen (k := 600006) (n := 7302048) (Nat.le_of_ble_eq_true rfl) (Nat.le_of_ble_eq_true rfl) ?_
        exact W.base (lw_ret (d0 := s.drawn) (Drawn.sameBut.refl _ _) hx hb hr hlk dL_law_2727)

set_option maxHeartbeats 4000000 in
set_option maxRecDepth 100000 in
/-- case 15 of the law: netOf, on fresh objects -/
theorem lc_15 {p : Program} {e : Env} {s : State} {m : MethodId} {below : List Frame} {meth : Method} {c : Code} (l : Launch) (hfl : l.stackTraces = false) {b : Nat} {xs : Nat → Int32} (hx : p.tables.exec = Jvm.exec) (hb : c.code = cL_law) (hr : meth.sig.returnType = ret) (hml : c.maxLocals = 9) (hown : s.vm.findClass RL = some m.cls) (hts : ∀ w ∈ wsL_law, w.before #[Value.ref b] s = true) (hlk : meth.locks = false) (A : Nat → Prop) (hAe : ∀ q, A q → s.heap.size ≤ q) (hA : ∀ q : Nat, s.heap.size ≤ q → A q) (hX9 : va_X b 7 xs s s.heap) (hbl : b < s.heap.size) (hN : fN s) (hZ : fZ A s s.heap) (hX : fX s) (dC : Nat → ClassId) (dI : Nat → Nat → Nat) (h0 pr w d on op un wL wK wV wN wS wB dL dK dV dN dS dB ma tm k0 kN kA kO kK kV kG kP kC kD kE kF kX kY kT kU oJ oD : Nat) (cI cJ : ClassId) {H : Heap} {locs : List Loc} {ls : Array Slot} (hK : va_K (dC, dI) vwCl [(cI, .int), (cJ, .long)] s) (hP : va_P (dC, dI) vwCl [(h0, .inr (8, [.ref pr, .ref ma, .ref tm])), (pr, .inr (7, [.ref w, .ref d, .ref on, .ref op, .ref un, .int 0, .int 0])), (w, .inr (3, [.int 0, .int 0, .ref wL, .ref wK, .ref wV, .ref wN, .ref wS, .ref wB, .int 0])), (d, .inr (3, [.int 0, .int 0, .ref dL, .ref dK, .ref dV, .ref dN, .ref dS, .ref dB, .int 0])), (wV, .inl (cI, 10, .inl (fun _ => 0))), (dV, .inl (cI, 10, .inl (fun _ => 0))), (k0, .inr (9, [.ref kN, .ref kA, .ref kO, .ref kK, .ref kV, .ref kG, .ref kP, .ref kC, .ref kD, .ref kE, .ref kF, .ref kX, .ref kY, .int 0, .ref kT, .ref kU, .int 0, .int 0, .int 0])), (kN, .inl (cI, 2, .inl (fun _ => 0))), (kA, .inl (cI, 2, .inl (fun _ => 0))), (oJ, .inl (cJ, 1, .inr (.inl (fun _ => 0))))] H) (hD : va_D A [(h0, .inr (8, [.ref pr, .ref ma, .ref tm])), (pr, .inr (7, [.ref w, .ref d, .ref on, .ref op, .ref un, .int 0, .int 0])), (w, .inr (3, [.int 0, .int 0, .ref wL, .ref wK, .ref wV, .ref wN, .ref wS, .ref wB, .int 0])), (d, .inr (3, [.int 0, .int 0, .ref dL, .ref dK, .ref dV, .ref dN, .ref dS, .ref dB, .int 0])), (wV, .inl (cI, 10, .inl (fun _ => 0))), (dV, .inl (cI, 10, .inl (fun _ => 0))), (k0, .inr (9, [.ref kN, .ref kA, .ref kO, .ref kK, .ref kV, .ref kG, .ref kP, .ref kC, .ref kD, .ref kE, .ref kF, .ref kX, .ref kY, .int 0, .ref kT, .ref kU, .int 0, .int 0, .int 0])), (kN, .inl (cI, 2, .inl (fun _ => 0))), (kA, .inl (cI, 2, .inl (fun _ => 0))), (oJ, .inl (cJ, 1, .inr (.inl (fun _ => 0))))]) (hS : va_S A s.heap H locs) (hl : lv_has ls 9 [(5, .int 0), (4, .ref oD), (3, .ref oJ), (2, .ref k0), (1, .ref h0), (0, .ref b)]) : W p l e room_1 s m #[Value.ref b] below meth c H locs 114 2061 (lw_Z below #[Value.ref b] s) (F0 m 1267 ls []) := by
  have hbA : ¬ A b := fun h => Nat.not_le.mpr hbl (hAe _ h)
  have hX0 := hX
  refine lv_aload_n hx hb dL_law_1267 rfl (lv_at hl 4 rfl) ?_
  refine lv_aload_n hx hb dL_law_1268 rfl (lv_at hl 5 rfl) ?_
  refine lv_iload hx hb dL_law_1269 (lv_at hl 0 rfl) ?_
  refine lv_iconst (v := 1) hx hb dL_law_1271 (by decide) ?_
  refine lv_iadd hx hb dL_law_1272 ?_
  refine lv_topi (fun y1 ey1 => ?_)
  obtain rfl : y1 = 1 := ey1.trans (by decide)
  refine va_sld hx hb hX9 hbl hbA hS (show ¬ (_ ∨ _) by decide) dL_law_1273 ?_
  refine W.eq (g2 := F0 m 1274 ls [.int (xs 1), .ref h0]) rfl ?_
  refine lv_aload_n hx hb dL_law_1274 rfl (lv_at hl 5 rfl) ?_
  refine lv_iload hx hb dL_law_1275 (lv_at hl 0 rfl) ?_
  refine lv_iconst (v := 2) hx hb dL_law_1277 (by decide) ?_
  refine lv_iadd hx hb dL_law_1278 ?_
  refine lv_topi (fun y2 ey2 => ?_)
  obtain rfl : y2 = 2 := ey2.trans (by decide)
  refine va_sld hx hb hX9 hbl hbA hS (show ¬ (_ ∨ _) by decide) dL_law_1279 ?_
  refine W.eq (g2 := F0 m 1280 ls [.int (xs 2), .int (xs 1), .ref h0]) rfl ?_
  refine lv_aload_n hx hb dL_law_1280 rfl (lv_at hl 5 rfl) ?_
  refine lv_iload hx hb dL_law_1281 (lv_at hl 0 rfl) ?_
  refine lv_iconst (v := 3) hx hb dL_law_1283 (by decide) ?_
  refine lv_iadd hx hb dL_law_1284 ?_
  refine lv_topi (fun y3 ey3 => ?_)
  obtain rfl : y3 = 3 := ey3.trans (by decide)
  refine va_sld hx hb hX9 hbl hbA hS (show ¬ (_ ∨ _) by decide) dL_law_1285 ?_
  refine W.eq (g2 := F0 m 1286 ls [.int (xs 3), .int (xs 2), .int (xs 1), .ref h0]) rfl ?_
  refine lv_aload_n hx hb dL_law_1286 rfl (lv_at hl 2 rfl) ?_
  have hPc := hP.sub (ws' := [(h0, .inr (8, [.ref pr, .ref ma, .ref tm])), (pr, .inr (7, [.ref w, .ref d, .ref on, .ref op, .ref un, .int 0, .int 0])), (w, .inr (3, [.int 0, .int 0, .ref wL, .ref wK, .ref wV, .ref wN, .ref wS, .ref wB, .int 0])), (d, .inr (3, [.int 0, .int 0, .ref dL, .ref dK, .ref dV, .ref dN, .ref dS, .ref dB, .int 0])), (wV, .inl (cI, 10, .inl (fun _ => 0))), (dV, .inl (cI, 10, .inl (fun _ => 0))), (oJ, .inl (cJ, 1, .inr (.inl (fun _ => 0))))]) [0, 1, 2, 3, 4, 5, 9] rfl
  have hDc := hD.sub (ws' := [(h0, .inr (8, [.ref pr, .ref ma, .ref tm])), (pr, .inr (7, [.ref w, .ref d, .ref on, .ref op, .ref un, .int 0, .int 0])), (w, .inr (3, [.int 0, .int 0, .ref wL, .ref wK, .ref wV, .ref wN, .ref wS, .ref wB, .int 0])), (d, .inr (3, [.int 0, .int 0, .ref dL, .ref dK, .ref dV, .ref dN, .ref dS, .ref dB, .int 0])), (wV, .inl (cI, 10, .inl (fun _ => 0))), (dV, .inl (cI, 10, .inl (fun _ => 0))), (oJ, .inl (cJ, 1, .inr (.inl (fun _ => 0))))]) [0, 1, 2, 3, 4, 5, 9] (by decide) rfl
  have hKc := hK.sub (tys' := [(cI, .int), (cJ, .long)]) [0, 1] rfl
  have hFc := va_free (wc := [(h0, .inr (8, [.ref pr, .ref ma, .ref tm])), (pr, .inr (7, [.ref w, .ref d, .ref on, .ref op, .ref un, .int 0, .int 0])), (w, .inr (3, [.int 0, .int 0, .ref wL, .ref wK, .ref wV, .ref wN, .ref wS, .ref wB, .int 0])), (d, .inr (3, [.int 0, .int 0, .ref dL, .ref dK, .ref dV, .ref dN, .ref dS, .ref dB, .int 0])), (wV, .inl (cI, 10, .inl (fun _ => 0))), (dV, .inl (cI, 10, .inl (fun _ => 0))), (oJ, .inl (cJ, 1, .inr (.inl (fun _ => 0))))]) hD hS hA [0, 1, 2, 3, 4, 5, 9] rfl
  refine vx_calli (vx_runSX (As := [.ref h0, .int (xs 1), .int (xs 2), .int (xs 3), .ref oJ]) (rest := []) ⟨hx, hb, hml, hown, hts⟩ (kL_netOf l hfl dC dI h0 pr ma tm w d on op un wL wK wV wN wS wB dL dK dV dN dS dB cI oJ cJ (xs 1) (xs 2) (xs 3) H.size) (vx_cwSW 5 hts gL_law_L_netOf rfl rfl rfl (by decide +kernel) ⟨Nat.le_of_ble_eq_true rfl, Nat.le_of_ble_eq_true rfl⟩) (gPreS hX hN hZ hS (fun q h => hFc q h) hPc hKc hDc) rfl rfl hl.1 rfl (lv_room (Nat.le_of_ble_eq_true rfl)) dL_law_1287 ⟨Nat.le_of_ble_eq_true rfl, Nat.le_of_ble_eq_true rfl⟩) hS (fun q _ h => hFc q h) hFc (fun q _ h => hFc q h) (fun E ce q9 u t H locs ht hvm hpx hE hz1 hk1 hS hq9 hv9 hc9 => ?_) (fun r u t H1 locs ht hvm hw hB hz1 hk1 hS => ?_)
  · skip
    exact hE.elim
  · skip
    obtain ⟨hP1, hK1, hD1⟩ := hB
    rw [ht] at hP1
    have hK1 := va_K.moved hvm.symm hK1
    obtain ⟨u4, rfl⟩ : ∃ z, z = u := ⟨_, rfl⟩
    obtain ⟨hP, hD⟩ := va_join (wr := [(k0, .inr (9, [.ref kN, .ref kA, .ref kO, .ref kK, .ref kV, .ref kG, .ref kP, .ref kC, .ref kD, .ref kE, .ref kF, .ref kX, .ref kY, .int 0, .ref kT, .ref kU, .int 0, .int 0, .int 0])), (kN, .inl (cI, 2, .inl (fun _ => 0))), (kA, .inl (cI, 2, .inl (fun _ => 0)))]) (w1 := [(oJ, .inl (cJ, 1, .inr (.inl u4)))]) hP hD [0, 1, 2, 3, 4, 5, 9] [6, 7, 8] rfl rfl (by decide) (by decide) hk1 hFc hP1 hD1
    generalize H1 = H at hP hS ⊢
    have hP : va_P (dC, dI) vwCl [(k0, .inr (9, [.ref kN, .ref kA, .ref kO, .ref kK, .ref kV, .ref kG, .ref kP, .ref kC, .ref kD, .ref kE, .ref kF, .ref kX, .ref kY, .int 0, .ref kT, .ref kU, .int 0, .int 0, .int 0])), (kN, .inl (cI, 2, .inl (fun _ => 0))), (kA, .inl (cI, 2, .inl (fun _ => 0))), (oJ, .inl (cJ, 1, .inr (.inl u4)))] _ := hP
    have hD : va_D A [(k0, .inr (9, [.ref kN, .ref kA, .ref kO, .ref kK, .ref kV, .ref kG, .ref kP, .ref kC, .ref kD, .ref kE, .ref kF, .ref kX, .ref kY, .int 0, .ref kT, .ref kU, .int 0, .int 0, .int 0])), (kN, .inl (cI, 2, .inl (fun _ => 0))), (kA, .inl (cI, 2, .inl (fun _ => 0))), (oJ, .inl (cJ, 1, .inr (.inl u4)))] := hD
    refine W.widen (k := 116) (n := 2073) (Nat.le_of_ble_eq_true rfl) (Nat.le_of_ble_eq_true rfl) ?_
    rcases hw with ⟨rfl, hf9⟩ | ⟨rfl, hf9⟩
    · skip
      have hf5 := hf9
      refine lv_istore (lv' := [(6, .int 1), (5, .int 0), (4, .ref oD), (3, .ref oJ), (2, .ref k0), (1, .ref h0), (0, .ref b)]) hx hb dL_law_1290 hl (Nat.le_of_ble_eq_true rfl) rfl (fun ls hl => ?_)
      refine lv_aload_n hx hb dL_law_1292 rfl (lv_at hl 4 rfl) ?_
      refine lv_aload_n hx hb dL_law_1293 rfl (lv_at hl 6 rfl) ?_
      refine lv_iload hx hb dL_law_1294 (lv_at hl 1 rfl) ?_
      refine lv_iconst (v := 1) hx hb dL_law_1296 (by decide) ?_
      refine lv_iadd hx hb dL_law_1297 ?_
      refine lv_topi (fun y6 ey6 => ?_)
      obtain rfl : y6 = 1 := ey6.trans (by decide)
      refine va_sld hx hb hX9 hbl hbA hS (show ¬ (_ ∨ _) by decide) dL_law_1298 ?_
      refine W.eq (g2 := F0 m 1299 ls [.int (xs 1), .ref k0]) rfl ?_
      refine lv_aload_n hx hb dL_law_1299 rfl (lv_at hl 6 rfl) ?_
      refine lv_iload hx hb dL_law_1300 (lv_at hl 1 rfl) ?_
      refine lv_iconst (v := 2) hx hb dL_law_1302 (by decide) ?_
      refine lv_iadd hx hb dL_law_1303 ?_
      refine lv_topi (fun y7 ey7 => ?_)
      obtain rfl : y7 = 2 := ey7.trans (by decide)
      refine va_sld hx hb hX9 hbl hbA hS (show ¬ (_ ∨ _) by decide) dL_law_1304 ?_
      refine W.eq (g2 := F0 m 1305 ls [.int (xs 2), .int (xs 1), .ref k0]) rfl ?_
      refine lv_aload_n hx hb dL_law_1305 rfl (lv_at hl 6 rfl) ?_
      refine lv_iload hx hb dL_law_1306 (lv_at hl 1 rfl) ?_
      refine lv_iconst (v := 3) hx hb dL_law_1308 (by decide) ?_
      refine lv_iadd hx hb dL_law_1309 ?_
      refine lv_topi (fun y8 ey8 => ?_)
      obtain rfl : y8 = 3 := ey8.trans (by decide)
      refine va_sld hx hb hX9 hbl hbA hS (show ¬ (_ ∨ _) by decide) dL_law_1310 ?_
      refine W.eq (g2 := F0 m 1311 ls [.int (xs 3), .int (xs 2), .int (xs 1), .ref k0]) rfl ?_
      have hPc := hP.sub (ws' := [(k0, .inr (9, [.ref kN, .ref kA, .ref kO, .ref kK, .ref kV, .ref kG, .ref kP, .ref kC, .ref kD, .ref kE, .ref kF, .ref kX, .ref kY, .int 0, .ref kT, .ref kU, .int 0, .int 0, .int 0])), (kN, .inl (cI, 2, .inl (fun _ => 0))), (kA, .inl (cI, 2, .inl (fun _ => 0)))]) [0, 1, 2] rfl
      have hDc := hD.sub (ws' := [(k0, .inr (9, [.ref kN, .ref kA, .ref kO, .ref kK, .ref kV, .ref kG, .ref kP, .ref kC, .ref kD, .ref kE, .ref kF, .ref kX, .ref kY, .int 0, .ref kT, .ref kU, .int 0, .int 0, .int 0])), (kN, .inl (cI, 2, .inl (fun _ => 0))), (kA, .inl (cI, 2, .inl (fun _ => 0)))]) [0, 1, 2] (by decide) rfl
      have hKc := hK.sub (tys' := [(cI, .int)]) [0] rfl
      have hFc := va_free (wc := [(k0, .inr (9, [.ref kN, .ref kA, .ref kO, .ref kK, .ref kV, .ref kG, .ref kP, .ref kC, .ref kD, .ref kE, .ref kF, .ref kX, .ref kY, .int 0, .ref kT, .ref kU, .int 0, .int 0, .int 0])), (kN, .inl (cI, 2, .inl (fun _ => 0))), (kA, .inl (cI, 2, .inl (fun _ => 0)))]) hD hS hA [0, 1, 2] rfl
      refine va_calli (va_runV (As := [.int (xs 1), .int (xs 2), .int (xs 3)]) (rest := []) ⟨hx, hb, hml, hown, hts⟩ (kX6_netOf l dC dI k0 kN kA kO kK kV kG kP kC kD kE kF kX kY kT kU cI (xs 1) (xs 2) (xs 3) H.size) (cwV 3 hts gL_law_X6_netOf rfl rfl rfl (by decide +kernel) ⟨Nat.le_of_ble_eq_true rfl, Nat.le_of_ble_eq_true rfl⟩) (fPreV hN hZ hS (fun q h => hFc q h) hPc hKc hDc (ci := 9) (q0 := 0) rfl rfl) rfl rfl hl.1 rfl (lv_room (Nat.le_of_ble_eq_true rfl)) dL_law_1311 ⟨Nat.le_of_ble_eq_true rfl, Nat.le_of_ble_eq_true rfl⟩) hS (fun q _ h => hFc q h) hFc (fun r u t H1 locs ht hvm hw hB hz1 hk1 hS => ?_)
      obtain ⟨hP1, hK1, hD1⟩ := hB
      rw [ht] at hP1
      have hK1 := va_K.moved hvm.symm hK1
      obtain ⟨u10, rfl⟩ : ∃ z, z = u := ⟨_, rfl⟩
      obtain ⟨hP, hD⟩ := va_join (wr := [(oJ, .inl (cJ, 1, .inr (.inl u4)))]) (w1 := [(k0, .inr (9, [.ref kN, .ref kA, .ref kO, .ref kK, .ref kV, .ref kG, .ref kP, .ref kC, .ref kD, .ref kE, .ref kF, .ref kX, .ref kY, .int 0, .ref kT, .ref kU, .int u10, .int 0, .int 0]))]) hP hD [0, 1, 2] [3] rfl rfl (by decide) (by decide) hk1 hFc hP1 hD1
      generalize H1 = H at hP hS ⊢
      have hP : va_P (dC, dI) vwCl [(oJ, .inl (cJ, 1, .inr (.inl u4))), (k0, .inr (9, [.ref kN, .ref kA, .ref kO, .ref kK, .ref kV, .ref kG, .ref kP, .ref kC, .ref kD, .ref kE, .ref kF, .ref kX, .ref kY, .int 0, .ref kT, .ref kU, .int u10, .int 0, .int 0]))] _ := hP
      have hD : va_D A [(oJ, .inl (cJ, 1, .inr (.inl u4))), (k0, .inr (9, [.ref kN, .ref kA, .ref kO, .ref kK, .ref kV, .ref kG, .ref kP, .ref kC, .ref kD, .ref kE, .ref kF, .ref kX, .ref kY, .int 0, .ref kT, .ref kU, .int u10, .int 0, .int 0]))] := hD
      obtain ⟨r11, rfl⟩ : ∃ z, z = r := ⟨_, rfl⟩
      rcases hw with ⟨rfl, hg9⟩ | ⟨rfl, hg9⟩
      · skip
        have hP : va_P (dC, dI) vwCl [(oJ, .inl (cJ, 1, .inr (.inl u4))), (k0, .inr (9, [.ref kN, .ref kA, .ref kO, .ref kK, .ref kV, .ref kG, .ref kP, .ref kC, .ref kD, .ref kE, .ref kF, .ref kX, .ref kY, .int 0, .ref kT, .ref kU, .int 1, .int 0, .int 0]))] _ := hP
        have hD : va_D A [(oJ, .inl (cJ, 1, .inr (.inl u4))), (k0, .inr (9, [.ref kN, .ref kA, .ref kO, .ref kK, .ref kV, .ref kG, .ref kP, .ref kC, .ref kD, .ref kE, .ref kF, .ref kX, .ref kY, .int 0, .ref kT, .ref kU, .int 1, .int 0, .int 0]))] := hD
        refine lv_istore (lv' := [(7, .int r11), (6, .int 1), (5, .int 0), (4, .ref oD), (3, .ref oJ), (2, .ref k0), (1, .ref h0), (0, .ref b)]) hx hb dL_law_1314 hl (Nat.le_of_ble_eq_true rfl) rfl (fun ls hl => ?_)
        refine lv_aload_n hx hb dL_law_1316 rfl (lv_at hl 5 rfl) ?_
        have hPc := hP.sub (ws' := [(k0, .inr (9, [.ref kN, .ref kA, .ref kO, .ref kK, .ref kV, .ref kG, .ref kP, .ref kC, .ref kD, .ref kE, .ref kF, .ref kX, .ref kY, .int 0, .ref kT, .ref kU, .int 1, .int 0, .int 0]))]) [1] rfl
        have hDc := hD.sub (ws' := [(k0, .inr (9, [.ref kN, .ref kA, .ref kO, .ref kK, .ref kV, .ref kG, .ref kP, .ref kC, .ref kD, .ref kE, .ref kF, .ref kX, .ref kY, .int 0, .ref kT, .ref kU, .int 1, .int 0, .int 0]))]) [1] (by decide) rfl
        have hKc := hK.sub (tys' := []) [] rfl
        have hFc := va_free (wc := [(k0, .inr (9, [.ref kN, .ref kA, .ref kO, .ref kK, .ref kV, .ref kG, .ref kP, .ref kC, .ref kD, .ref kE, .ref kF, .ref kX, .ref kY, .int 0, .ref kT, .ref kU, .int 1, .int 0, .int 0]))]) hD hS hA [1] rfl
        refine va_calli (va_runV (As := []) (rest := []) ⟨hx, hb, hml, hown, hts⟩ (kX6_thrown l dC dI k0 kN kA kO kK kV kG kP kC kD kE kF kX kY kT kU 1 H.size) (cwV 0 hts gL_law_X6_thrown rfl rfl rfl (by decide +kernel) ⟨Nat.le_of_ble_eq_true rfl, Nat.le_of_ble_eq_true rfl⟩) (fPreV hN hZ hS (fun q h => hFc q h) hPc hKc hDc (ci := 9) (q0 := 0) rfl rfl) rfl rfl hl.1 rfl (lv_room (Nat.le_of_ble_eq_true rfl)) dL_law_1317 ⟨Nat.le_of_ble_eq_true rfl, Nat.le_of_ble_eq_true rfl⟩) hS (fun q _ h => hFc q h) hFc (fun r u t H1 locs ht hvm hw hB hz1 hk1 hS => ?_)
        obtain ⟨hP1, hK1, hD1⟩ := hB
        rw [ht] at hP1
        have hK1 := va_K.moved hvm.symm hK1
        obtain ⟨hP, hD⟩ := va_join (wr := [(oJ, .inl (cJ, 1, .inr (.inl u4)))]) (w1 := []) hP hD [1] [0] rfl rfl (by decide) (by decide) hk1 hFc hP1 hD1
        generalize H1 = H at hP hS ⊢
        have hP : va_P (dC, dI) vwCl [(oJ, .inl (cJ, 1, .inr (.inl u4)))] _ := hP
        have hD : va_D A [(oJ, .inl (cJ, 1, .inr (.inl u4)))] := hD
        subst hw
        refine lv_iload hx hb dL_law_1320 (lv_at hl 1 rfl) ?_
        refine lv_icmp_eq (tgt := 1327) hx hb dL_law_1322 (by decide) (fun _ => ?_) (fun h9 => absurd (by decide) h9)
        refine lv_iload hx hb dL_law_1327 (lv_at hl 1 rfl) ?_
        refine lv_if_ne (tgt := 1344) hx hb dL_law_1329 (by decide) (fun _ => ?_) (fun h9 => absurd h9 (by decide))
        refine lv_goto (tgt := 2720) hx hb dL_law_1344 (by decide) ?_
        refine lv_iinc (v := 7) (lv' := [(5, .int 7), (7, .int r11), (6, .int 1), (4, .ref oD), (3, .ref oJ), (2, .ref k0), (1, .ref h0), (0, .ref b)]) hx hb dL_law_2720 hl (k := 2) rfl (by decide) (Nat.le_of_ble_eq_true rfl) rfl (fun ls hl => ?_)
        refine lv_goto (tgt := 28) hx hb dL_law_2723 (by decide) ?_
        refine lv_iload hx hb dL_law_28 (lv_at hl 0 rfl) ?_
        refine lv_aload_n hx hb dL_law_30 rfl (lv_at hl 7 rfl) ?_
        refine va_slen hx hb hX9 hbl hbA hS dL_law_31 ?_
        refine W.eq (g2 := F0 m 32 ls [.int 7, .int 7]) rfl ?_
        refine lv_bipush (v := 7) hx hb dL_law_32 (by decide) ?_
        refine lv_isub hx hb dL_law_34 ?_
        refine lv_topi (fun y12 ey12 => ?_)
        obtain rfl : y12 = 0 := ey12.trans (by decide)
        refine lv_icmp_gt (tgt := 2726) hx hb dL_law_35 (by decide) (fun _ => ?_) (fun h9 => absurd (by decide) h9)
        refine lv_iconst (v := 1) hx hb dL_law_2726 (by decide) ?_
        refine va_forget (fun q hq => hAe _ (hS.2.2 q hq)) ?_
        refine W.widen (k := 600006) (n := 7302048) (Nat.le_of_ble_eq_true rfl) (Nat.le_of_ble_eq_true rfl) ?_
        exact W.base (lw_ret (d0 := s.drawn) (Drawn.sameBut.refl _ _) hx hb hr hlk dL_law_2727)
      · skip
        exact absurd hg9 ((fun h9 => h9 (hf5)))
    · skip
      have hf13 := hf9
      refine lv_istore (lv' := [(6, .int 2), (5, .int 0), (4, .ref oD), (3, .ref oJ), (2, .ref k0), (1, .ref h0), (0, .ref b)]) hx hb dL_law_1290 hl (Nat.le_of_ble_eq_true rfl) rfl (fun ls hl => ?_)
      refine lv_aload_n hx hb dL_law_1292 rfl (lv_at hl 4 rfl) ?_
      refine lv_aload_n hx hb dL_law_1293 rfl (lv_at hl 6 rfl) ?_
      refine lv_iload hx hb dL_law_1294 (lv_at hl 1 rfl) ?_
      refine lv_iconst (v := 1) hx hb dL_law_1296 (by decide) ?_
      refine lv_iadd hx hb dL_law_1297 ?_
      refine lv_topi (fun y14 ey14 => ?_)
      obtain rfl : y14 = 1 := ey14.trans (by decide)
      refine va_sld hx hb hX9 hbl hbA hS (show ¬ (_ ∨ _) by decide) dL_law_1298 ?_
      refine W.eq (g2 := F0 m 1299 ls [.int (xs 1), .ref k0]) rfl ?_
      refine lv_aload_n hx hb dL_law_1299 rfl (lv_at hl 6 rfl) ?_
      refine lv_iload hx hb dL_law_1300 (lv_at hl 1 rfl) ?_
      refine lv_iconst (v := 2) hx hb dL_law_1302 (by decide) ?_
      refine lv_iadd hx hb dL_law_1303 ?_
      refine lv_topi (fun y15 ey15 => ?_)
      obtain rfl : y15 = 2 := ey15.trans (by decide)
      refine va_sld hx hb hX9 hbl hbA hS (show ¬ (_ ∨ _) by decide) dL_law_1304 ?_
      refine W.eq (g2 := F0 m 1305 ls [.int (xs 2), .int (xs 1), .ref k0]) rfl ?_
      refine lv_aload_n hx hb dL_law_1305 rfl (lv_at hl 6 rfl) ?_
      refine lv_iload hx hb dL_law_1306 (lv_at hl 1 rfl) ?_
      refine lv_iconst (v := 3) hx hb dL_law_1308 (by decide) ?_
      refine lv_iadd hx hb dL_law_1309 ?_
      refine lv_topi (fun y16 ey16 => ?_)
      obtain rfl : y16 = 3 := ey16.trans (by decide)
      refine va_sld hx hb hX9 hbl hbA hS (show ¬ (_ ∨ _) by decide) dL_law_1310 ?_
      refine W.eq (g2 := F0 m 1311 ls [.int (xs 3), .int (xs 2), .int (xs 1), .ref k0]) rfl ?_
      have hPc := hP.sub (ws' := [(k0, .inr (9, [.ref kN, .ref kA, .ref kO, .ref kK, .ref kV, .ref kG, .ref kP, .ref kC, .ref kD, .ref kE, .ref kF, .ref kX, .ref kY, .int 0, .ref kT, .ref kU, .int 0, .int 0, .int 0])), (kN, .inl (cI, 2, .inl (fun _ => 0))), (kA, .inl (cI, 2, .inl (fun _ => 0)))]) [0, 1, 2] rfl
      have hDc := hD.sub (ws' := [(k0, .inr (9, [.ref kN, .ref kA, .ref kO, .ref kK, .ref kV, .ref kG, .ref kP, .ref kC, .ref kD, .ref kE, .ref kF, .ref kX, .ref kY, .int 0, .ref kT, .ref kU, .int 0, .int 0, .int 0])), (kN, .inl (cI, 2, .inl (fun _ => 0))), (kA, .inl (cI, 2, .inl (fun _ => 0)))]) [0, 1, 2] (by decide) rfl
      have hKc := hK.sub (tys' := [(cI, .int)]) [0] rfl
      have hFc := va_free (wc := [(k0, .inr (9, [.ref kN, .ref kA, .ref kO, .ref kK, .ref kV, .ref kG, .ref kP, .ref kC, .ref kD, .ref kE, .ref kF, .ref kX, .ref kY, .int 0, .ref kT, .ref kU, .int 0, .int 0, .int 0])), (kN, .inl (cI, 2, .inl (fun _ => 0))), (kA, .inl (cI, 2, .inl (fun _ => 0)))]) hD hS hA [0, 1, 2] rfl
      refine va_calli (va_runV (As := [.int (xs 1), .int (xs 2), .int (xs 3)]) (rest := []) ⟨hx, hb, hml, hown, hts⟩ (kX6_netOf l dC dI k0 kN kA kO kK kV kG kP kC kD kE kF kX kY kT kU cI (xs 1) (xs 2) (xs 3) H.size) (cwV 3 hts gL_law_X6_netOf rfl rfl rfl (by decide +kernel) ⟨Nat.le_of_ble_eq_true rfl, Nat.le_of_ble_eq_true rfl⟩) (fPreV hN hZ hS (fun q h => hFc q h) hPc hKc hDc (ci := 9) (q0 := 0) rfl rfl) rfl rfl hl.1 rfl (lv_room (Nat.le_of_ble_eq_true rfl)) dL_law_1311 ⟨Nat.le_of_ble_eq_true rfl, Nat.le_of_ble_eq_true rfl⟩) hS (fun q _ h => hFc q h) hFc (fun r u t H1 locs ht hvm hw hB hz1 hk1 hS => ?_)
      obtain ⟨hP1, hK1, hD1⟩ := hB
      rw [ht] at hP1
      have hK1 := va_K.moved hvm.symm hK1
      obtain ⟨u17, rfl⟩ : ∃ z, z = u := ⟨_, rfl⟩
      obtain ⟨hP, hD⟩ := va_join (wr := [(oJ, .inl (cJ, 1, .inr (.inl u4)))]) (w1 := [(k0, .inr (9, [.ref kN, .ref kA, .ref kO, .ref kK, .ref kV, .ref kG, .ref kP, .ref kC, .ref kD, .ref kE, .ref kF, .ref kX, .ref kY, .int 0, .ref kT, .ref kU, .int u17, .int 0, .int 0]))]) hP hD [0, 1, 2] [3] rfl rfl (by decide) (by decide) hk1 hFc hP1 hD1
      generalize H1 = H at hP hS ⊢
      have hP : va_P (dC, dI) vwCl [(oJ, .inl (cJ, 1, .inr (.inl u4))), (k0, .inr (9, [.ref kN, .ref kA, .ref kO, .ref kK, .ref kV, .ref kG, .ref kP, .ref kC, .ref kD, .ref kE, .ref kF, .ref kX, .ref kY, .int 0, .ref kT, .ref kU, .int u17, .int 0, .int 0]))] _ := hP
      have hD : va_D A [(oJ, .inl (cJ, 1, .inr (.inl u4))), (k0, .inr (9, [.ref kN, .ref kA, .ref kO, .ref kK, .ref kV, .ref kG, .ref kP, .ref kC, .ref kD, .ref kE, .ref kF, .ref kX, .ref kY, .int 0, .ref kT, .ref kU, .int u17, .int 0, .int 0]))] := hD
      obtain ⟨r18, rfl⟩ : ∃ z, z = r := ⟨_, rfl⟩
      rcases hw with ⟨rfl, hg9⟩ | ⟨rfl, hg9⟩
      · skip
        exact absurd hg9 (hf13)
      · skip
        have hP : va_P (dC, dI) vwCl [(oJ, .inl (cJ, 1, .inr (.inl u4))), (k0, .inr (9, [.ref kN, .ref kA, .ref kO, .ref kK, .ref kV, .ref kG, .ref kP, .ref kC, .ref kD, .ref kE, .ref kF, .ref kX, .ref kY, .int 0, .ref kT, .ref kU, .int 2, .int 0, .int 0]))] _ := hP
        have hD : va_D A [(oJ, .inl (cJ, 1, .inr (.inl u4))), (k0, .inr (9, [.ref kN, .ref kA, .ref kO, .ref kK, .ref kV, .ref kG, .ref kP, .ref kC, .ref kD, .ref kE, .ref kF, .ref kX, .ref kY, .int 0, .ref kT, .ref kU, .int 2, .int 0, .int 0]))] := hD
        refine lv_istore (lv' := [(7, .int r18), (6, .int 2), (5, .int 0), (4, .ref oD), (3, .ref oJ), (2, .ref k0), (1, .ref h0), (0, .ref b)]) hx hb dL_law_1314 hl (Nat.le_of_ble_eq_true rfl) rfl (fun ls hl => ?_)
        refine lv_aload_n hx hb dL_law_1316 rfl (lv_at hl 5 rfl) ?_
        have hPc := hP.sub (ws' := [(k0, .inr (9, [.ref kN, .ref kA, .ref kO, .ref kK, .ref kV, .ref kG, .ref kP, .ref kC, .ref kD, .ref kE, .ref kF, .ref kX, .ref kY, .int 0, .ref kT, .ref kU, .int 2, .int 0, .int 0]))]) [1] rfl
        have hDc := hD.sub (ws' := [(k0, .inr (9, [.ref kN, .ref kA, .ref kO, .ref kK, .ref kV, .ref kG, .ref kP, .ref kC, .ref kD, .ref kE, .ref kF, .ref kX, .ref kY, .int 0, .ref kT, .ref kU, .int 2, .int 0, .int 0]))]) [1] (by decide) rfl
        have hKc := hK.sub (tys' := []) [] rfl
        have hFc := va_free (wc := [(k0, .inr (9, [.ref kN, .ref kA, .ref kO, .ref kK, .ref kV, .ref kG, .ref kP, .ref kC, .ref kD, .ref kE, .ref kF, .ref kX, .ref kY, .int 0, .ref kT, .ref kU, .int 2, .int 0, .int 0]))]) hD hS hA [1] rfl
        refine va_calli (va_runV (As := []) (rest := []) ⟨hx, hb, hml, hown, hts⟩ (kX6_thrown l dC dI k0 kN kA kO kK kV kG kP kC kD kE kF kX kY kT kU 2 H.size) (cwV 0 hts gL_law_X6_thrown rfl rfl rfl (by decide +kernel) ⟨Nat.le_of_ble_eq_true rfl, Nat.le_of_ble_eq_true rfl⟩) (fPreV hN hZ hS (fun q h => hFc q h) hPc hKc hDc (ci := 9) (q0 := 0) rfl rfl) rfl rfl hl.1 rfl (lv_room (Nat.le_of_ble_eq_true rfl)) dL_law_1317 ⟨Nat.le_of_ble_eq_true rfl, Nat.le_of_ble_eq_true rfl⟩) hS (fun q _ h => hFc q h) hFc (fun r u t H1 locs ht hvm hw hB hz1 hk1 hS => ?_)
        obtain ⟨hP1, hK1, hD1⟩ := hB
        rw [ht] at hP1
        have hK1 := va_K.moved hvm.symm hK1
        obtain ⟨hP, hD⟩ := va_join (wr := [(oJ, .inl (cJ, 1, .inr (.inl u4)))]) (w1 := []) hP hD [1] [0] rfl rfl (by decide) (by decide) hk1 hFc hP1 hD1
        generalize H1 = H at hP hS ⊢
        have hP : va_P (dC, dI) vwCl [(oJ, .inl (cJ, 1, .inr (.inl u4)))] _ := hP
        have hD : va_D A [(oJ, .inl (cJ, 1, .inr (.inl u4)))] := hD
        subst hw
        refine lv_iload hx hb dL_law_1320 (lv_at hl 1 rfl) ?_
        refine lv_icmp_eq (tgt := 1327) hx hb dL_law_1322 (by decide) (fun _ => ?_) (fun h9 => absurd (by decide) h9)
        refine lv_iload hx hb dL_law_1327 (lv_at hl 1 rfl) ?_
        refine lv_if_ne (tgt := 1344) hx hb dL_law_1329 (by decide) (fun _ => ?_) (fun h9 => absurd h9 (by decide))
        refine lv_goto (tgt := 2720) hx hb dL_law_1344 (by decide) ?_
        refine lv_iinc (v := 7) (lv' := [(5, .int 7), (7, .int r18), (6, .int 2), (4, .ref oD), (3, .ref oJ), (2, .ref k0), (1, .ref h0), (0, .ref b)]) hx hb dL_law_2720 hl (k := 2) rfl (by decide) (Nat.le_of_ble_eq_true rfl) rfl (fun ls hl => ?_)
        refine lv_goto (tgt := 28) hx hb dL_law_2723 (by decide) ?_
        refine lv_iload hx hb dL_law_28 (lv_at hl 0 rfl) ?_
        refine lv_aload_n hx hb dL_law_30 rfl (lv_at hl 7 rfl) ?_
        refine va_slen hx hb hX9 hbl hbA hS dL_law_31 ?_
        refine W.eq (g2 := F0 m 32 ls [.int 7, .int 7]) rfl ?_
        refine lv_bipush (v := 7) hx hb dL_law_32 (by decide) ?_
        refine lv_isub hx hb dL_law_34 ?_
        refine lv_topi (fun y19 ey19 => ?_)
        obtain rfl : y19 = 0 := ey19.trans (by decide)
        refine lv_icmp_gt (tgt := 2726) hx hb dL_law_35 (by decide) (fun _ => ?_) (fun h9 => absurd (by decide) h9)
        refine lv_iconst (v := 1) hx hb dL_law_2726 (by decide) ?_
        refine va_forget (fun q hq => hAe _ (hS.2.2 q hq)) ?_
        refine W.widen (k := 600006) (n := 7302048) (Nat.le_of_ble_eq_true rfl) (Nat.le_of_ble_eq_true rfl) ?_
        exact W.base (lw_ret (d0 := s.drawn) (Drawn.sameBut.refl _ _) hx hb hr hlk dL_law_2727)

set_option maxHeartbeats 4000000 in
set_option maxRecDepth 100000 in
/-- case 16 of the law: pinsOn, on fresh objects -/
theorem lc_16 {p : Program} {e : Env} {s : State} {m : MethodId} {below : List Frame} {meth : Method} {c : Code} (l : Launch) (hfl : l.stackTraces = false) {b : Nat} {xs : Nat → Int32} (hx : p.tables.exec = Jvm.exec) (hb : c.code = cL_law) (hr : meth.sig.returnType = ret) (hml : c.maxLocals = 9) (hown : s.vm.findClass RL = some m.cls) (hts : ∀ w ∈ wsL_law, w.before #[Value.ref b] s = true) (hlk : meth.locks = false) (A : Nat → Prop) (hAe : ∀ q, A q → s.heap.size ≤ q) (hA : ∀ q : Nat, s.heap.size ≤ q → A q) (hX9 : va_X b 7 xs s s.heap) (hbl : b < s.heap.size) (hN : fN s) (hZ : fZ A s s.heap) (hX : fX s) (dC : Nat → ClassId) (dI : Nat → Nat → Nat) (h0 pr w d on op un wL wK wV wN wS wB dL dK dV dN dS dB ma tm k0 kN kA kO kK kV kG kP kC kD kE kF kX kY kT kU oJ oD : Nat) (cI cJ : ClassId) {H : Heap} {locs : List Loc} {ls : Array Slot} (hK : va_K (dC, dI) vwCl [(cI, .int), (cJ, .long)] s) (hP : va_P (dC, dI) vwCl [(h0, .inr (8, [.ref pr, .ref ma, .ref tm])), (pr, .inr (7, [.ref w, .ref d, .ref on, .ref op, .ref un, .int 0, .int 0])), (w, .inr (3, [.int 0, .int 0, .ref wL, .ref wK, .ref wV, .ref wN, .ref wS, .ref wB, .int 0])), (d, .inr (3, [.int 0, .int 0, .ref dL, .ref dK, .ref dV, .ref dN, .ref dS, .ref dB, .int 0])), (k0, .inr (9, [.ref kN, .ref kA, .ref kO, .ref kK, .ref kV, .ref kG, .ref kP, .ref kC, .ref kD, .ref kE, .ref kF, .ref kX, .ref kY, .int 0, .ref kT, .ref kU, .int 0, .int 0, .int 0])), (kN, .inl (cI, 2, .inl (fun _ => 0))), (kA, .inl (cI, 2, .inl (fun _ => 0))), (oJ, .inl (cJ, 1, .inr (.inl (fun _ => 0))))] H) (hD : va_D A [(h0, .inr (8, [.ref pr, .ref ma, .ref tm])), (pr, .inr (7, [.ref w, .ref d, .ref on, .ref op, .ref un, .int 0, .int 0])), (w, .inr (3, [.int 0, .int 0, .ref wL, .ref wK, .ref wV, .ref wN, .ref wS, .ref wB, .int 0])), (d, .inr (3, [.int 0, .int 0, .ref dL, .ref dK, .ref dV, .ref dN, .ref dS, .ref dB, .int 0])), (k0, .inr (9, [.ref kN, .ref kA, .ref kO, .ref kK, .ref kV, .ref kG, .ref kP, .ref kC, .ref kD, .ref kE, .ref kF, .ref kX, .ref kY, .int 0, .ref kT, .ref kU, .int 0, .int 0, .int 0])), (kN, .inl (cI, 2, .inl (fun _ => 0))), (kA, .inl (cI, 2, .inl (fun _ => 0))), (oJ, .inl (cJ, 1, .inr (.inl (fun _ => 0))))]) (hS : va_S A s.heap H locs) (hl : lv_has ls 9 [(5, .int 0), (4, .ref oD), (3, .ref oJ), (2, .ref k0), (1, .ref h0), (0, .ref b)]) : W p l e room_1 s m #[Value.ref b] below meth c H locs 114 2061 (lw_Z below #[Value.ref b] s) (F0 m 1347 ls []) := by
  have hbA : ¬ A b := fun h => Nat.not_le.mpr hbl (hAe _ h)
  have hX0 := hX
  refine lv_aload_n hx hb dL_law_1347 rfl (lv_at hl 4 rfl) ?_
  refine lv_aload_n hx hb dL_law_1348 rfl (lv_at hl 5 rfl) ?_
  refine lv_iload hx hb dL_law_1349 (lv_at hl 0 rfl) ?_
  refine lv_iconst (v := 1) hx hb dL_law_1351 (by decide) ?_
  refine lv_iadd hx hb dL_law_1352 ?_
  refine lv_topi (fun y1 ey1 => ?_)
  obtain rfl : y1 = 1 := ey1.trans (by decide)
  refine va_sld hx hb hX9 hbl hbA hS (show ¬ (_ ∨ _) by decide) dL_law_1353 ?_
  refine W.eq (g2 := F0 m 1354 ls [.int (xs 1), .ref h0]) rfl ?_
  refine lv_aload_n hx hb dL_law_1354 rfl (lv_at hl 5 rfl) ?_
  refine lv_iload hx hb dL_law_1355 (lv_at hl 0 rfl) ?_
  refine lv_iconst (v := 2) hx hb dL_law_1357 (by decide) ?_
  refine lv_iadd hx hb dL_law_1358 ?_
  refine lv_topi (fun y2 ey2 => ?_)
  obtain rfl : y2 = 2 := ey2.trans (by decide)
  refine va_sld hx hb hX9 hbl hbA hS (show ¬ (_ ∨ _) by decide) dL_law_1359 ?_
  refine W.eq (g2 := F0 m 1360 ls [.int (xs 2), .int (xs 1), .ref h0]) rfl ?_
  refine lv_aload_n hx hb dL_law_1360 rfl (lv_at hl 2 rfl) ?_
  have hPc := hP.sub (ws' := [(h0, .inr (8, [.ref pr, .ref ma, .ref tm])), (pr, .inr (7, [.ref w, .ref d, .ref on, .ref op, .ref un, .int 0, .int 0])), (w, .inr (3, [.int 0, .int 0, .ref wL, .ref wK, .ref wV, .ref wN, .ref wS, .ref wB, .int 0])), (d, .inr (3, [.int 0, .int 0, .ref dL, .ref dK, .ref dV, .ref dN, .ref dS, .ref dB, .int 0])), (oJ, .inl (cJ, 1, .inr (.inl (fun _ => 0))))]) [0, 1, 2, 3, 7] rfl
  have hDc := hD.sub (ws' := [(h0, .inr (8, [.ref pr, .ref ma, .ref tm])), (pr, .inr (7, [.ref w, .ref d, .ref on, .ref op, .ref un, .int 0, .int 0])), (w, .inr (3, [.int 0, .int 0, .ref wL, .ref wK, .ref wV, .ref wN, .ref wS, .ref wB, .int 0])), (d, .inr (3, [.int 0, .int 0, .ref dL, .ref dK, .ref dV, .ref dN, .ref dS, .ref dB, .int 0])), (oJ, .inl (cJ, 1, .inr (.inl (fun _ => 0))))]) [0, 1, 2, 3, 7] (by decide) rfl
  have hKc := hK.sub (tys' := [(cJ, .long)]) [1] rfl
  have hFc := va_free (wc := [(h0, .inr (8, [.ref pr, .ref ma, .ref tm])), (pr, .inr (7, [.ref w, .ref d, .ref on, .ref op, .ref un, .int 0, .int 0])), (w, .inr (3, [.int 0, .int 0, .ref wL, .ref wK, .ref wV, .ref wN, .ref wS, .ref wB, .int 0])), (d, .inr (3, [.int 0, .int 0, .ref dL, .ref dK, .ref dV, .ref dN, .ref dS, .ref dB, .int 0])), (oJ, .inl (cJ, 1, .inr (.inl (fun _ => 0))))]) hD hS hA [0, 1, 2, 3, 7] rfl
  refine vx_calli (vx_runSX (As := [.ref h0, .int (xs 1), .int (xs 2), .ref oJ]) (rest := []) ⟨hx, hb, hml, hown, hts⟩ (kL_pinsOn l hfl dC dI h0 pr ma tm w d on op un wL wK wV wN wS wB dL dK dV dN dS dB oJ cJ (xs 1) (xs 2) H.size) (vx_cwSW 4 hts gL_law_L_pinsOn rfl rfl rfl (by decide +kernel) ⟨Nat.le_of_ble_eq_true rfl, Nat.le_of_ble_eq_true rfl⟩) (gPreS hX hN hZ hS (fun q h => hFc q h) hPc hKc hDc) rfl rfl hl.1 rfl (lv_room (Nat.le_of_ble_eq_true rfl)) dL_law_1361 ⟨Nat.le_of_ble_eq_true rfl, Nat.le_of_ble_eq_true rfl⟩) hS (fun q _ h => hFc q h) hFc (fun q _ h => hFc q h) (fun E ce q9 u t H locs ht hvm hpx hE hz1 hk1 hS hq9 hv9 hc9 => ?_) (fun r u t H1 locs ht hvm hw hB hz1 hk1 hS => ?_)
  · skip
    exact hE.elim
  · skip
    obtain ⟨hP1, hK1, hD1⟩ := hB
    rw [ht] at hP1
    have hK1 := va_K.moved hvm.symm hK1
    obtain ⟨u3, rfl⟩ : ∃ z, z = u := ⟨_, rfl⟩
    obtain ⟨hP, hD⟩ := va_join (wr := [(k0, .inr (9, [.ref kN, .ref kA, .ref kO, .ref kK, .ref kV, .ref kG, .ref kP, .ref kC, .ref kD, .ref kE, .ref kF, .ref kX, .ref kY, .int 0, .ref kT, .ref kU, .int 0, .int 0, .int 0])), (kN, .inl (cI, 2, .inl (fun _ => 0))), (kA, .inl (cI, 2, .inl (fun _ => 0)))]) (w1 := [(oJ, .inl (cJ, 1, .inr (.inl u3)))]) hP hD [0, 1, 2, 3, 7] [4, 5, 6] rfl rfl (by decide) (by decide) hk1 hFc hP1 hD1
    generalize H1 = H at hP hS ⊢
    have hP : va_P (dC, dI) vwCl [(k0, .inr (9, [.ref kN, .ref kA, .ref kO, .ref kK, .ref kV, .ref kG, .ref kP, .ref kC, .ref kD, .ref kE, .ref kF, .ref kX, .ref kY, .int 0, .ref kT, .ref kU, .int 0, .int 0, .int 0])), (kN, .inl (cI, 2, .inl (fun _ => 0))), (kA, .inl (cI, 2, .inl (fun _ => 0))), (oJ, .inl (cJ, 1, .inr (.inl u3)))] _ := hP
    have hD : va_D A [(k0, .inr (9, [.ref kN, .ref kA, .ref kO, .ref kK, .ref kV, .ref kG, .ref kP, .ref kC, .ref kD, .ref kE, .ref kF, .ref kX, .ref kY, .int 0, .ref kT, .ref kU, .int 0, .int 0, .int 0])), (kN, .inl (cI, 2, .inl (fun _ => 0))), (kA, .inl (cI, 2, .inl (fun _ => 0))), (oJ, .inl (cJ, 1, .inr (.inl u3)))] := hD
    refine W.widen (k := 116) (n := 2073) (Nat.le_of_ble_eq_true rfl) (Nat.le_of_ble_eq_true rfl) ?_
    rcases hw with ⟨rfl, hf9⟩ | ⟨rfl, hf9⟩
    · skip
      have hf4 := hf9
      refine lv_istore (lv' := [(6, .int 1), (5, .int 0), (4, .ref oD), (3, .ref oJ), (2, .ref k0), (1, .ref h0), (0, .ref b)]) hx hb dL_law_1364 hl (Nat.le_of_ble_eq_true rfl) rfl (fun ls hl => ?_)
      refine lv_aload_n hx hb dL_law_1366 rfl (lv_at hl 4 rfl) ?_
      refine lv_aload_n hx hb dL_law_1367 rfl (lv_at hl 6 rfl) ?_
      refine lv_iload hx hb dL_law_1368 (lv_at hl 1 rfl) ?_
      refine lv_iconst (v := 1) hx hb dL_law_1370 (by decide) ?_
      refine lv_iadd hx hb dL_law_1371 ?_
      refine lv_topi (fun y5 ey5 => ?_)
      obtain rfl : y5 = 1 := ey5.trans (by decide)
      refine va_sld hx hb hX9 hbl hbA hS (show ¬ (_ ∨ _) by decide) dL_law_1372 ?_
      refine W.eq (g2 := F0 m 1373 ls [.int (xs 1), .ref k0]) rfl ?_
      refine lv_aload_n hx hb dL_law_1373 rfl (lv_at hl 6 rfl) ?_
      refine lv_iload hx hb dL_law_1374 (lv_at hl 1 rfl) ?_
      refine lv_iconst (v := 2) hx hb dL_law_1376 (by decide) ?_
      refine lv_iadd hx hb dL_law_1377 ?_
      refine lv_topi (fun y6 ey6 => ?_)
      obtain rfl : y6 = 2 := ey6.trans (by decide)
      refine va_sld hx hb hX9 hbl hbA hS (show ¬ (_ ∨ _) by decide) dL_law_1378 ?_
      refine W.eq (g2 := F0 m 1379 ls [.int (xs 2), .int (xs 1), .ref k0]) rfl ?_
      have hPc := hP.sub (ws' := [(k0, .inr (9, [.ref kN, .ref kA, .ref kO, .ref kK, .ref kV, .ref kG, .ref kP, .ref kC, .ref kD, .ref kE, .ref kF, .ref kX, .ref kY, .int 0, .ref kT, .ref kU, .int 0, .int 0, .int 0])), (kN, .inl (cI, 2, .inl (fun _ => 0))), (kA, .inl (cI, 2, .inl (fun _ => 0)))]) [0, 1, 2] rfl
      have hDc := hD.sub (ws' := [(k0, .inr (9, [.ref kN, .ref kA, .ref kO, .ref kK, .ref kV, .ref kG, .ref kP, .ref kC, .ref kD, .ref kE, .ref kF, .ref kX, .ref kY, .int 0, .ref kT, .ref kU, .int 0, .int 0, .int 0])), (kN, .inl (cI, 2, .inl (fun _ => 0))), (kA, .inl (cI, 2, .inl (fun _ => 0)))]) [0, 1, 2] (by decide) rfl
      have hKc := hK.sub (tys' := [(cI, .int)]) [0] rfl
      have hFc := va_free (wc := [(k0, .inr (9, [.ref kN, .ref kA, .ref kO, .ref kK, .ref kV, .ref kG, .ref kP, .ref kC, .ref kD, .ref kE, .ref kF, .ref kX, .ref kY, .int 0, .ref kT, .ref kU, .int 0, .int 0, .int 0])), (kN, .inl (cI, 2, .inl (fun _ => 0))), (kA, .inl (cI, 2, .inl (fun _ => 0)))]) hD hS hA [0, 1, 2] rfl
      refine va_calli (va_runV (As := [.int (xs 1), .int (xs 2)]) (rest := []) ⟨hx, hb, hml, hown, hts⟩ (kX6_pinsOn l dC dI k0 kN kA kO kK kV kG kP kC kD kE kF kX kY kT kU cI (xs 1) (xs 2) H.size) (cwV 2 hts gL_law_X6_pinsOn rfl rfl rfl (by decide +kernel) ⟨Nat.le_of_ble_eq_true rfl, Nat.le_of_ble_eq_true rfl⟩) (fPreV hN hZ hS (fun q h => hFc q h) hPc hKc hDc (ci := 9) (q0 := 0) rfl rfl) rfl rfl hl.1 rfl (lv_room (Nat.le_of_ble_eq_true rfl)) dL_law_1379 ⟨Nat.le_of_ble_eq_true rfl, Nat.le_of_ble_eq_true rfl⟩) hS (fun q _ h => hFc q h) hFc (fun r u t H1 locs ht hvm hw hB hz1 hk1 hS => ?_)
      obtain ⟨hP1, hK1, hD1⟩ := hB
      rw [ht] at hP1
      have hK1 := va_K.moved hvm.symm hK1
      obtain ⟨u7, rfl⟩ : ∃ z, z = u := ⟨_, rfl⟩
      obtain ⟨hP, hD⟩ := va_join (wr := [(oJ, .inl (cJ, 1, .inr (.inl u3)))]) (w1 := [(k0, .inr (9, [.ref kN, .ref kA, .ref kO, .ref kK, .ref kV, .ref kG, .ref kP, .ref kC, .ref kD, .ref kE, .ref kF, .ref kX, .ref kY, .int 0, .ref kT, .ref kU, .int u7, .int 0, .int 0]))]) hP hD [0, 1, 2] [3] rfl rfl (by decide) (by decide) hk1 hFc hP1 hD1
      generalize H1 = H at hP hS ⊢
      have hP : va_P (dC, dI) vwCl [(oJ, .inl (cJ, 1, .inr (.inl u3))), (k0, .inr (9, [.ref kN, .ref kA, .ref kO, .ref kK, .ref kV, .ref kG, .ref kP, .ref kC, .ref kD, .ref kE, .ref kF, .ref kX, .ref kY, .int 0, .ref kT, .ref kU, .int u7, .int 0, .int 0]))] _ := hP
      have hD : va_D A [(oJ, .inl (cJ, 1, .inr (.inl u3))), (k0, .inr (9, [.ref kN, .ref kA, .ref kO, .ref kK, .ref kV, .ref kG, .ref kP, .ref kC, .ref kD, .ref kE, .ref kF, .ref kX, .ref kY, .int 0, .ref kT, .ref kU, .int u7, .int 0, .int 0]))] := hD
      obtain ⟨r8, rfl⟩ : ∃ z, z = r := ⟨_, rfl⟩
      rcases hw with ⟨rfl, hg9⟩ | ⟨rfl, hg9⟩
      · skip
        have hP : va_P (dC, dI) vwCl [(oJ, .inl (cJ, 1, .inr (.inl u3))), (k0, .inr (9, [.ref kN, .ref kA, .ref kO, .ref kK, .ref kV, .ref kG, .ref kP, .ref kC, .ref kD, .ref kE, .ref kF, .ref kX, .ref kY, .int 0, .ref kT, .ref kU, .int 1, .int 0, .int 0]))] _ := hP
        have hD : va_D A [(oJ, .inl (cJ, 1, .inr (.inl u3))), (k0, .inr (9, [.ref kN, .ref kA, .ref kO, .ref kK, .ref kV, .ref kG, .ref kP, .ref kC, .ref kD, .ref kE, .ref kF, .ref kX, .ref kY, .int 0, .ref kT, .ref kU, .int 1, .int 0, .int 0]))] := hD
        refine lv_istore (lv' := [(7, .int r8), (6, .int 1), (5, .int 0), (4, .ref oD), (3, .ref oJ), (2, .ref k0), (1, .ref h0), (0, .ref b)]) hx hb dL_law_1382 hl (Nat.le_of_ble_eq_true rfl) rfl (fun ls hl => ?_)
        refine lv_aload_n hx hb dL_law_1384 rfl (lv_at hl 5 rfl) ?_
        have hPc := hP.sub (ws' := [(k0, .inr (9, [.ref kN, .ref kA, .ref kO, .ref kK, .ref kV, .ref kG, .ref kP, .ref kC, .ref kD, .ref kE, .ref kF, .ref kX, .ref kY, .int 0, .ref kT, .ref kU, .int 1, .int 0, .int 0]))]) [1] rfl
        have hDc := hD.sub (ws' := [(k0, .inr (9, [.ref kN, .ref kA, .ref kO, .ref kK, .ref kV, .ref kG, .ref kP, .ref kC, .ref kD, .ref kE, .ref kF, .ref kX, .ref kY, .int 0, .ref kT, .ref kU, .int 1, .int 0, .int 0]))]) [1] (by decide) rfl
        have hKc := hK.sub (tys' := []) [] rfl
        have hFc := va_free (wc := [(k0, .inr (9, [.ref kN, .ref kA, .ref kO, .ref kK, .ref kV, .ref kG, .ref kP, .ref kC, .ref kD, .ref kE, .ref kF, .ref kX, .ref kY, .int 0, .ref kT, .ref kU, .int 1, .int 0, .int 0]))]) hD hS hA [1] rfl
        refine va_calli (va_runV (As := []) (rest := []) ⟨hx, hb, hml, hown, hts⟩ (kX6_thrown l dC dI k0 kN kA kO kK kV kG kP kC kD kE kF kX kY kT kU 1 H.size) (cwV 0 hts gL_law_X6_thrown rfl rfl rfl (by decide +kernel) ⟨Nat.le_of_ble_eq_true rfl, Nat.le_of_ble_eq_true rfl⟩) (fPreV hN hZ hS (fun q h => hFc q h) hPc hKc hDc (ci := 9) (q0 := 0) rfl rfl) rfl rfl hl.1 rfl (lv_room (Nat.le_of_ble_eq_true rfl)) dL_law_1385 ⟨Nat.le_of_ble_eq_true rfl, Nat.le_of_ble_eq_true rfl⟩) hS (fun q _ h => hFc q h) hFc (fun r u t H1 locs ht hvm hw hB hz1 hk1 hS => ?_)
        obtain ⟨hP1, hK1, hD1⟩ := hB
        rw [ht] at hP1
        have hK1 := va_K.moved hvm.symm hK1
        obtain ⟨hP, hD⟩ := va_join (wr := [(oJ, .inl (cJ, 1, .inr (.inl u3)))]) (w1 := []) hP hD [1] [0] rfl rfl (by decide) (by decide) hk1 hFc hP1 hD1
        generalize H1 = H at hP hS ⊢
        have hP : va_P (dC, dI) vwCl [(oJ, .inl (cJ, 1, .inr (.inl u3)))] _ := hP
        have hD : va_D A [(oJ, .inl (cJ, 1, .inr (.inl u3)))] := hD
        subst hw
        refine lv_iload hx hb dL_law_1388 (lv_at hl 1 rfl) ?_
        refine lv_icmp_eq (tgt := 1395) hx hb dL_law_1390 (by decide) (fun _ => ?_) (fun h9 => absurd (by decide) h9)
        refine lv_iload hx hb dL_law_1395 (lv_at hl 1 rfl) ?_
        refine lv_if_ne (tgt := 1412) hx hb dL_law_1397 (by decide) (fun _ => ?_) (fun h9 => absurd h9 (by decide))
        refine lv_goto (tgt := 2720) hx hb dL_law_1412 (by decide) ?_
        refine lv_iinc (v := 7) (lv' := [(5, .int 7), (7, .int r8), (6, .int 1), (4, .ref oD), (3, .ref oJ), (2, .ref k0), (1, .ref h0), (0, .ref b)]) hx hb dL_law_2720 hl (k := 2) rfl (by decide) (Nat.le_of_ble_eq_true rfl) rfl (fun ls hl => ?_)
        refine lv_goto (tgt := 28) hx hb dL_law_2723 (by decide) ?_
        refine lv_iload hx hb dL_law_28 (lv_at hl 0 rfl) ?_
        refine lv_aload_n hx hb dL_law_30 rfl (lv_at hl 7 rfl) ?_
        refine va_slen hx hb hX9 hbl hbA hS dL_law_31 ?_
        refine W.eq (g2 := F0 m 32 ls [.int 7, .int 7]) rfl ?_
        refine lv_bipush (v := 7) hx hb dL_law_32 (by decide) ?_
        refine lv_isub hx hb dL_law_34 ?_
        refine lv_topi (fun y10 ey10 => ?_)
        obtain rfl : y10 = 0 := ey10.trans (by decide)
        refine lv_icmp_gt (tgt := 2726) hx hb dL_law_35 (by decide) (fun _ => ?_) (fun h9 => absurd (by decide) h9)
        refine lv_iconst (v := 1) hx hb dL_law_2726 (by decide) ?_
        refine va_forget (fun q hq => hAe _ (hS.2.2 q hq)) ?_
        refine W.widen (k := 600006) (n := 7302048) (Nat.le_of_ble_eq_true rfl) (Nat.le_of_ble_eq_true rfl) ?_
        exact W.base (lw_ret (d0 := s.drawn) (Drawn.sameBut.refl _ _) hx hb hr hlk dL_law_2727)
      · skip
        exact absurd hg9 ((fun h9 => h9 (hf4)))
    · skip
      have hf11 := hf9
      refine lv_istore (lv' := [(6, .int 2), (5, .int 0), (4, .ref oD), (3, .ref oJ), (2, .ref k0), (1, .ref h0), (0, .ref b)]) hx hb dL_law_1364 hl (Nat.le_of_ble_eq_true rfl) rfl (fun ls hl => ?_)
      refine lv_aload_n hx hb dL_law_1366 rfl (lv_at hl 4 rfl) ?_
      refine lv_aload_n hx hb dL_law_1367 rfl (lv_at hl 6 rfl) ?_
      refine lv_iload hx hb dL_law_1368 (lv_at hl 1 rfl) ?_
      refine lv_iconst (v := 1) hx hb dL_law_1370 (by decide) ?_
      refine lv_iadd hx hb dL_law_1371 ?_
      refine lv_topi (fun y12 ey12 => ?_)
      obtain rfl : y12 = 1 := ey12.trans (by decide)
      refine va_sld hx hb hX9 hbl hbA hS (show ¬ (_ ∨ _) by decide) dL_law_1372 ?_
      refine W.eq (g2 := F0 m 1373 ls [.int (xs 1), .ref k0]) rfl ?_
      refine lv_aload_n hx hb dL_law_1373 rfl (lv_at hl 6 rfl) ?_
      refine lv_iload hx hb dL_law_1374 (lv_at hl 1 rfl) ?_
      refine lv_iconst (v := 2) hx hb dL_law_1376 (by decide) ?_
      refine lv_iadd hx hb dL_law_1377 ?_
      refine lv_topi (fun y13 ey13 => ?_)
      obtain rfl : y13 = 2 := ey13.trans (by decide)
      refine va_sld hx hb hX9 hbl hbA hS (show ¬ (_ ∨ _) by decide) dL_law_1378 ?_
      refine W.eq (g2 := F0 m 1379 ls [.int (xs 2), .int (xs 1), .ref k0]) rfl ?_
      have hPc := hP.sub (ws' := [(k0, .inr (9, [.ref kN, .ref kA, .ref kO, .ref kK, .ref kV, .ref kG, .ref kP, .ref kC, .ref kD, .ref kE, .ref kF, .ref kX, .ref kY, .int 0, .ref kT, .ref kU, .int 0, .int 0, .int 0])), (kN, .inl (cI, 2, .inl (fun _ => 0))), (kA, .inl (cI, 2, .inl (fun _ => 0)))]) [0, 1, 2] rfl
      have hDc := hD.sub (ws' := [(k0, .inr (9, [.ref kN, .ref kA, .ref kO, .ref kK, .ref kV, .ref kG, .ref kP, .ref kC, .ref kD, .ref kE, .ref kF, .ref kX, .ref kY, .int 0, .ref kT, .ref kU, .int 0, .int 0, .int 0])), (kN, .inl (cI, 2, .inl (fun _ => 0))), (kA, .inl (cI, 2, .inl (fun _ => 0)))]) [0, 1, 2] (by decide) rfl
      have hKc := hK.sub (tys' := [(cI, .int)]) [0] rfl
      have hFc := va_free (wc := [(k0, .inr (9, [.ref kN, .ref kA, .ref kO, .ref kK, .ref kV, .ref kG, .ref kP, .ref kC, .ref kD, .ref kE, .ref kF, .ref kX, .ref kY, .int 0, .ref kT, .ref kU, .int 0, .int 0, .int 0])), (kN, .inl (cI, 2, .inl (fun _ => 0))), (kA, .inl (cI, 2, .inl (fun _ => 0)))]) hD hS hA [0, 1, 2] rfl
      refine va_calli (va_runV (As := [.int (xs 1), .int (xs 2)]) (rest := []) ⟨hx, hb, hml, hown, hts⟩ (kX6_pinsOn l dC dI k0 kN kA kO kK kV kG kP kC kD kE kF kX kY kT kU cI (xs 1) (xs 2) H.size) (cwV 2 hts gL_law_X6_pinsOn rfl rfl rfl (by decide +kernel) ⟨Nat.le_of_ble_eq_true rfl, Nat.le_of_ble_eq_true rfl⟩) (fPreV hN hZ hS (fun q h => hFc q h) hPc hKc hDc (ci := 9) (q0 := 0) rfl rfl) rfl rfl hl.1 rfl (lv_room (Nat.le_of_ble_eq_true rfl)) dL_law_1379 ⟨Nat.le_of_ble_eq_true rfl, Nat.le_of_ble_eq_true rfl⟩) hS (fun q _ h => hFc q h) hFc (fun r u t H1 locs ht hvm hw hB hz1 hk1 hS => ?_)
      obtain ⟨hP1, hK1, hD1⟩ := hB
      rw [ht] at hP1
      have hK1 := va_K.moved hvm.symm hK1
      obtain ⟨u14, rfl⟩ : ∃ z, z = u := ⟨_, rfl⟩
      obtain ⟨hP, hD⟩ := va_join (wr := [(oJ, .inl (cJ, 1, .inr (.inl u3)))]) (w1 := [(k0, .inr (9, [.ref kN, .ref kA, .ref kO, .ref kK, .ref kV, .ref kG, .ref kP, .ref kC, .ref kD, .ref kE, .ref kF, .ref kX, .ref kY, .int 0, .ref kT, .ref kU, .int u14, .int 0, .int 0]))]) hP hD [0, 1, 2] [3] rfl rfl (by decide) (by decide) hk1 hFc hP1 hD1
      generalize H1 = H at hP hS ⊢
      have hP : va_P (dC, dI) vwCl [(oJ, .inl (cJ, 1, .inr (.inl u3))), (k0, .inr (9, [.ref kN, .ref kA, .ref kO, .ref kK, .ref kV, .ref kG, .ref kP, .ref kC, .ref kD, .ref kE, .ref kF, .ref kX, .ref kY, .int 0, .ref kT, .ref kU, .int u14, .int 0, .int 0]))] _ := hP
      have hD : va_D A [(oJ, .inl (cJ, 1, .inr (.inl u3))), (k0, .inr (9, [.ref kN, .ref kA, .ref kO, .ref kK, .ref kV, .ref kG, .ref kP, .ref kC, .ref kD, .ref kE, .ref kF, .ref kX, .ref kY, .int 0, .ref kT, .ref kU, .int u14, .int 0, .int 0]))] := hD
      obtain ⟨r15, rfl⟩ : ∃ z, z = r := ⟨_, rfl⟩
      rcases hw with ⟨rfl, hg9⟩ | ⟨rfl, hg9⟩
      · skip
        exact absurd hg9 (hf11)
      · skip
        have hP : va_P (dC, dI) vwCl [(oJ, .inl (cJ, 1, .inr (.inl u3))), (k0, .inr (9, [.ref kN, .ref kA, .ref kO, .ref kK, .ref kV, .ref kG, .ref kP, .ref kC, .ref kD, .ref kE, .ref kF, .ref kX, .ref kY, .int 0, .ref kT, .ref kU, .int 2, .int 0, .int 0]))] _ := hP
        have hD : va_D A [(oJ, .inl (cJ, 1, .inr (.inl u3))), (k0, .inr (9, [.ref kN, .ref kA, .ref kO, .ref kK, .ref kV, .ref kG, .ref kP, .ref kC, .ref kD, .ref kE, .ref kF, .ref kX, .ref kY, .int 0, .ref kT, .ref kU, .int 2, .int 0, .int 0]))] := hD
        refine lv_istore (lv' := [(7, .int r15), (6, .int 2), (5, .int 0), (4, .ref oD), (3, .ref oJ), (2, .ref k0), (1, .ref h0), (0, .ref b)]) hx hb dL_law_1382 hl (Nat.le_of_ble_eq_true rfl) rfl (fun ls hl => ?_)
        refine lv_aload_n hx hb dL_law_1384 rfl (lv_at hl 5 rfl) ?_
        have hPc := hP.sub (ws' := [(k0, .inr (9, [.ref kN, .ref kA, .ref kO, .ref kK, .ref kV, .ref kG, .ref kP, .ref kC, .ref kD, .ref kE, .ref kF, .ref kX, .ref kY, .int 0, .ref kT, .ref kU, .int 2, .int 0, .int 0]))]) [1] rfl
        have hDc := hD.sub (ws' := [(k0, .inr (9, [.ref kN, .ref kA, .ref kO, .ref kK, .ref kV, .ref kG, .ref kP, .ref kC, .ref kD, .ref kE, .ref kF, .ref kX, .ref kY, .int 0, .ref kT, .ref kU, .int 2, .int 0, .int 0]))]) [1] (by decide) rfl
        have hKc := hK.sub (tys' := []) [] rfl
        have hFc := va_free (wc := [(k0, .inr (9, [.ref kN, .ref kA, .ref kO, .ref kK, .ref kV, .ref kG, .ref kP, .ref kC, .ref kD, .ref kE, .ref kF, .ref kX, .ref kY, .int 0, .ref kT, .ref kU, .int 2, .int 0, .int 0]))]) hD hS hA [1] rfl
        refine va_calli (va_runV (As := []) (rest := []) ⟨hx, hb, hml, hown, hts⟩ (kX6_thrown l dC dI k0 kN kA kO kK kV kG kP kC kD kE kF kX kY kT kU 2 H.size) (cwV 0 hts gL_law_X6_thrown rfl rfl rfl (by decide +kernel) ⟨Nat.le_of_ble_eq_true rfl, Nat.le_of_ble_eq_true rfl⟩) (fPreV hN hZ hS (fun q h => hFc q h) hPc hKc hDc (ci := 9) (q0 := 0) rfl rfl) rfl rfl hl.1 rfl (lv_room (Nat.le_of_ble_eq_true rfl)) dL_law_1385 ⟨Nat.le_of_ble_eq_true rfl, Nat.le_of_ble_eq_true rfl⟩) hS (fun q _ h => hFc q h) hFc (fun r u t H1 locs ht hvm hw hB hz1 hk1 hS => ?_)
        obtain ⟨hP1, hK1, hD1⟩ := hB
        rw [ht] at hP1
        have hK1 := va_K.moved hvm.symm hK1
        obtain ⟨hP, hD⟩ := va_join (wr := [(oJ, .inl (cJ, 1, .inr (.inl u3)))]) (w1 := []) hP hD [1] [0] rfl rfl (by decide) (by decide) hk1 hFc hP1 hD1
        generalize H1 = H at hP hS ⊢
        have hP : va_P (dC, dI) vwCl [(oJ, .inl (cJ, 1, .inr (.inl u3)))] _ := hP
        have hD : va_D A [(oJ, .inl (cJ, 1, .inr (.inl u3)))] := hD
        subst hw
        refine lv_iload hx hb dL_law_1388 (lv_at hl 1 rfl) ?_
        refine lv_icmp_eq (tgt := 1395) hx hb dL_law_1390 (by decide) (fun _ => ?_) (fun h9 => absurd (by decide) h9)
        refine lv_iload hx hb dL_law_1395 (lv_at hl 1 rfl) ?_
        refine lv_if_ne (tgt := 1412) hx hb dL_law_1397 (by decide) (fun _ => ?_) (fun h9 => absurd h9 (by decide))
        refine lv_goto (tgt := 2720) hx hb dL_law_1412 (by decide) ?_
        refine lv_iinc (v := 7) (lv' := [(5, .int 7), (7, .int r15), (6, .int 2), (4, .ref oD), (3, .ref oJ), (2, .ref k0), (1, .ref h0), (0, .ref b)]) hx hb dL_law_2720 hl (k := 2) rfl (by decide) (Nat.le_of_ble_eq_true rfl) rfl (fun ls hl => ?_)
        refine lv_goto (tgt := 28) hx hb dL_law_2723 (by decide) ?_
        refine lv_iload hx hb dL_law_28 (lv_at hl 0 rfl) ?_
        refine lv_aload_n hx hb dL_law_30 rfl (lv_at hl 7 rfl) ?_
        refine va_slen hx hb hX9 hbl hbA hS dL_law_31 ?_
        refine W.eq (g2 := F0 m 32 ls [.int 7, .int 7]) rfl ?_
        refine lv_bipush (v := 7) hx hb dL_law_32 (by decide) ?_
        refine lv_isub hx hb dL_law_34 ?_
        refine lv_topi (fun y16 ey16 => ?_)
        obtain rfl : y16 = 0 := ey16.trans (by decide)
        refine lv_icmp_gt (tgt := 2726) hx hb dL_law_35 (by decide) (fun _ => ?_) (fun h9 => absurd (by decide) h9)
        refine lv_iconst (v := 1) hx hb dL_law_2726 (by decide) ?_
        refine va_forget (fun q hq => hAe _ (hS.2.2 q hq)) ?_
        refine W.widen (k := 600006) (n := 7302048) (Nat.le_of_ble_eq_true rfl) (Nat.le_of_ble_eq_true rfl) ?_
        exact W.base (lw_ret (d0 := s.drawn) (Drawn.sameBut.refl _ _) hx hb hr hlk dL_law_2727)

set_option maxHeartbeats 4000000 in
set_option maxRecDepth 100000 in
/-- case 17 of the law: portOf, on fresh objects -/
theorem lc_17 {p : Program} {e : Env} {s : State} {m : MethodId} {below : List Frame} {meth : Method} {c : Code} (l : Launch) (hfl : l.stackTraces = false) {b : Nat} {xs : Nat → Int32} (hx : p.tables.exec = Jvm.exec) (hb : c.code = cL_law) (hr : meth.sig.returnType = ret) (hml : c.maxLocals = 9) (hown : s.vm.findClass RL = some m.cls) (hts : ∀ w ∈ wsL_law, w.before #[Value.ref b] s = true) (hlk : meth.locks = false) (A : Nat → Prop) (hAe : ∀ q, A q → s.heap.size ≤ q) (hA : ∀ q : Nat, s.heap.size ≤ q → A q) (hX9 : va_X b 7 xs s s.heap) (hbl : b < s.heap.size) (hN : fN s) (hZ : fZ A s s.heap) (hX : fX s) (dC : Nat → ClassId) (dI : Nat → Nat → Nat) (h0 pr w d on op un wL wK wV wN wS wB dL dK dV dN dS dB ma tm k0 kN kA kO kK kV kG kP kC kD kE kF kX kY kT kU oJ oD : Nat) (cI cJ : ClassId) {H : Heap} {locs : List Loc} {ls : Array Slot} (hK : va_K (dC, dI) vwCl [(cI, .int), (cJ, .long)] s) (hP : va_P (dC, dI) vwCl [(h0, .inr (8, [.ref pr, .ref ma, .ref tm])), (pr, .inr (7, [.ref w, .ref d, .ref on, .ref op, .ref un, .int 0, .int 0])), (w, .inr (3, [.int 0, .int 0, .ref wL, .ref wK, .ref wV, .ref wN, .ref wS, .ref wB, .int 0])), (d, .inr (3, [.int 0, .int 0, .ref dL, .ref dK, .ref dV, .ref dN, .ref dS, .ref dB, .int 0])), (k0, .inr (9, [.ref kN, .ref kA, .ref kO, .ref kK, .ref kV, .ref kG, .ref kP, .ref kC, .ref kD, .ref kE, .ref kF, .ref kX, .ref kY, .int 0, .ref kT, .ref kU, .int 0, .int 0, .int 0])), (kN, .inl (cI, 2, .inl (fun _ => 0))), (kA, .inl (cI, 2, .inl (fun _ => 0))), (oJ, .inl (cJ, 1, .inr (.inl (fun _ => 0))))] H) (hD : va_D A [(h0, .inr (8, [.ref pr, .ref ma, .ref tm])), (pr, .inr (7, [.ref w, .ref d, .ref on, .ref op, .ref un, .int 0, .int 0])), (w, .inr (3, [.int 0, .int 0, .ref wL, .ref wK, .ref wV, .ref wN, .ref wS, .ref wB, .int 0])), (d, .inr (3, [.int 0, .int 0, .ref dL, .ref dK, .ref dV, .ref dN, .ref dS, .ref dB, .int 0])), (k0, .inr (9, [.ref kN, .ref kA, .ref kO, .ref kK, .ref kV, .ref kG, .ref kP, .ref kC, .ref kD, .ref kE, .ref kF, .ref kX, .ref kY, .int 0, .ref kT, .ref kU, .int 0, .int 0, .int 0])), (kN, .inl (cI, 2, .inl (fun _ => 0))), (kA, .inl (cI, 2, .inl (fun _ => 0))), (oJ, .inl (cJ, 1, .inr (.inl (fun _ => 0))))]) (hS : va_S A s.heap H locs) (hl : lv_has ls 9 [(5, .int 0), (4, .ref oD), (3, .ref oJ), (2, .ref k0), (1, .ref h0), (0, .ref b)]) : W p l e room_1 s m #[Value.ref b] below meth c H locs 114 2061 (lw_Z below #[Value.ref b] s) (F0 m 1415 ls []) := by
  have hbA : ¬ A b := fun h => Nat.not_le.mpr hbl (hAe _ h)
  have hX0 := hX
  refine lv_aload_n hx hb dL_law_1415 rfl (lv_at hl 4 rfl) ?_
  refine lv_aload_n hx hb dL_law_1416 rfl (lv_at hl 5 rfl) ?_
  refine lv_iload hx hb dL_law_1417 (lv_at hl 0 rfl) ?_
  refine lv_iconst (v := 1) hx hb dL_law_1419 (by decide) ?_
  refine lv_iadd hx hb dL_law_1420 ?_
  refine lv_topi (fun y1 ey1 => ?_)
  obtain rfl : y1 = 1 := ey1.trans (by decide)
  refine va_sld hx hb hX9 hbl hbA hS (show ¬ (_ ∨ _) by decide) dL_law_1421 ?_
  refine W.eq (g2 := F0 m 1422 ls [.int (xs 1), .ref h0]) rfl ?_
  refine lv_aload_n hx hb dL_law_1422 rfl (lv_at hl 5 rfl) ?_
  refine lv_iload hx hb dL_law_1423 (lv_at hl 0 rfl) ?_
  refine lv_iconst (v := 2) hx hb dL_law_1425 (by decide) ?_
  refine lv_iadd hx hb dL_law_1426 ?_
  refine lv_topi (fun y2 ey2 => ?_)
  obtain rfl : y2 = 2 := ey2.trans (by decide)
  refine va_sld hx hb hX9 hbl hbA hS (show ¬ (_ ∨ _) by decide) dL_law_1427 ?_
  refine W.eq (g2 := F0 m 1428 ls [.int (xs 2), .int (xs 1), .ref h0]) rfl ?_
  refine lv_aload_n hx hb dL_law_1428 rfl (lv_at hl 2 rfl) ?_
  have hPc := hP.sub (ws' := [(h0, .inr (8, [.ref pr, .ref ma, .ref tm])), (pr, .inr (7, [.ref w, .ref d, .ref on, .ref op, .ref un, .int 0, .int 0])), (w, .inr (3, [.int 0, .int 0, .ref wL, .ref wK, .ref wV, .ref wN, .ref wS, .ref wB, .int 0])), (d, .inr (3, [.int 0, .int 0, .ref dL, .ref dK, .ref dV, .ref dN, .ref dS, .ref dB, .int 0])), (oJ, .inl (cJ, 1, .inr (.inl (fun _ => 0))))]) [0, 1, 2, 3, 7] rfl
  have hDc := hD.sub (ws' := [(h0, .inr (8, [.ref pr, .ref ma, .ref tm])), (pr, .inr (7, [.ref w, .ref d, .ref on, .ref op, .ref un, .int 0, .int 0])), (w, .inr (3, [.int 0, .int 0, .ref wL, .ref wK, .ref wV, .ref wN, .ref wS, .ref wB, .int 0])), (d, .inr (3, [.int 0, .int 0, .ref dL, .ref dK, .ref dV, .ref dN, .ref dS, .ref dB, .int 0])), (oJ, .inl (cJ, 1, .inr (.inl (fun _ => 0))))]) [0, 1, 2, 3, 7] (by decide) rfl
  have hKc := hK.sub (tys' := [(cJ, .long)]) [1] rfl
  have hFc := va_free (wc := [(h0, .inr (8, [.ref pr, .ref ma, .ref tm])), (pr, .inr (7, [.ref w, .ref d, .ref on, .ref op, .ref un, .int 0, .int 0])), (w, .inr (3, [.int 0, .int 0, .ref wL, .ref wK, .ref wV, .ref wN, .ref wS, .ref wB, .int 0])), (d, .inr (3, [.int 0, .int 0, .ref dL, .ref dK, .ref dV, .ref dN, .ref dS, .ref dB, .int 0])), (oJ, .inl (cJ, 1, .inr (.inl (fun _ => 0))))]) hD hS hA [0, 1, 2, 3, 7] rfl
  refine vx_calli (vx_runSX (As := [.ref h0, .int (xs 1), .int (xs 2), .ref oJ]) (rest := []) ⟨hx, hb, hml, hown, hts⟩ (kL_portOf l hfl dC dI h0 pr ma tm w d on op un wL wK wV wN wS wB dL dK dV dN dS dB oJ cJ (xs 1) (xs 2) H.size) (vx_cwSW 4 hts gL_law_L_portOf rfl rfl rfl (by decide +kernel) ⟨Nat.le_of_ble_eq_true rfl, Nat.le_of_ble_eq_true rfl⟩) (gPreS hX hN hZ hS (fun q h => hFc q h) hPc hKc hDc) rfl rfl hl.1 rfl (lv_room (Nat.le_of_ble_eq_true rfl)) dL_law_1429 ⟨Nat.le_of_ble_eq_true rfl, Nat.le_of_ble_eq_true rfl⟩) hS (fun q _ h => hFc q h) hFc (fun q _ h => hFc q h) (fun E ce q9 u t H locs ht hvm hpx hE hz1 hk1 hS hq9 hv9 hc9 => ?_) (fun r u t H1 locs ht hvm hw hB hz1 hk1 hS => ?_)
  · skip
    exact hE.elim
  · skip
    obtain ⟨hP1, hK1, hD1⟩ := hB
    rw [ht] at hP1
    have hK1 := va_K.moved hvm.symm hK1
    obtain ⟨u3, rfl⟩ : ∃ z, z = u := ⟨_, rfl⟩
    obtain ⟨hP, hD⟩ := va_join (wr := [(k0, .inr (9, [.ref kN, .ref kA, .ref kO, .ref kK, .ref kV, .ref kG, .ref kP, .ref kC, .ref kD, .ref kE, .ref kF, .ref kX, .ref kY, .int 0, .ref kT, .ref kU, .int 0, .int 0, .int 0])), (kN, .inl (cI, 2, .inl (fun _ => 0))), (kA, .inl (cI, 2, .inl (fun _ => 0)))]) (w1 := [(oJ, .inl (cJ, 1, .inr (.inl u3)))]) hP hD [0, 1, 2, 3, 7] [4, 5, 6] rfl rfl (by decide) (by decide) hk1 hFc hP1 hD1
    generalize H1 = H at hP hS ⊢
    have hP : va_P (dC, dI) vwCl [(k0, .inr (9, [.ref kN, .ref kA, .ref kO, .ref kK, .ref kV, .ref kG, .ref kP, .ref kC, .ref kD, .ref kE, .ref kF, .ref kX, .ref kY, .int 0, .ref kT, .ref kU, .int 0, .int 0, .int 0])), (kN, .inl (cI, 2, .inl (fun _ => 0))), (kA, .inl (cI, 2, .inl (fun _ => 0))), (oJ, .inl (cJ, 1, .inr (.inl u3)))] _ := hP
    have hD : va_D A [(k0, .inr (9, [.ref kN, .ref kA, .ref kO, .ref kK, .ref kV, .ref kG, .ref kP, .ref kC, .ref kD, .ref kE, .ref kF, .ref kX, .ref kY, .int 0, .ref kT, .ref kU, .int 0, .int 0, .int 0])), (kN, .inl (cI, 2, .inl (fun _ => 0))), (kA, .inl (cI, 2, .inl (fun _ => 0))), (oJ, .inl (cJ, 1, .inr (.inl u3)))] := hD
    refine W.widen (k := 116) (n := 2073) (Nat.le_of_ble_eq_true rfl) (Nat.le_of_ble_eq_true rfl) ?_
    rcases hw with ⟨rfl, hf9⟩ | ⟨rfl, hf9⟩
    · skip
      have hf4 := hf9
      refine lv_istore (lv' := [(6, .int 1), (5, .int 0), (4, .ref oD), (3, .ref oJ), (2, .ref k0), (1, .ref h0), (0, .ref b)]) hx hb dL_law_1432 hl (Nat.le_of_ble_eq_true rfl) rfl (fun ls hl => ?_)
      refine lv_aload_n hx hb dL_law_1434 rfl (lv_at hl 4 rfl) ?_
      refine lv_aload_n hx hb dL_law_1435 rfl (lv_at hl 6 rfl) ?_
      refine lv_iload hx hb dL_law_1436 (lv_at hl 1 rfl) ?_
      refine lv_iconst (v := 1) hx hb dL_law_1438 (by decide) ?_
      refine lv_iadd hx hb dL_law_1439 ?_
      refine lv_topi (fun y5 ey5 => ?_)
      obtain rfl : y5 = 1 := ey5.trans (by decide)
      refine va_sld hx hb hX9 hbl hbA hS (show ¬ (_ ∨ _) by decide) dL_law_1440 ?_
      refine W.eq (g2 := F0 m 1441 ls [.int (xs 1), .ref k0]) rfl ?_
      refine lv_aload_n hx hb dL_law_1441 rfl (lv_at hl 6 rfl) ?_
      refine lv_iload hx hb dL_law_1442 (lv_at hl 1 rfl) ?_
      refine lv_iconst (v := 2) hx hb dL_law_1444 (by decide) ?_
      refine lv_iadd hx hb dL_law_1445 ?_
      refine lv_topi (fun y6 ey6 => ?_)
      obtain rfl : y6 = 2 := ey6.trans (by decide)
      refine va_sld hx hb hX9 hbl hbA hS (show ¬ (_ ∨ _) by decide) dL_law_1446 ?_
      refine W.eq (g2 := F0 m 1447 ls [.int (xs 2), .int (xs 1), .ref k0]) rfl ?_
      have hPc := hP.sub (ws' := [(k0, .inr (9, [.ref kN, .ref kA, .ref kO, .ref kK, .ref kV, .ref kG, .ref kP, .ref kC, .ref kD, .ref kE, .ref kF, .ref kX, .ref kY, .int 0, .ref kT, .ref kU, .int 0, .int 0, .int 0])), (kN, .inl (cI, 2, .inl (fun _ => 0))), (kA, .inl (cI, 2, .inl (fun _ => 0)))]) [0, 1, 2] rfl
      have hDc := hD.sub (ws' := [(k0, .inr (9, [.ref kN, .ref kA, .ref kO, .ref kK, .ref kV, .ref kG, .ref kP, .ref kC, .ref kD, .ref kE, .ref kF, .ref kX, .ref kY, .int 0, .ref kT, .ref kU, .int 0, .int 0, .int 0])), (kN, .inl (cI, 2, .inl (fun _ => 0))), (kA, .inl (cI, 2, .inl (fun _ => 0)))]) [0, 1, 2] (by decide) rfl
      have hKc := hK.sub (tys' := [(cI, .int)]) [0] rfl
      have hFc := va_free (wc := [(k0, .inr (9, [.ref kN, .ref kA, .ref kO, .ref kK, .ref kV, .ref kG, .ref kP, .ref kC, .ref kD, .ref kE, .ref kF, .ref kX, .ref kY, .int 0, .ref kT, .ref kU, .int 0, .int 0, .int 0])), (kN, .inl (cI, 2, .inl (fun _ => 0))), (kA, .inl (cI, 2, .inl (fun _ => 0)))]) hD hS hA [0, 1, 2] rfl
      refine va_calli (va_runV (As := [.int (xs 1), .int (xs 2)]) (rest := []) ⟨hx, hb, hml, hown, hts⟩ (kX6_portOf l dC dI k0 kN kA kO kK kV kG kP kC kD kE kF kX kY kT kU cI (xs 1) (xs 2) H.size) (cwV 2 hts gL_law_X6_portOf rfl rfl rfl (by decide +kernel) ⟨Nat.le_of_ble_eq_true rfl, Nat.le_of_ble_eq_true rfl⟩) (fPreV hN hZ hS (fun q h => hFc q h) hPc hKc hDc (ci := 9) (q0 := 0) rfl rfl) rfl rfl hl.1 rfl (lv_room (Nat.le_of_ble_eq_true rfl)) dL_law_1447 ⟨Nat.le_of_ble_eq_true rfl, Nat.le_of_ble_eq_true rfl⟩) hS (fun q _ h => hFc q h) hFc (fun r u t H1 locs ht hvm hw hB hz1 hk1 hS => ?_)
      obtain ⟨hP1, hK1, hD1⟩ := hB
      rw [ht] at hP1
      have hK1 := va_K.moved hvm.symm hK1
      obtain ⟨u7, rfl⟩ : ∃ z, z = u := ⟨_, rfl⟩
      obtain ⟨hP, hD⟩ := va_join (wr := [(oJ, .inl (cJ, 1, .inr (.inl u3)))]) (w1 := [(k0, .inr (9, [.ref kN, .ref kA, .ref kO, .ref kK, .ref kV, .ref kG, .ref kP, .ref kC, .ref kD, .ref kE, .ref kF, .ref kX, .ref kY, .int 0, .ref kT, .ref kU, .int u7, .int 0, .int 0]))]) hP hD [0, 1, 2] [3] rfl rfl (by decide) (by decide) hk1 hFc hP1 hD1
      generalize H1 = H at hP hS ⊢
      have hP : va_P (dC, dI) vwCl [(oJ, .inl (cJ, 1, .inr (.inl u3))), (k0, .inr (9, [.ref kN, .ref kA, .ref kO, .ref kK, .ref kV, .ref kG, .ref kP, .ref kC, .ref kD, .ref kE, .ref kF, .ref kX, .ref kY, .int 0, .ref kT, .ref kU, .int u7, .int 0, .int 0]))] _ := hP
      have hD : va_D A [(oJ, .inl (cJ, 1, .inr (.inl u3))), (k0, .inr (9, [.ref kN, .ref kA, .ref kO, .ref kK, .ref kV, .ref kG, .ref kP, .ref kC, .ref kD, .ref kE, .ref kF, .ref kX, .ref kY, .int 0, .ref kT, .ref kU, .int u7, .int 0, .int 0]))] := hD
      obtain ⟨r8, rfl⟩ : ∃ z, z = r := ⟨_, rfl⟩
      rcases hw with ⟨rfl, hg9⟩ | ⟨rfl, hg9⟩
      · skip
        have hP : va_P (dC, dI) vwCl [(oJ, .inl (cJ, 1, .inr (.inl u3))), (k0, .inr (9, [.ref kN, .ref kA, .ref kO, .ref kK, .ref kV, .ref kG, .ref kP, .ref kC, .ref kD, .ref kE, .ref kF, .ref kX, .ref kY, .int 0, .ref kT, .ref kU, .int 1, .int 0, .int 0]))] _ := hP
        have hD : va_D A [(oJ, .inl (cJ, 1, .inr (.inl u3))), (k0, .inr (9, [.ref kN, .ref kA, .ref kO, .ref kK, .ref kV, .ref kG, .ref kP, .ref kC, .ref kD, .ref kE, .ref kF, .ref kX, .ref kY, .int 0, .ref kT, .ref kU, .int 1, .int 0, .int 0]))] := hD
        refine lv_istore (lv' := [(7, .int r8), (6, .int 1), (5, .int 0), (4, .ref oD), (3, .ref oJ), (2, .ref k0), (1, .ref h0), (0, .ref b)]) hx hb dL_law_1450 hl (Nat.le_of_ble_eq_true rfl) rfl (fun ls hl => ?_)
        refine lv_aload_n hx hb dL_law_1452 rfl (lv_at hl 5 rfl) ?_
        have hPc := hP.sub (ws' := [(k0, .inr (9, [.ref kN, .ref kA, .ref kO, .ref kK, .ref kV, .ref kG, .ref kP, .ref kC, .ref kD, .ref kE, .ref kF, .ref kX, .ref kY, .int 0, .ref kT, .ref kU, .int 1, .int 0, .int 0]))]) [1] rfl
        have hDc := hD.sub (ws' := [(k0, .inr (9, [.ref kN, .ref kA, .ref kO, .ref kK, .ref kV, .ref kG, .ref kP, .ref kC, .ref kD, .ref kE, .ref kF, .ref kX, .ref kY, .int 0, .ref kT, .ref kU, .int 1, .int 0, .int 0]))]) [1] (by decide) rfl
        have hKc := hK.sub (tys' := []) [] rfl
        have hFc := va_free (wc := [(k0, .inr (9, [.ref kN, .ref kA, .ref kO, .ref kK, .ref kV, .ref kG, .ref kP, .ref kC, .ref kD, .ref kE, .ref kF, .ref kX, .ref kY, .int 0, .ref kT, .ref kU, .int 1, .int 0, .int 0]))]) hD hS hA [1] rfl
        refine va_calli (va_runV (As := []) (rest := []) ⟨hx, hb, hml, hown, hts⟩ (kX6_thrown l dC dI k0 kN kA kO kK kV kG kP kC kD kE kF kX kY kT kU 1 H.size) (cwV 0 hts gL_law_X6_thrown rfl rfl rfl (by decide +kernel) ⟨Nat.le_of_ble_eq_true rfl, Nat.le_of_ble_eq_true rfl⟩) (fPreV hN hZ hS (fun q h => hFc q h) hPc hKc hDc (ci := 9) (q0 := 0) rfl rfl) rfl rfl hl.1 rfl (lv_room (Nat.le_of_ble_eq_true rfl)) dL_law_1453 ⟨Nat.le_of_ble_eq_true rfl, Nat.le_of_ble_eq_true rfl⟩) hS (fun q _ h => hFc q h) hFc (fun r u t H1 locs ht hvm hw hB hz1 hk1 hS => ?_)
        obtain ⟨hP1, hK1, hD1⟩ := hB
        rw [ht] at hP1
        have hK1 := va_K.moved hvm.symm hK1
        obtain ⟨hP, hD⟩ := va_join (wr := [(oJ, .inl (cJ, 1, .inr (.inl u3)))]) (w1 := []) hP hD [1] [0] rfl rfl (by decide) (by decide) hk1 hFc hP1 hD1
        generalize H1 = H at hP hS ⊢
        have hP : va_P (dC, dI) vwCl [(oJ, .inl (cJ, 1, .inr (.inl u3)))] _ := hP
        have hD : va_D A [(oJ, .inl (cJ, 1, .inr (.inl u3)))] := hD
        subst hw
        refine lv_iload hx hb dL_law_1456 (lv_at hl 1 rfl) ?_
        refine lv_icmp_eq (tgt := 1463) hx hb dL_law_1458 (by decide) (fun _ => ?_) (fun h9 => absurd (by decide) h9)
        refine lv_iload hx hb dL_law_1463 (lv_at hl 1 rfl) ?_
        refine lv_if_ne (tgt := 1480) hx hb dL_law_1465 (by decide) (fun _ => ?_) (fun h9 => absurd h9 (by decide))
        refine lv_goto (tgt := 2720) hx hb dL_law_1480 (by decide) ?_
        refine lv_iinc (v := 7) (lv' := [(5, .int 7), (7, .int r8), (6, .int 1), (4, .ref oD), (3, .ref oJ), (2, .ref k0), (1, .ref h0), (0, .ref b)]) hx hb dL_law_2720 hl (k := 2) rfl (by decide) (Nat.le_of_ble_eq_true rfl) rfl (fun ls hl => ?_)
        refine lv_goto (tgt := 28) hx hb dL_law_2723 (by decide) ?_
        refine lv_iload hx hb dL_law_28 (lv_at hl 0 rfl) ?_
        refine lv_aload_n hx hb dL_law_30 rfl (lv_at hl 7 rfl) ?_
        refine va_slen hx hb hX9 hbl hbA hS dL_law_31 ?_
        refine W.eq (g2 := F0 m 32 ls [.int 7, .int 7]) rfl ?_
        refine lv_bipush (v := 7) hx hb dL_law_32 (by decide) ?_
        refine lv_isub hx hb dL_law_34 ?_
        refine lv_topi (fun y10 ey10 => ?_)
        obtain rfl : y10 = 0 := ey10.trans (by decide)
        refine lv_icmp_gt (tgt := 2726) hx hb dL_law_35 (by decide) (fun _ => ?_) (fun h9 => absurd (by decide) h9)
        refine lv_iconst (v := 1) hx hb dL_law_2726 (by decide) ?_
        refine va_forget (fun q hq => hAe _ (hS.2.2 q hq)) ?_
        refine W.widen (k := 600006) (n := 7302048) (Nat.le_of_ble_eq_true rfl) (Nat.le_of_ble_eq_true rfl) ?_
        exact W.base (lw_ret (d0 := s.drawn) (Drawn.sameBut.refl _ _) hx hb hr hlk dL_law_2727)
      · skip
        exact absurd hg9 ((fun h9 => h9 (hf4)))
    · skip
      have hf11 := hf9
      refine lv_istore (lv' := [(6, .int 2), (5, .int 0), (4, .ref oD), (3, .ref oJ), (2, .ref k0), (1, .ref h0), (0, .ref b)]) hx hb dL_law_1432 hl (Nat.le_of_ble_eq_true rfl) rfl (fun ls hl => ?_)
      refine lv_aload_n hx hb dL_law_1434 rfl (lv_at hl 4 rfl) ?_
      refine lv_aload_n hx hb dL_law_1435 rfl (lv_at hl 6 rfl) ?_
      refine lv_iload hx hb dL_law_1436 (lv_at hl 1 rfl) ?_
      refine lv_iconst (v := 1) hx hb dL_law_1438 (by decide) ?_
      refine lv_iadd hx hb dL_law_1439 ?_
      refine lv_topi (fun y12 ey12 => ?_)
      obtain rfl : y12 = 1 := ey12.trans (by decide)
      refine va_sld hx hb hX9 hbl hbA hS (show ¬ (_ ∨ _) by decide) dL_law_1440 ?_
      refine W.eq (g2 := F0 m 1441 ls [.int (xs 1), .ref k0]) rfl ?_
      refine lv_aload_n hx hb dL_law_1441 rfl (lv_at hl 6 rfl) ?_
      refine lv_iload hx hb dL_law_1442 (lv_at hl 1 rfl) ?_
      refine lv_iconst (v := 2) hx hb dL_law_1444 (by decide) ?_
      refine lv_iadd hx hb dL_law_1445 ?_
      refine lv_topi (fun y13 ey13 => ?_)
      obtain rfl : y13 = 2 := ey13.trans (by decide)
      refine va_sld hx hb hX9 hbl hbA hS (show ¬ (_ ∨ _) by decide) dL_law_1446 ?_
      refine W.eq (g2 := F0 m 1447 ls [.int (xs 2), .int (xs 1), .ref k0]) rfl ?_
      have hPc := hP.sub (ws' := [(k0, .inr (9, [.ref kN, .ref kA, .ref kO, .ref kK, .ref kV, .ref kG, .ref kP, .ref kC, .ref kD, .ref kE, .ref kF, .ref kX, .ref kY, .int 0, .ref kT, .ref kU, .int 0, .int 0, .int 0])), (kN, .inl (cI, 2, .inl (fun _ => 0))), (kA, .inl (cI, 2, .inl (fun _ => 0)))]) [0, 1, 2] rfl
      have hDc := hD.sub (ws' := [(k0, .inr (9, [.ref kN, .ref kA, .ref kO, .ref kK, .ref kV, .ref kG, .ref kP, .ref kC, .ref kD, .ref kE, .ref kF, .ref kX, .ref kY, .int 0, .ref kT, .ref kU, .int 0, .int 0, .int 0])), (kN, .inl (cI, 2, .inl (fun _ => 0))), (kA, .inl (cI, 2, .inl (fun _ => 0)))]) [0, 1, 2] (by decide) rfl
      have hKc := hK.sub (tys' := [(cI, .int)]) [0] rfl
      have hFc := va_free (wc := [(k0, .inr (9, [.ref kN, .ref kA, .ref kO, .ref kK, .ref kV, .ref kG, .ref kP, .ref kC, .ref kD, .ref kE, .ref kF, .ref kX, .ref kY, .int 0, .ref kT, .ref kU, .int 0, .int 0, .int 0])), (kN, .inl (cI, 2, .inl (fun _ => 0))), (kA, .inl (cI, 2, .inl (fun _ => 0)))]) hD hS hA [0, 1, 2] rfl
      refine va_calli (va_runV (As := [.int (xs 1), .int (xs 2)]) (rest := []) ⟨hx, hb, hml, hown, hts⟩ (kX6_portOf l dC dI k0 kN kA kO kK kV kG kP kC kD kE kF kX kY kT kU cI (xs 1) (xs 2) H.size) (cwV 2 hts gL_law_X6_portOf rfl rfl rfl (by decide +kernel) ⟨Nat.le_of_ble_eq_true rfl, Nat.le_of_ble_eq_true rfl⟩) (fPreV hN hZ hS (fun q h => hFc q h) hPc hKc hDc (ci := 9) (q0 := 0) rfl rfl) rfl rfl hl.1 rfl (lv_room (Nat.le_of_ble_eq_true rfl)) dL_law_1447 ⟨Nat.le_of_ble_eq_true rfl, Nat.le_of_ble_eq_true rfl⟩) hS (fun q _ h => hFc q h) hFc (fun r u t H1 locs ht hvm hw hB hz1 hk1 hS => ?_)
      obtain ⟨hP1, hK1, hD1⟩ := hB
      rw [ht] at hP1
      have hK1 := va_K.moved hvm.symm hK1
      obtain ⟨u14, rfl⟩ : ∃ z, z = u := ⟨_, rfl⟩
      obtain ⟨hP, hD⟩ := va_join (wr := [(oJ, .inl (cJ, 1, .inr (.inl u3)))]) (w1 := [(k0, .inr (9, [.ref kN, .ref kA, .ref kO, .ref kK, .ref kV, .ref kG, .ref kP, .ref kC, .ref kD, .ref kE, .ref kF, .ref kX, .ref kY, .int 0, .ref kT, .ref kU, .int u14, .int 0, .int 0]))]) hP hD [0, 1, 2] [3] rfl rfl (by decide) (by decide) hk1 hFc hP1 hD1
      generalize H1 = H at hP hS ⊢
      have hP : va_P (dC, dI) vwCl [(oJ, .inl (cJ, 1, .inr (.inl u3))), (k0, .inr (9, [.ref kN, .ref kA, .ref kO, .ref kK, .ref kV, .ref kG, .ref kP, .ref kC, .ref kD, .ref kE, .ref kF, .ref kX, .ref kY, .int 0, .ref kT, .ref kU, .int u14, .int 0, .int 0]))] _ := hP
      have hD : va_D A [(oJ, .inl (cJ, 1, .inr (.inl u3))), (k0, .inr (9, [.ref kN, .ref kA, .ref kO, .ref kK, .ref kV, .ref kG, .ref kP, .ref kC, .ref kD, .ref kE, .ref kF, .ref kX, .ref kY, .int 0, .ref kT, .ref kU, .int u14, .int 0, .int 0]))] := hD
      obtain ⟨r15, rfl⟩ : ∃ z, z = r := ⟨_, rfl⟩
      rcases hw with ⟨rfl, hg9⟩ | ⟨rfl, hg9⟩
      · skip
        exact absurd hg9 (hf11)
      · skip
        have hP : va_P (dC, dI) vwCl [(oJ, .inl (cJ, 1, .inr (.inl u3))), (k0, .inr (9, [.ref kN, .ref kA, .ref kO, .ref kK, .ref kV, .ref kG, .ref kP, .ref kC, .ref kD, .ref kE, .ref kF, .ref kX, .ref kY, .int 0, .ref kT, .ref kU, .int 2, .int 0, .int 0]))] _ := hP
        have hD : va_D A [(oJ, .inl (cJ, 1, .inr (.inl u3))), (k0, .inr (9, [.ref kN, .ref kA, .ref kO, .ref kK, .ref kV, .ref kG, .ref kP, .ref kC, .ref kD, .ref kE, .ref kF, .ref kX, .ref kY, .int 0, .ref kT, .ref kU, .int 2, .int 0, .int 0]))] := hD
        refine lv_istore (lv' := [(7, .int r15), (6, .int 2), (5, .int 0), (4, .ref oD), (3, .ref oJ), (2, .ref k0), (1, .ref h0), (0, .ref b)]) hx hb dL_law_1450 hl (Nat.le_of_ble_eq_true rfl) rfl (fun ls hl => ?_)
        refine lv_aload_n hx hb dL_law_1452 rfl (lv_at hl 5 rfl) ?_
        have hPc := hP.sub (ws' := [(k0, .inr (9, [.ref kN, .ref kA, .ref kO, .ref kK, .ref kV, .ref kG, .ref kP, .ref kC, .ref kD, .ref kE, .ref kF, .ref kX, .ref kY, .int 0, .ref kT, .ref kU, .int 2, .int 0, .int 0]))]) [1] rfl
        have hDc := hD.sub (ws' := [(k0, .inr (9, [.ref kN, .ref kA, .ref kO, .ref kK, .ref kV, .ref kG, .ref kP, .ref kC, .ref kD, .ref kE, .ref kF, .ref kX, .ref kY, .int 0, .ref kT, .ref kU, .int 2, .int 0, .int 0]))]) [1] (by decide) rfl
        have hKc := hK.sub (tys' := []) [] rfl
        have hFc := va_free (wc := [(k0, .inr (9, [.ref kN, .ref kA, .ref kO, .ref kK, .ref kV, .ref kG, .ref kP, .ref kC, .ref kD, .ref kE, .ref kF, .ref kX, .ref kY, .int 0, .ref kT, .ref kU, .int 2, .int 0, .int 0]))]) hD hS hA [1] rfl
        refine va_calli (va_runV (As := []) (rest := []) ⟨hx, hb, hml, hown, hts⟩ (kX6_thrown l dC dI k0 kN kA kO kK kV kG kP kC kD kE kF kX kY kT kU 2 H.size) (cwV 0 hts gL_law_X6_thrown rfl rfl rfl (by decide +kernel) ⟨Nat.le_of_ble_eq_true rfl, Nat.le_of_ble_eq_true rfl⟩) (fPreV hN hZ hS (fun q h => hFc q h) hPc hKc hDc (ci := 9) (q0 := 0) rfl rfl) rfl rfl hl.1 rfl (lv_room (Nat.le_of_ble_eq_true rfl)) dL_law_1453 ⟨Nat.le_of_ble_eq_true rfl, Nat.le_of_ble_eq_true rfl⟩) hS (fun q _ h => hFc q h) hFc (fun r u t H1 locs ht hvm hw hB hz1 hk1 hS => ?_)
        obtain ⟨hP1, hK1, hD1⟩ := hB
        rw [ht] at hP1
        have hK1 := va_K.moved hvm.symm hK1
        obtain ⟨hP, hD⟩ := va_join (wr := [(oJ, .inl (cJ, 1, .inr (.inl u3)))]) (w1 := []) hP hD [1] [0] rfl rfl (by decide) (by decide) hk1 hFc hP1 hD1
        generalize H1 = H at hP hS ⊢
        have hP : va_P (dC, dI) vwCl [(oJ, .inl (cJ, 1, .inr (.inl u3)))] _ := hP
        have hD : va_D A [(oJ, .inl (cJ, 1, .inr (.inl u3)))] := hD
        subst hw
        refine lv_iload hx hb dL_law_1456 (lv_at hl 1 rfl) ?_
        refine lv_icmp_eq (tgt := 1463) hx hb dL_law_1458 (by decide) (fun _ => ?_) (fun h9 => absurd (by decide) h9)
        refine lv_iload hx hb dL_law_1463 (lv_at hl 1 rfl) ?_
        refine lv_if_ne (tgt := 1480) hx hb dL_law_1465 (by decide) (fun _ => ?_) (fun h9 => absurd h9 (by decide))
        refine lv_goto (tgt := 2720) hx hb dL_law_1480 (by decide) ?_
        refine lv_iinc (v := 7) (lv' := [(5, .int 7), (7, .int r15), (6, .int 2), (4, .ref oD), (3, .ref oJ), (2, .ref k0), (1, .ref h0), (0, .ref b)]) hx hb dL_law_2720 hl (k := 2) rfl (by decide) (Nat.le_of_ble_eq_true rfl) rfl (fun ls hl => ?_)
        refine lv_goto (tgt := 28) hx hb dL_law_2723 (by decide) ?_
        refine lv_iload hx hb dL_law_28 (lv_at hl 0 rfl) ?_
        refine lv_aload_n hx hb dL_law_30 rfl (lv_at hl 7 rfl) ?_
        refine va_slen hx hb hX9 hbl hbA hS dL_law_31 ?_
        refine W.eq (g2 := F0 m 32 ls [.int 7, .int 7]) rfl ?_
        refine lv_bipush (v := 7) hx hb dL_law_32 (by decide) ?_
        refine lv_isub hx hb dL_law_34 ?_
        refine lv_topi (fun y16 ey16 => ?_)
        obtain rfl : y16 = 0 := ey16.trans (by decide)
        refine lv_icmp_gt (tgt := 2726) hx hb dL_law_35 (by decide) (fun _ => ?_) (fun h9 => absurd (by decide) h9)
        refine lv_iconst (v := 1) hx hb dL_law_2726 (by decide) ?_
        refine va_forget (fun q hq => hAe _ (hS.2.2 q hq)) ?_
        refine W.widen (k := 600006) (n := 7302048) (Nat.le_of_ble_eq_true rfl) (Nat.le_of_ble_eq_true rfl) ?_
        exact W.base (lw_ret (d0 := s.drawn) (Drawn.sameBut.refl _ _) hx hb hr hlk dL_law_2727)

set_option maxHeartbeats 4000000 in
set_option maxRecDepth 100000 in
/-- case 18 of the law: distance, on fresh objects -/
theorem lc_18 {p : Program} {e : Env} {s : State} {m : MethodId} {below : List Frame} {meth : Method} {c : Code} (l : Launch) (hfl : l.stackTraces = false) {b : Nat} {xs : Nat → Int32} (hx : p.tables.exec = Jvm.exec) (hb : c.code = cL_law) (hr : meth.sig.returnType = ret) (hml : c.maxLocals = 9) (hown : s.vm.findClass RL = some m.cls) (hts : ∀ w ∈ wsL_law, w.before #[Value.ref b] s = true) (hlk : meth.locks = false) (A : Nat → Prop) (hAe : ∀ q, A q → s.heap.size ≤ q) (hA : ∀ q : Nat, s.heap.size ≤ q → A q) (hX9 : va_X b 7 xs s s.heap) (hbl : b < s.heap.size) (hN : fN s) (hZ : fZ A s s.heap) (hX : fX s) (dC : Nat → ClassId) (dI : Nat → Nat → Nat) (h0 pr w d on op un wL wK wV wN wS wB dL dK dV dN dS dB ma tm k0 kN kA kO kK kV kG kP kC kD kE kF kX kY kT kU oJ oD : Nat) (cI cJ : ClassId) {H : Heap} {locs : List Loc} {ls : Array Slot} (hK : va_K (dC, dI) vwCl [(cI, .int), (cJ, .long)] s) (hP : va_P (dC, dI) vwCl [(h0, .inr (8, [.ref pr, .ref ma, .ref tm])), (pr, .inr (7, [.ref w, .ref d, .ref on, .ref op, .ref un, .int 0, .int 0])), (w, .inr (3, [.int 0, .int 0, .ref wL, .ref wK, .ref wV, .ref wN, .ref wS, .ref wB, .int 0])), (d, .inr (3, [.int 0, .int 0, .ref dL, .ref dK, .ref dV, .ref dN, .ref dS, .ref dB, .int 0])), (k0, .inr (9, [.ref kN, .ref kA, .ref kO, .ref kK, .ref kV, .ref kG, .ref kP, .ref kC, .ref kD, .ref kE, .ref kF, .ref kX, .ref kY, .int 0, .ref kT, .ref kU, .int 0, .int 0, .int 0])), (kN, .inl (cI, 2, .inl (fun _ => 0))), (kA, .inl (cI, 2, .inl (fun _ => 0))), (oJ, .inl (cJ, 1, .inr (.inl (fun _ => 0))))] H) (hD : va_D A [(h0, .inr (8, [.ref pr, .ref ma, .ref tm])), (pr, .inr (7, [.ref w, .ref d, .ref on, .ref op, .ref un, .int 0, .int 0])), (w, .inr (3, [.int 0, .int 0, .ref wL, .ref wK, .ref wV, .ref wN, .ref wS, .ref wB, .int 0])), (d, .inr (3, [.int 0, .int 0, .ref dL, .ref dK, .ref dV, .ref dN, .ref dS, .ref dB, .int 0])), (k0, .inr (9, [.ref kN, .ref kA, .ref kO, .ref kK, .ref kV, .ref kG, .ref kP, .ref kC, .ref kD, .ref kE, .ref kF, .ref kX, .ref kY, .int 0, .ref kT, .ref kU, .int 0, .int 0, .int 0])), (kN, .inl (cI, 2, .inl (fun _ => 0))), (kA, .inl (cI, 2, .inl (fun _ => 0))), (oJ, .inl (cJ, 1, .inr (.inl (fun _ => 0))))]) (hS : va_S A s.heap H locs) (hl : lv_has ls 9 [(5, .int 0), (4, .ref oD), (3, .ref oJ), (2, .ref k0), (1, .ref h0), (0, .ref b)]) : W p l e room_1 s m #[Value.ref b] below meth c H locs 114 2061 (lw_Z below #[Value.ref b] s) (F0 m 1483 ls []) := by
  have hbA : ¬ A b := fun h => Nat.not_le.mpr hbl (hAe _ h)
  have hX0 := hX
  refine lv_aload_n hx hb dL_law_1483 rfl (lv_at hl 4 rfl) ?_
  refine lv_aload_n hx hb dL_law_1484 rfl (lv_at hl 5 rfl) ?_
  refine lv_iload hx hb dL_law_1485 (lv_at hl 0 rfl) ?_
  refine lv_iconst (v := 1) hx hb dL_law_1487 (by decide) ?_
  refine lv_iadd hx hb dL_law_1488 ?_
  refine lv_topi (fun y1 ey1 => ?_)
  obtain rfl : y1 = 1 := ey1.trans (by decide)
  refine va_sld hx hb hX9 hbl hbA hS (show ¬ (_ ∨ _) by decide) dL_law_1489 ?_
  refine W.eq (g2 := F0 m 1490 ls [.int (xs 1), .ref h0]) rfl ?_
  refine lv_aload_n hx hb dL_law_1490 rfl (lv_at hl 5 rfl) ?_
  refine lv_iload hx hb dL_law_1491 (lv_at hl 0 rfl) ?_
  refine lv_iconst (v := 2) hx hb dL_law_1493 (by decide) ?_
  refine lv_iadd hx hb dL_law_1494 ?_
  refine lv_topi (fun y2 ey2 => ?_)
  obtain rfl : y2 = 2 := ey2.trans (by decide)
  refine va_sld hx hb hX9 hbl hbA hS (show ¬ (_ ∨ _) by decide) dL_law_1495 ?_
  refine W.eq (g2 := F0 m 1496 ls [.int (xs 2), .int (xs 1), .ref h0]) rfl ?_
  refine lv_aload_n hx hb dL_law_1496 rfl (lv_at hl 2 rfl) ?_
  have hPc := hP.sub (ws' := [(h0, .inr (8, [.ref pr, .ref ma, .ref tm])), (pr, .inr (7, [.ref w, .ref d, .ref on, .ref op, .ref un, .int 0, .int 0])), (w, .inr (3, [.int 0, .int 0, .ref wL, .ref wK, .ref wV, .ref wN, .ref wS, .ref wB, .int 0])), (d, .inr (3, [.int 0, .int 0, .ref dL, .ref dK, .ref dV, .ref dN, .ref dS, .ref dB, .int 0])), (oJ, .inl (cJ, 1, .inr (.inl (fun _ => 0))))]) [0, 1, 2, 3, 7] rfl
  have hDc := hD.sub (ws' := [(h0, .inr (8, [.ref pr, .ref ma, .ref tm])), (pr, .inr (7, [.ref w, .ref d, .ref on, .ref op, .ref un, .int 0, .int 0])), (w, .inr (3, [.int 0, .int 0, .ref wL, .ref wK, .ref wV, .ref wN, .ref wS, .ref wB, .int 0])), (d, .inr (3, [.int 0, .int 0, .ref dL, .ref dK, .ref dV, .ref dN, .ref dS, .ref dB, .int 0])), (oJ, .inl (cJ, 1, .inr (.inl (fun _ => 0))))]) [0, 1, 2, 3, 7] (by decide) rfl
  have hKc := hK.sub (tys' := [(cJ, .long)]) [1] rfl
  have hFc := va_free (wc := [(h0, .inr (8, [.ref pr, .ref ma, .ref tm])), (pr, .inr (7, [.ref w, .ref d, .ref on, .ref op, .ref un, .int 0, .int 0])), (w, .inr (3, [.int 0, .int 0, .ref wL, .ref wK, .ref wV, .ref wN, .ref wS, .ref wB, .int 0])), (d, .inr (3, [.int 0, .int 0, .ref dL, .ref dK, .ref dV, .ref dN, .ref dS, .ref dB, .int 0])), (oJ, .inl (cJ, 1, .inr (.inl (fun _ => 0))))]) hD hS hA [0, 1, 2, 3, 7] rfl
  refine vx_calli (vx_runSX (As := [.ref h0, .int (xs 1), .int (xs 2), .ref oJ]) (rest := []) ⟨hx, hb, hml, hown, hts⟩ (kL_distance l hfl dC dI h0 pr ma tm w d on op un wL wK wV wN wS wB dL dK dV dN dS dB oJ cJ (xs 1) (xs 2) H.size) (vx_cwSW 4 hts gL_law_L_distance rfl rfl rfl (by decide +kernel) ⟨Nat.le_of_ble_eq_true rfl, Nat.le_of_ble_eq_true rfl⟩) (gPreS hX hN hZ hS (fun q h => hFc q h) hPc hKc hDc) rfl rfl hl.1 rfl (lv_room (Nat.le_of_ble_eq_true rfl)) dL_law_1497 ⟨Nat.le_of_ble_eq_true rfl, Nat.le_of_ble_eq_true rfl⟩) hS (fun q _ h => hFc q h) hFc (fun q _ h => hFc q h) (fun E ce q9 u t H locs ht hvm hpx hE hz1 hk1 hS hq9 hv9 hc9 => ?_) (fun r u t H1 locs ht hvm hw hB hz1 hk1 hS => ?_)
  · skip
    exact hE.elim
  · skip
    obtain ⟨hP1, hK1, hD1⟩ := hB
    rw [ht] at hP1
    have hK1 := va_K.moved hvm.symm hK1
    obtain ⟨u3, rfl⟩ : ∃ z, z = u := ⟨_, rfl⟩
    obtain ⟨hP, hD⟩ := va_join (wr := [(k0, .inr (9, [.ref kN, .ref kA, .ref kO, .ref kK, .ref kV, .ref kG, .ref kP, .ref kC, .ref kD, .ref kE, .ref kF, .ref kX, .ref kY, .int 0, .ref kT, .ref kU, .int 0, .int 0, .int 0])), (kN, .inl (cI, 2, .inl (fun _ => 0))), (kA, .inl (cI, 2, .inl (fun _ => 0)))]) (w1 := [(oJ, .inl (cJ, 1, .inr (.inl u3)))]) hP hD [0, 1, 2, 3, 7] [4, 5, 6] rfl rfl (by decide) (by decide) hk1 hFc hP1 hD1
    generalize H1 = H at hP hS ⊢
    have hP : va_P (dC, dI) vwCl [(k0, .inr (9, [.ref kN, .ref kA, .ref kO, .ref kK, .ref kV, .ref kG, .ref kP, .ref kC, .ref kD, .ref kE, .ref kF, .ref kX, .ref kY, .int 0, .ref kT, .ref kU, .int 0, .int 0, .int 0])), (kN, .inl (cI, 2, .inl (fun _ => 0))), (kA, .inl (cI, 2, .inl (fun _ => 0))), (oJ, .inl (cJ, 1, .inr (.inl u3)))] _ := hP
    have hD : va_D A [(k0, .inr (9, [.ref kN, .ref kA, .ref kO, .ref kK, .ref kV, .ref kG, .ref kP, .ref kC, .ref kD, .ref kE, .ref kF, .ref kX, .ref kY, .int 0, .ref kT, .ref kU, .int 0, .int 0, .int 0])), (kN, .inl (cI, 2, .inl (fun _ => 0))), (kA, .inl (cI, 2, .inl (fun _ => 0))), (oJ, .inl (cJ, 1, .inr (.inl u3)))] := hD
    refine W.widen (k := 116) (n := 2073) (Nat.le_of_ble_eq_true rfl) (Nat.le_of_ble_eq_true rfl) ?_
    rcases hw with ⟨rfl, hf9⟩ | ⟨rfl, hf9⟩
    · skip
      have hf4 := hf9
      refine lv_istore (lv' := [(6, .int 1), (5, .int 0), (4, .ref oD), (3, .ref oJ), (2, .ref k0), (1, .ref h0), (0, .ref b)]) hx hb dL_law_1500 hl (Nat.le_of_ble_eq_true rfl) rfl (fun ls hl => ?_)
      refine lv_aload_n hx hb dL_law_1502 rfl (lv_at hl 4 rfl) ?_
      refine lv_aload_n hx hb dL_law_1503 rfl (lv_at hl 6 rfl) ?_
      refine lv_iload hx hb dL_law_1504 (lv_at hl 1 rfl) ?_
      refine lv_iconst (v := 1) hx hb dL_law_1506 (by decide) ?_
      refine lv_iadd hx hb dL_law_1507 ?_
      refine lv_topi (fun y5 ey5 => ?_)
      obtain rfl : y5 = 1 := ey5.trans (by decide)
      refine va_sld hx hb hX9 hbl hbA hS (show ¬ (_ ∨ _) by decide) dL_law_1508 ?_
      refine W.eq (g2 := F0 m 1509 ls [.int (xs 1), .ref k0]) rfl ?_
      refine lv_aload_n hx hb dL_law_1509 rfl (lv_at hl 6 rfl) ?_
      refine lv_iload hx hb dL_law_1510 (lv_at hl 1 rfl) ?_
      refine lv_iconst (v := 2) hx hb dL_law_1512 (by decide) ?_
      refine lv_iadd hx hb dL_law_1513 ?_
      refine lv_topi (fun y6 ey6 => ?_)
      obtain rfl : y6 = 2 := ey6.trans (by decide)
      refine va_sld hx hb hX9 hbl hbA hS (show ¬ (_ ∨ _) by decide) dL_law_1514 ?_
      refine W.eq (g2 := F0 m 1515 ls [.int (xs 2), .int (xs 1), .ref k0]) rfl ?_
      have hPc := hP.sub (ws' := [(k0, .inr (9, [.ref kN, .ref kA, .ref kO, .ref kK, .ref kV, .ref kG, .ref kP, .ref kC, .ref kD, .ref kE, .ref kF, .ref kX, .ref kY, .int 0, .ref kT, .ref kU, .int 0, .int 0, .int 0])), (kN, .inl (cI, 2, .inl (fun _ => 0))), (kA, .inl (cI, 2, .inl (fun _ => 0)))]) [0, 1, 2] rfl
      have hDc := hD.sub (ws' := [(k0, .inr (9, [.ref kN, .ref kA, .ref kO, .ref kK, .ref kV, .ref kG, .ref kP, .ref kC, .ref kD, .ref kE, .ref kF, .ref kX, .ref kY, .int 0, .ref kT, .ref kU, .int 0, .int 0, .int 0])), (kN, .inl (cI, 2, .inl (fun _ => 0))), (kA, .inl (cI, 2, .inl (fun _ => 0)))]) [0, 1, 2] (by decide) rfl
      have hKc := hK.sub (tys' := [(cI, .int)]) [0] rfl
      have hFc := va_free (wc := [(k0, .inr (9, [.ref kN, .ref kA, .ref kO, .ref kK, .ref kV, .ref kG, .ref kP, .ref kC, .ref kD, .ref kE, .ref kF, .ref kX, .ref kY, .int 0, .ref kT, .ref kU, .int 0, .int 0, .int 0])), (kN, .inl (cI, 2, .inl (fun _ => 0))), (kA, .inl (cI, 2, .inl (fun _ => 0)))]) hD hS hA [0, 1, 2] rfl
      refine va_calli (va_runV (As := [.int (xs 1), .int (xs 2)]) (rest := []) ⟨hx, hb, hml, hown, hts⟩ (kX6_distance l dC dI k0 kN kA kO kK kV kG kP kC kD kE kF kX kY kT kU cI (xs 1) (xs 2) H.size) (cwV 2 hts gL_law_X6_distance rfl rfl rfl (by decide +kernel) ⟨Nat.le_of_ble_eq_true rfl, Nat.le_of_ble_eq_true rfl⟩) (fPreV hN hZ hS (fun q h => hFc q h) hPc hKc hDc (ci := 9) (q0 := 0) rfl rfl) rfl rfl hl.1 rfl (lv_room (Nat.le_of_ble_eq_true rfl)) dL_law_1515 ⟨Nat.le_of_ble_eq_true rfl, Nat.le_of_ble_eq_true rfl⟩) hS (fun q _ h => hFc q h) hFc (fun r u t H1 locs ht hvm hw hB hz1 hk1 hS => ?_)
      obtain ⟨hP1, hK1, hD1⟩ := hB
      rw [ht] at hP1
      have hK1 := va_K.moved hvm.symm hK1
      obtain ⟨u7, rfl⟩ : ∃ z, z = u := ⟨_, rfl⟩
      obtain ⟨hP, hD⟩ := va_join (wr := [(oJ, .inl (cJ, 1, .inr (.inl u3)))]) (w1 := [(k0, .inr (9, [.ref kN, .ref kA, .ref kO, .ref kK, .ref kV, .ref kG, .ref kP, .ref kC, .ref kD, .ref kE, .ref kF, .ref kX, .ref kY, .int 0, .ref kT, .ref kU, .int u7, .int 0, .int 0]))]) hP hD [0, 1, 2] [3] rfl rfl (by decide) (by decide) hk1 hFc hP1 hD1
      generalize H1 = H at hP hS ⊢
      have hP : va_P (dC, dI) vwCl [(oJ, .inl (cJ, 1, .inr (.inl u3))), (k0, .inr (9, [.ref kN, .ref kA, .ref kO, .ref kK, .ref kV, .ref kG, .ref kP, .ref kC, .ref kD, .ref kE, .ref kF, .ref kX, .ref kY, .int 0, .ref kT, .ref kU, .int u7, .int 0, .int 0]))] _ := hP
      have hD : va_D A [(oJ, .inl (cJ, 1, .inr (.inl u3))), (k0, .inr (9, [.ref kN, .ref kA, .ref kO, .ref kK, .ref kV, .ref kG, .ref kP, .ref kC, .ref kD, .ref kE, .ref kF, .ref kX, .ref kY, .int 0, .ref kT, .ref kU, .int u7, .int 0, .int 0]))] := hD
      obtain ⟨r8, rfl⟩ : ∃ z, z = r := ⟨_, rfl⟩
      rcases hw with ⟨rfl, hg9⟩ | ⟨rfl, hg9⟩
      · skip
        have hP : va_P (dC, dI) vwCl [(oJ, .inl (cJ, 1, .inr (.inl u3))), (k0, .inr (9, [.ref kN, .ref kA, .ref kO, .ref kK, .ref kV, .ref kG, .ref kP, .ref kC, .ref kD, .ref kE, .ref kF, .ref kX, .ref kY, .int 0, .ref kT, .ref kU, .int 1, .int 0, .int 0]))] _ := hP
        have hD : va_D A [(oJ, .inl (cJ, 1, .inr (.inl u3))), (k0, .inr (9, [.ref kN, .ref kA, .ref kO, .ref kK, .ref kV, .ref kG, .ref kP, .ref kC, .ref kD, .ref kE, .ref kF, .ref kX, .ref kY, .int 0, .ref kT, .ref kU, .int 1, .int 0, .int 0]))] := hD
        refine lv_istore (lv' := [(7, .int r8), (6, .int 1), (5, .int 0), (4, .ref oD), (3, .ref oJ), (2, .ref k0), (1, .ref h0), (0, .ref b)]) hx hb dL_law_1518 hl (Nat.le_of_ble_eq_true rfl) rfl (fun ls hl => ?_)
        refine lv_aload_n hx hb dL_law_1520 rfl (lv_at hl 5 rfl) ?_
        have hPc := hP.sub (ws' := [(k0, .inr (9, [.ref kN, .ref kA, .ref kO, .ref kK, .ref kV, .ref kG, .ref kP, .ref kC, .ref kD, .ref kE, .ref kF, .ref kX, .ref kY, .int 0, .ref kT, .ref kU, .int 1, .int 0, .int 0]))]) [1] rfl
        have hDc := hD.sub (ws' := [(k0, .inr (9, [.ref kN, .ref kA, .ref kO, .ref kK, .ref kV, .ref kG, .ref kP, .ref kC, .ref kD, .ref kE, .ref kF, .ref kX, .ref kY, .int 0, .ref kT, .ref kU, .int 1, .int 0, .int 0]))]) [1] (by decide) rfl
        have hKc := hK.sub (tys' := []) [] rfl
        have hFc := va_free (wc := [(k0, .inr (9, [.ref kN, .ref kA, .ref kO, .ref kK, .ref kV, .ref kG, .ref kP, .ref kC, .ref kD, .ref kE, .ref kF, .ref kX, .ref kY, .int 0, .ref kT, .ref kU, .int 1, .int 0, .int 0]))]) hD hS hA [1] rfl
        refine va_calli (va_runV (As := []) (rest := []) ⟨hx, hb, hml, hown, hts⟩ (kX6_thrown l dC dI k0 kN kA kO kK kV kG kP kC kD kE kF kX kY kT kU 1 H.size) (cwV 0 hts gL_law_X6_thrown rfl rfl rfl (by decide +kernel) ⟨Nat.le_of_ble_eq_true rfl, Nat.le_of_ble_eq_true rfl⟩) (fPreV hN hZ hS (fun q h => hFc q h) hPc hKc hDc (ci := 9) (q0 := 0) rfl rfl) rfl rfl hl.1 rfl (lv_room (Nat.le_of_ble_eq_true rfl)) dL_law_1521 ⟨Nat.le_of_ble_eq_true rfl, Nat.le_of_ble_eq_true rfl⟩) hS (fun q _ h => hFc q h) hFc (fun r u t H1 locs ht hvm hw hB hz1 hk1 hS => ?_)
        obtain ⟨hP1, hK1, hD1⟩ := hB
        rw [ht] at hP1
        have hK1 := va_K.moved hvm.symm hK1
        obtain ⟨hP, hD⟩ := va_join (wr := [(oJ, .inl (cJ, 1, .inr (.inl u3)))]) (w1 := []) hP hD [1] [0] rfl rfl (by decide) (by decide) hk1 hFc hP1 hD1
        generalize H1 = H at hP hS ⊢
        have hP : va_P (dC, dI) vwCl [(oJ, .inl (cJ, 1, .inr (.inl u3)))] _ := hP
        have hD : va_D A [(oJ, .inl (cJ, 1, .inr (.inl u3)))] := hD
        subst hw
        refine lv_iload hx hb dL_law_1524 (lv_at hl 1 rfl) ?_
        refine lv_icmp_eq (tgt := 1531) hx hb dL_law_1526 (by decide) (fun _ => ?_) (fun h9 => absurd (by decide) h9)
        refine lv_iload hx hb dL_law_1531 (lv_at hl 1 rfl) ?_
        refine lv_if_ne (tgt := 1548) hx hb dL_law_1533 (by decide) (fun _ => ?_) (fun h9 => absurd h9 (by decide))
        refine lv_goto (tgt := 2720) hx hb dL_law_1548 (by decide) ?_
        refine lv_iinc (v := 7) (lv' := [(5, .int 7), (7, .int r8), (6, .int 1), (4, .ref oD), (3, .ref oJ), (2, .ref k0), (1, .ref h0), (0, .ref b)]) hx hb dL_law_2720 hl (k := 2) rfl (by decide) (Nat.le_of_ble_eq_true rfl) rfl (fun ls hl => ?_)
        refine lv_goto (tgt := 28) hx hb dL_law_2723 (by decide) ?_
        refine lv_iload hx hb dL_law_28 (lv_at hl 0 rfl) ?_
        refine lv_aload_n hx hb dL_law_30 rfl (lv_at hl 7 rfl) ?_
        refine va_slen hx hb hX9 hbl hbA hS dL_law_31 ?_
        refine W.eq (g2 := F0 m 32 ls [.int 7, .int 7]) rfl ?_
        refine lv_bipush (v := 7) hx hb dL_law_32 (by decide) ?_
        refine lv_isub hx hb dL_law_34 ?_
        refine lv_topi (fun y10 ey10 => ?_)
        obtain rfl : y10 = 0 := ey10.trans (by decide)
        refine lv_icmp_gt (tgt := 2726) hx hb dL_law_35 (by decide) (fun _ => ?_) (fun h9 => absurd (by decide) h9)
        refine lv_iconst (v := 1) hx hb dL_law_2726 (by decide) ?_
        refine va_forget (fun q hq => hAe _ (hS.2.2 q hq)) ?_
        refine W.widen (k := 600006) (n := 7302048) (Nat.le_of_ble_eq_true rfl) (Nat.le_of_ble_eq_true rfl) ?_
        exact W.base (lw_ret (d0 := s.drawn) (Drawn.sameBut.refl _ _) hx hb hr hlk dL_law_2727)
      · skip
        exact absurd hg9 ((fun h9 => h9 (hf4)))
    · skip
      have hf11 := hf9
      refine lv_istore (lv' := [(6, .int 2), (5, .int 0), (4, .ref oD), (3, .ref oJ), (2, .ref k0), (1, .ref h0), (0, .ref b)]) hx hb dL_law_1500 hl (Nat.le_of_ble_eq_true rfl) rfl (fun ls hl => ?_)
      refine lv_aload_n hx hb dL_law_1502 rfl (lv_at hl 4 rfl) ?_
      refine lv_aload_n hx hb dL_law_1503 rfl (lv_at hl 6 rfl) ?_
      refine lv_iload hx hb dL_law_1504 (lv_at hl 1 rfl) ?_
      refine lv_iconst (v := 1) hx hb dL_law_1506 (by decide) ?_
      refine lv_iadd hx hb dL_law_1507 ?_
      refine lv_topi (fun y12 ey12 => ?_)
      obtain rfl : y12 = 1 := ey12.trans (by decide)
      refine va_sld hx hb hX9 hbl hbA hS (show ¬ (_ ∨ _) by decide) dL_law_1508 ?_
      refine W.eq (g2 := F0 m 1509 ls [.int (xs 1), .ref k0]) rfl ?_
      refine lv_aload_n hx hb dL_law_1509 rfl (lv_at hl 6 rfl) ?_
      refine lv_iload hx hb dL_law_1510 (lv_at hl 1 rfl) ?_
      refine lv_iconst (v := 2) hx hb dL_law_1512 (by decide) ?_
      refine lv_iadd hx hb dL_law_1513 ?_
      refine lv_topi (fun y13 ey13 => ?_)
      obtain rfl : y13 = 2 := ey13.trans (by decide)
      refine va_sld hx hb hX9 hbl hbA hS (show ¬ (_ ∨ _) by decide) dL_law_1514 ?_
      refine W.eq (g2 := F0 m 1515 ls [.int (xs 2), .int (xs 1), .ref k0]) rfl ?_
      have hPc := hP.sub (ws' := [(k0, .inr (9, [.ref kN, .ref kA, .ref kO, .ref kK, .ref kV, .ref kG, .ref kP, .ref kC, .ref kD, .ref kE, .ref kF, .ref kX, .ref kY, .int 0, .ref kT, .ref kU, .int 0, .int 0, .int 0])), (kN, .inl (cI, 2, .inl (fun _ => 0))), (kA, .inl (cI, 2, .inl (fun _ => 0)))]) [0, 1, 2] rfl
      have hDc := hD.sub (ws' := [(k0, .inr (9, [.ref kN, .ref kA, .ref kO, .ref kK, .ref kV, .ref kG, .ref kP, .ref kC, .ref kD, .ref kE, .ref kF, .ref kX, .ref kY, .int 0, .ref kT, .ref kU, .int 0, .int 0, .int 0])), (kN, .inl (cI, 2, .inl (fun _ => 0))), (kA, .inl (cI, 2, .inl (fun _ => 0)))]) [0, 1, 2] (by decide) rfl
      have hKc := hK.sub (tys' := [(cI, .int)]) [0] rfl
      have hFc := va_free (wc := [(k0, .inr (9, [.ref kN, .ref kA, .ref kO, .ref kK, .ref kV, .ref kG, .ref kP, .ref kC, .ref kD, .ref kE, .ref kF, .ref kX, .ref kY, .int 0, .ref kT, .ref kU, .int 0, .int 0, .int 0])), (kN, .inl (cI, 2, .inl (fun _ => 0))), (kA, .inl (cI, 2, .inl (fun _ => 0)))]) hD hS hA [0, 1, 2] rfl
      refine va_calli (va_runV (As := [.int (xs 1), .int (xs 2)]) (rest := []) ⟨hx, hb, hml, hown, hts⟩ (kX6_distance l dC dI k0 kN kA kO kK kV kG kP kC kD kE kF kX kY kT kU cI (xs 1) (xs 2) H.size) (cwV 2 hts gL_law_X6_distance rfl rfl rfl (by decide +kernel) ⟨Nat.le_of_ble_eq_true rfl, Nat.le_of_ble_eq_true rfl⟩) (fPreV hN hZ hS (fun q h => hFc q h) hPc hKc hDc (ci := 9) (q0 := 0) rfl rfl) rfl rfl hl.1 rfl (lv_room (Nat.le_of_ble_eq_true rfl)) dL_law_1515 ⟨Nat.le_of_ble_eq_true rfl, Nat.le_of_ble_eq_true rfl⟩) hS (fun q _ h => hFc q h) hFc (fun r u t H1 locs ht hvm hw hB hz1 hk1 hS => ?_)
      obtain ⟨hP1, hK1, hD1⟩ := hB
      rw [ht] at hP1
      have hK1 := va_K.moved hvm.symm hK1
      obtain ⟨u14, rfl⟩ : ∃ z, z = u := ⟨_, rfl⟩
      obtain ⟨hP, hD⟩ := va_join (wr := [(oJ, .inl (cJ, 1, .inr (.inl u3)))]) (w1 := [(k0, .inr (9, [.ref kN, .ref kA, .ref kO, .ref kK, .ref kV, .ref kG, .ref kP, .ref kC, .ref kD, .ref kE, .ref kF, .ref kX, .ref kY, .int 0, .ref kT, .ref kU, .int u14, .int 0, .int 0]))]) hP hD [0, 1, 2] [3] rfl rfl (by decide) (by decide) hk1 hFc hP1 hD1
      generalize H1 = H at hP hS ⊢
      have hP : va_P (dC, dI) vwCl [(oJ, .inl (cJ, 1, .inr (.inl u3))), (k0, .inr (9, [.ref kN, .ref kA, .ref kO, .ref kK, .ref kV, .ref kG, .ref kP, .ref kC, .ref kD, .ref kE, .ref kF, .ref kX, .ref kY, .int 0, .ref kT, .ref kU, .int u14, .int 0, .int 0]))] _ := hP
      have hD : va_D A [(oJ, .inl (cJ, 1, .inr (.inl u3))), (k0, .inr (9, [.ref kN, .ref kA, .ref kO, .ref kK, .ref kV, .ref kG, .ref kP, .ref kC, .ref kD, .ref kE, .ref kF, .ref kX, .ref kY, .int 0, .ref kT, .ref kU, .int u14, .int 0, .int 0]))] := hD
      obtain ⟨r15, rfl⟩ : ∃ z, z = r := ⟨_, rfl⟩
      rcases hw with ⟨rfl, hg9⟩ | ⟨rfl, hg9⟩
      · skip
        exact absurd hg9 (hf11)
      · skip
        have hP : va_P (dC, dI) vwCl [(oJ, .inl (cJ, 1, .inr (.inl u3))), (k0, .inr (9, [.ref kN, .ref kA, .ref kO, .ref kK, .ref kV, .ref kG, .ref kP, .ref kC, .ref kD, .ref kE, .ref kF, .ref kX, .ref kY, .int 0, .ref kT, .ref kU, .int 2, .int 0, .int 0]))] _ := hP
        have hD : va_D A [(oJ, .inl (cJ, 1, .inr (.inl u3))), (k0, .inr (9, [.ref kN, .ref kA, .ref kO, .ref kK, .ref kV, .ref kG, .ref kP, .ref kC, .ref kD, .ref kE, .ref kF, .ref kX, .ref kY, .int 0, .ref kT, .ref kU, .int 2, .int 0, .int 0]))] := hD
        refine lv_istore (lv' := [(7, .int r15), (6, .int 2), (5, .int 0), (4, .ref oD), (3, .ref oJ), (2, .ref k0), (1, .ref h0), (0, .ref b)]) hx hb dL_law_1518 hl (Nat.le_of_ble_eq_true rfl) rfl (fun ls hl => ?_)
        refine lv_aload_n hx hb dL_law_1520 rfl (lv_at hl 5 rfl) ?_
        have hPc := hP.sub (ws' := [(k0, .inr (9, [.ref kN, .ref kA, .ref kO, .ref kK, .ref kV, .ref kG, .ref kP, .ref kC, .ref kD, .ref kE, .ref kF, .ref kX, .ref kY, .int 0, .ref kT, .ref kU, .int 2, .int 0, .int 0]))]) [1] rfl
        have hDc := hD.sub (ws' := [(k0, .inr (9, [.ref kN, .ref kA, .ref kO, .ref kK, .ref kV, .ref kG, .ref kP, .ref kC, .ref kD, .ref kE, .ref kF, .ref kX, .ref kY, .int 0, .ref kT, .ref kU, .int 2, .int 0, .int 0]))]) [1] (by decide) rfl
        have hKc := hK.sub (tys' := []) [] rfl
        have hFc := va_free (wc := [(k0, .inr (9, [.ref kN, .ref kA, .ref kO, .ref kK, .ref kV, .ref kG, .ref kP, .ref kC, .ref kD, .ref kE, .ref kF, .ref kX, .ref kY, .int 0, .ref kT, .ref kU, .int 2, .int 0, .int 0]))]) hD hS hA [1] rfl
        refine va_calli (va_runV (As := []) (rest := []) ⟨hx, hb, hml, hown, hts⟩ (kX6_thrown l dC dI k0 kN kA kO kK kV kG kP kC kD kE kF kX kY kT kU 2 H.size) (cwV 0 hts gL_law_X6_thrown rfl rfl rfl (by decide +kernel) ⟨Nat.le_of_ble_eq_true rfl, Nat.le_of_ble_eq_true rfl⟩) (fPreV hN hZ hS (fun q h => hFc q h) hPc hKc hDc (ci := 9) (q0 := 0) rfl rfl) rfl rfl hl.1 rfl (lv_room (Nat.le_of_ble_eq_true rfl)) dL_law_1521 ⟨Nat.le_of_ble_eq_true rfl, Nat.le_of_ble_eq_true rfl⟩) hS (fun q _ h => hFc q h) hFc (fun r u t H1 locs ht hvm hw hB hz1 hk1 hS => ?_)
        obtain ⟨hP1, hK1, hD1⟩ := hB
        rw [ht] at hP1
        have hK1 := va_K.moved hvm.symm hK1
        obtain ⟨hP, hD⟩ := va_join (wr := [(oJ, .inl (cJ, 1, .inr (.inl u3)))]) (w1 := []) hP hD [1] [0] rfl rfl (by decide) (by decide) hk1 hFc hP1 hD1
        generalize H1 = H at hP hS ⊢
        have hP : va_P (dC, dI) vwCl [(oJ, .inl (cJ, 1, .inr (.inl u3)))] _ := hP
        have hD : va_D A [(oJ, .inl (cJ, 1, .inr (.inl u3)))] := hD
        subst hw
        refine lv_iload hx hb dL_law_1524 (lv_at hl 1 rfl) ?_
        refine lv_icmp_eq (tgt := 1531) hx hb dL_law_1526 (by decide) (fun _ => ?_) (fun h9 => absurd (by decide) h9)
        refine lv_iload hx hb dL_law_1531 (lv_at hl 1 rfl) ?_
        refine lv_if_ne (tgt := 1548) hx hb dL_law_1533 (by decide) (fun _ => ?_) (fun h9 => absurd h9 (by decide))
        refine lv_goto (tgt := 2720) hx hb dL_law_1548 (by decide) ?_
        refine lv_iinc (v := 7) (lv' := [(5, .int 7), (7, .int r15), (6, .int 2), (4, .ref oD), (3, .ref oJ), (2, .ref k0), (1, .ref h0), (0, .ref b)]) hx hb dL_law_2720 hl (k := 2) rfl (by decide) (Nat.le_of_ble_eq_true rfl) rfl (fun ls hl => ?_)
        refine lv_goto (tgt := 28) hx hb dL_law_2723 (by decide) ?_
        refine lv_iload hx hb dL_law_28 (lv_at hl 0 rfl) ?_
        refine lv_aload_n hx hb dL_law_30 rfl (lv_at hl 7 rfl) ?_
        refine va_slen hx hb hX9 hbl hbA hS dL_law_31 ?_
        refine W.eq (g2 := F0 m 32 ls [.int 7, .int 7]) rfl ?_
        refine lv_bipush (v := 7) hx hb dL_law_32 (by decide) ?_
        refine lv_isub hx hb dL_law_34 ?_
        refine lv_topi (fun y16 ey16 => ?_)
        obtain rfl : y16 = 0 := ey16.trans (by decide)
        refine lv_icmp_gt (tgt := 2726) hx hb dL_law_35 (by decide) (fun _ => ?_) (fun h9 => absurd (by decide) h9)
        refine lv_iconst (v := 1) hx hb dL_law_2726 (by decide) ?_
        refine va_forget (fun q hq => hAe _ (hS.2.2 q hq)) ?_
        refine W.widen (k := 600006) (n := 7302048) (Nat.le_of_ble_eq_true rfl) (Nat.le_of_ble_eq_true rfl) ?_
        exact W.base (lw_ret (d0 := s.drawn) (Drawn.sameBut.refl _ _) hx hb hr hlk dL_law_2727)

set_option maxHeartbeats 4000000 in
set_option maxRecDepth 100000 in
/-- case 19 of the law: labelLength, on fresh objects -/
theorem lc_19 {p : Program} {e : Env} {s : State} {m : MethodId} {below : List Frame} {meth : Method} {c : Code} (l : Launch) (hfl : l.stackTraces = false) {b : Nat} {xs : Nat → Int32} (hx : p.tables.exec = Jvm.exec) (hb : c.code = cL_law) (hr : meth.sig.returnType = ret) (hml : c.maxLocals = 9) (hown : s.vm.findClass RL = some m.cls) (hts : ∀ w ∈ wsL_law, w.before #[Value.ref b] s = true) (hlk : meth.locks = false) (A : Nat → Prop) (hAe : ∀ q, A q → s.heap.size ≤ q) (hA : ∀ q : Nat, s.heap.size ≤ q → A q) (hX9 : va_X b 7 xs s s.heap) (hbl : b < s.heap.size) (hN : fN s) (hZ : fZ A s s.heap) (hX : fX s) (dC : Nat → ClassId) (dI : Nat → Nat → Nat) (h0 pr w d on op un wL wK wV wN wS wB dL dK dV dN dS dB ma tm k0 kN kA kO kK kV kG kP kC kD kE kF kX kY kT kU oJ oD : Nat) (cI cJ : ClassId) {H : Heap} {locs : List Loc} {ls : Array Slot} (hK : va_K (dC, dI) vwCl [(cI, .int), (cJ, .long)] s) (hP : va_P (dC, dI) vwCl [(h0, .inr (8, [.ref pr, .ref ma, .ref tm])), (pr, .inr (7, [.ref w, .ref d, .ref on, .ref op, .ref un, .int 0, .int 0])), (w, .inr (3, [.int 0, .int 0, .ref wL, .ref wK, .ref wV, .ref wN, .ref wS, .ref wB, .int 0])), (d, .inr (3, [.int 0, .int 0, .ref dL, .ref dK, .ref dV, .ref dN, .ref dS, .ref dB, .int 0])), (wV, .inl (cI, 10, .inl (fun _ => 0))), (dV, .inl (cI, 10, .inl (fun _ => 0))), (k0, .inr (9, [.ref kN, .ref kA, .ref kO, .ref kK, .ref kV, .ref kG, .ref kP, .ref kC, .ref kD, .ref kE, .ref kF, .ref kX, .ref kY, .int 0, .ref kT, .ref kU, .int 0, .int 0, .int 0])), (kN, .inl (cI, 2, .inl (fun _ => 0))), (kA, .inl (cI, 2, .inl (fun _ => 0))), (oJ, .inl (cJ, 1, .inr (.inl (fun _ => 0))))] H) (hD : va_D A [(h0, .inr (8, [.ref pr, .ref ma, .ref tm])), (pr, .inr (7, [.ref w, .ref d, .ref on, .ref op, .ref un, .int 0, .int 0])), (w, .inr (3, [.int 0, .int 0, .ref wL, .ref wK, .ref wV, .ref wN, .ref wS, .ref wB, .int 0])), (d, .inr (3, [.int 0, .int 0, .ref dL, .ref dK, .ref dV, .ref dN, .ref dS, .ref dB, .int 0])), (wV, .inl (cI, 10, .inl (fun _ => 0))), (dV, .inl (cI, 10, .inl (fun _ => 0))), (k0, .inr (9, [.ref kN, .ref kA, .ref kO, .ref kK, .ref kV, .ref kG, .ref kP, .ref kC, .ref kD, .ref kE, .ref kF, .ref kX, .ref kY, .int 0, .ref kT, .ref kU, .int 0, .int 0, .int 0])), (kN, .inl (cI, 2, .inl (fun _ => 0))), (kA, .inl (cI, 2, .inl (fun _ => 0))), (oJ, .inl (cJ, 1, .inr (.inl (fun _ => 0))))]) (hS : va_S A s.heap H locs) (hl : lv_has ls 9 [(5, .int 0), (4, .ref oD), (3, .ref oJ), (2, .ref k0), (1, .ref h0), (0, .ref b)]) : W p l e room_1 s m #[Value.ref b] below meth c H locs 114 2061 (lw_Z below #[Value.ref b] s) (F0 m 1551 ls []) := by
  have hbA : ¬ A b := fun h => Nat.not_le.mpr hbl (hAe _ h)
  have hX0 := hX
  refine lv_aload_n hx hb dL_law_1551 rfl (lv_at hl 4 rfl) ?_
  refine lv_aload_n hx hb dL_law_1552 rfl (lv_at hl 5 rfl) ?_
  refine lv_iload hx hb dL_law_1553 (lv_at hl 0 rfl) ?_
  refine lv_iconst (v := 1) hx hb dL_law_1555 (by decide) ?_
  refine lv_iadd hx hb dL_law_1556 ?_
  refine lv_topi (fun y1 ey1 => ?_)
  obtain rfl : y1 = 1 := ey1.trans (by decide)
  refine va_sld hx hb hX9 hbl hbA hS (show ¬ (_ ∨ _) by decide) dL_law_1557 ?_
  refine W.eq (g2 := F0 m 1558 ls [.int (xs 1), .ref h0]) rfl ?_
  refine lv_aload_n hx hb dL_law_1558 rfl (lv_at hl 5 rfl) ?_
  refine lv_iload hx hb dL_law_1559 (lv_at hl 0 rfl) ?_
  refine lv_iconst (v := 2) hx hb dL_law_1561 (by decide) ?_
  refine lv_iadd hx hb dL_law_1562 ?_
  refine lv_topi (fun y2 ey2 => ?_)
  obtain rfl : y2 = 2 := ey2.trans (by decide)
  refine va_sld hx hb hX9 hbl hbA hS (show ¬ (_ ∨ _) by decide) dL_law_1563 ?_
  refine W.eq (g2 := F0 m 1564 ls [.int (xs 2), .int (xs 1), .ref h0]) rfl ?_
  refine lv_aload_n hx hb dL_law_1564 rfl (lv_at hl 2 rfl) ?_
  have hPc := hP.sub (ws' := [(h0, .inr (8, [.ref pr, .ref ma, .ref tm])), (pr, .inr (7, [.ref w, .ref d, .ref on, .ref op, .ref un, .int 0, .int 0])), (w, .inr (3, [.int 0, .int 0, .ref wL, .ref wK, .ref wV, .ref wN, .ref wS, .ref wB, .int 0])), (d, .inr (3, [.int 0, .int 0, .ref dL, .ref dK, .ref dV, .ref dN, .ref dS, .ref dB, .int 0])), (wV, .inl (cI, 10, .inl (fun _ => 0))), (dV, .inl (cI, 10, .inl (fun _ => 0))), (oJ, .inl (cJ, 1, .inr (.inl (fun _ => 0))))]) [0, 1, 2, 3, 4, 5, 9] rfl
  have hDc := hD.sub (ws' := [(h0, .inr (8, [.ref pr, .ref ma, .ref tm])), (pr, .inr (7, [.ref w, .ref d, .ref on, .ref op, .ref un, .int 0, .int 0])), (w, .inr (3, [.int 0, .int 0, .ref wL, .ref wK, .ref wV, .ref wN, .ref wS, .ref wB, .int 0])), (d, .inr (3, [.int 0, .int 0, .ref dL, .ref dK, .ref dV, .ref dN, .ref dS, .ref dB, .int 0])), (wV, .inl (cI, 10, .inl (fun _ => 0))), (dV, .inl (cI, 10, .inl (fun _ => 0))), (oJ, .inl (cJ, 1, .inr (.inl (fun _ => 0))))]) [0, 1, 2, 3, 4, 5, 9] (by decide) rfl
  have hKc := hK.sub (tys' := [(cI, .int), (cJ, .long)]) [0, 1] rfl
  have hFc := va_free (wc := [(h0, .inr (8, [.ref pr, .ref ma, .ref tm])), (pr, .inr (7, [.ref w, .ref d, .ref on, .ref op, .ref un, .int 0, .int 0])), (w, .inr (3, [.int 0, .int 0, .ref wL, .ref wK, .ref wV, .ref wN, .ref wS, .ref wB, .int 0])), (d, .inr (3, [.int 0, .int 0, .ref dL, .ref dK, .ref dV, .ref dN, .ref dS, .ref dB, .int 0])), (wV, .inl (cI, 10, .inl (fun _ => 0))), (dV, .inl (cI, 10, .inl (fun _ => 0))), (oJ, .inl (cJ, 1, .inr (.inl (fun _ => 0))))]) hD hS hA [0, 1, 2, 3, 4, 5, 9] rfl
  refine vx_calli (vx_runSX (As := [.ref h0, .int (xs 1), .int (xs 2), .ref oJ]) (rest := []) ⟨hx, hb, hml, hown, hts⟩ (kL_labelLength l hfl dC dI h0 pr ma tm w d on op un wL wK wV wN wS wB dL dK dV dN dS dB cI oJ cJ (xs 1) (xs 2) H.size) (vx_cwSW 4 hts gL_law_L_labelLength rfl rfl rfl (by decide +kernel) ⟨Nat.le_of_ble_eq_true rfl, Nat.le_of_ble_eq_true rfl⟩) (gPreS hX hN hZ hS (fun q h => hFc q h) hPc hKc hDc) rfl rfl hl.1 rfl (lv_room (Nat.le_of_ble_eq_true rfl)) dL_law_1565 ⟨Nat.le_of_ble_eq_true rfl, Nat.le_of_ble_eq_true rfl⟩) hS (fun q _ h => hFc q h) hFc (fun q _ h => hFc q h) (fun E ce q9 u t H locs ht hvm hpx hE hz1 hk1 hS hq9 hv9 hc9 => ?_) (fun r u t H1 locs ht hvm hw hB hz1 hk1 hS => ?_)
  · skip
    exact hE.elim
  · skip
    obtain ⟨hP1, hK1, hD1⟩ := hB
    rw [ht] at hP1
    have hK1 := va_K.moved hvm.symm hK1
    obtain ⟨u3, rfl⟩ : ∃ z, z = u := ⟨_, rfl⟩
    obtain ⟨hP, hD⟩ := va_join (wr := [(k0, .inr (9, [.ref kN, .ref kA, .ref kO, .ref kK, .ref kV, .ref kG, .ref kP, .ref kC, .ref kD, .ref kE, .ref kF, .ref kX, .ref kY, .int 0, .ref kT, .ref kU, .int 0, .int 0, .int 0])), (kN, .inl (cI, 2, .inl (fun _ => 0))), (kA, .inl (cI, 2, .inl (fun _ => 0)))]) (w1 := [(oJ, .inl (cJ, 1, .inr (.inl u3)))]) hP hD [0, 1, 2, 3, 4, 5, 9] [6, 7, 8] rfl rfl (by decide) (by decide) hk1 hFc hP1 hD1
    generalize H1 = H at hP hS ⊢
    have hP : va_P (dC, dI) vwCl [(k0, .inr (9, [.ref kN, .ref kA, .ref kO, .ref kK, .ref kV, .ref kG, .ref kP, .ref kC, .ref kD, .ref kE, .ref kF, .ref kX, .ref kY, .int 0, .ref kT, .ref kU, .int 0, .int 0, .int 0])), (kN, .inl (cI, 2, .inl (fun _ => 0))), (kA, .inl (cI, 2, .inl (fun _ => 0))), (oJ, .inl (cJ, 1, .inr (.inl u3)))] _ := hP
    have hD : va_D A [(k0, .inr (9, [.ref kN, .ref kA, .ref kO, .ref kK, .ref kV, .ref kG, .ref kP, .ref kC, .ref kD, .ref kE, .ref kF, .ref kX, .ref kY, .int 0, .ref kT, .ref kU, .int 0, .int 0, .int 0])), (kN, .inl (cI, 2, .inl (fun _ => 0))), (kA, .inl (cI, 2, .inl (fun _ => 0))), (oJ, .inl (cJ, 1, .inr (.inl u3)))] := hD
    refine W.widen (k := 116) (n := 2073) (Nat.le_of_ble_eq_true rfl) (Nat.le_of_ble_eq_true rfl) ?_
    rcases hw with ⟨rfl, hf9⟩ | ⟨rfl, hf9⟩
    · skip
      have hf4 := hf9
      refine lv_istore (lv' := [(6, .int 1), (5, .int 0), (4, .ref oD), (3, .ref oJ), (2, .ref k0), (1, .ref h0), (0, .ref b)]) hx hb dL_law_1568 hl (Nat.le_of_ble_eq_true rfl) rfl (fun ls hl => ?_)
      refine lv_aload_n hx hb dL_law_1570 rfl (lv_at hl 4 rfl) ?_
      refine lv_aload_n hx hb dL_law_1571 rfl (lv_at hl 6 rfl) ?_
      refine lv_iload hx hb dL_law_1572 (lv_at hl 1 rfl) ?_
      refine lv_iconst (v := 1) hx hb dL_law_1574 (by decide) ?_
      refine lv_iadd hx hb dL_law_1575 ?_
      refine lv_topi (fun y5 ey5 => ?_)
      obtain rfl : y5 = 1 := ey5.trans (by decide)
      refine va_sld hx hb hX9 hbl hbA hS (show ¬ (_ ∨ _) by decide) dL_law_1576 ?_
      refine W.eq (g2 := F0 m 1577 ls [.int (xs 1), .ref k0]) rfl ?_
      refine lv_aload_n hx hb dL_law_1577 rfl (lv_at hl 6 rfl) ?_
      refine lv_iload hx hb dL_law_1578 (lv_at hl 1 rfl) ?_
      refine lv_iconst (v := 2) hx hb dL_law_1580 (by decide) ?_
      refine lv_iadd hx hb dL_law_1581 ?_
      refine lv_topi (fun y6 ey6 => ?_)
      obtain rfl : y6 = 2 := ey6.trans (by decide)
      refine va_sld hx hb hX9 hbl hbA hS (show ¬ (_ ∨ _) by decide) dL_law_1582 ?_
      refine W.eq (g2 := F0 m 1583 ls [.int (xs 2), .int (xs 1), .ref k0]) rfl ?_
      have hPc := hP.sub (ws' := [(k0, .inr (9, [.ref kN, .ref kA, .ref kO, .ref kK, .ref kV, .ref kG, .ref kP, .ref kC, .ref kD, .ref kE, .ref kF, .ref kX, .ref kY, .int 0, .ref kT, .ref kU, .int 0, .int 0, .int 0])), (kN, .inl (cI, 2, .inl (fun _ => 0))), (kA, .inl (cI, 2, .inl (fun _ => 0)))]) [0, 1, 2] rfl
      have hDc := hD.sub (ws' := [(k0, .inr (9, [.ref kN, .ref kA, .ref kO, .ref kK, .ref kV, .ref kG, .ref kP, .ref kC, .ref kD, .ref kE, .ref kF, .ref kX, .ref kY, .int 0, .ref kT, .ref kU, .int 0, .int 0, .int 0])), (kN, .inl (cI, 2, .inl (fun _ => 0))), (kA, .inl (cI, 2, .inl (fun _ => 0)))]) [0, 1, 2] (by decide) rfl
      have hKc := hK.sub (tys' := [(cI, .int)]) [0] rfl
      have hFc := va_free (wc := [(k0, .inr (9, [.ref kN, .ref kA, .ref kO, .ref kK, .ref kV, .ref kG, .ref kP, .ref kC, .ref kD, .ref kE, .ref kF, .ref kX, .ref kY, .int 0, .ref kT, .ref kU, .int 0, .int 0, .int 0])), (kN, .inl (cI, 2, .inl (fun _ => 0))), (kA, .inl (cI, 2, .inl (fun _ => 0)))]) hD hS hA [0, 1, 2] rfl
      refine va_calli (va_runV (As := [.int (xs 1), .int (xs 2)]) (rest := []) ⟨hx, hb, hml, hown, hts⟩ (kX6_labelLength l dC dI k0 kN kA kO kK kV kG kP kC kD kE kF kX kY kT kU cI (xs 1) (xs 2) H.size) (cwV 2 hts gL_law_X6_labelLength rfl rfl rfl (by decide +kernel) ⟨Nat.le_of_ble_eq_true rfl, Nat.le_of_ble_eq_true rfl⟩) (fPreV hN hZ hS (fun q h => hFc q h) hPc hKc hDc (ci := 9) (q0 := 0) rfl rfl) rfl rfl hl.1 rfl (lv_room (Nat.le_of_ble_eq_true rfl)) dL_law_1583 ⟨Nat.le_of_ble_eq_true rfl, Nat.le_of_ble_eq_true rfl⟩) hS (fun q _ h => hFc q h) hFc (fun r u t H1 locs ht hvm hw hB hz1 hk1 hS => ?_)
      obtain ⟨hP1, hK1, hD1⟩ := hB
      rw [ht] at hP1
      have hK1 := va_K.moved hvm.symm hK1
      obtain ⟨u7, rfl⟩ : ∃ z, z = u := ⟨_, rfl⟩
      obtain ⟨hP, hD⟩ := va_join (wr := [(oJ, .inl (cJ, 1, .inr (.inl u3)))]) (w1 := [(k0, .inr (9, [.ref kN, .ref kA, .ref kO, .ref kK, .ref kV, .ref kG, .ref kP, .ref kC, .ref kD, .ref kE, .ref kF, .ref kX, .ref kY, .int 0, .ref kT, .ref kU, .int u7, .int 0, .int 0]))]) hP hD [0, 1, 2] [3] rfl rfl (by decide) (by decide) hk1 hFc hP1 hD1
      generalize H1 = H at hP hS ⊢
      have hP : va_P (dC, dI) vwCl [(oJ, .inl (cJ, 1, .inr (.inl u3))), (k0, .inr (9, [.ref kN, .ref kA, .ref kO, .ref kK, .ref kV, .ref kG, .ref kP, .ref kC, .ref kD, .ref kE, .ref kF, .ref kX, .ref kY, .int 0, .ref kT, .ref kU, .int u7, .int 0, .int 0]))] _ := hP
      have hD : va_D A [(oJ, .inl (cJ, 1, .inr (.inl u3))), (k0, .inr (9, [.ref kN, .ref kA, .ref kO, .ref kK, .ref kV, .ref kG, .ref kP, .ref kC, .ref kD, .ref kE, .ref kF, .ref kX, .ref kY, .int 0, .ref kT, .ref kU, .int u7, .int 0, .int 0]))] := hD
      obtain ⟨r8, rfl⟩ : ∃ z, z = r := ⟨_, rfl⟩
      rcases hw with ⟨rfl, hg9⟩ | ⟨rfl, hg9⟩
      · skip
        have hP : va_P (dC, dI) vwCl [(oJ, .inl (cJ, 1, .inr (.inl u3))), (k0, .inr (9, [.ref kN, .ref kA, .ref kO, .ref kK, .ref kV, .ref kG, .ref kP, .ref kC, .ref kD, .ref kE, .ref kF, .ref kX, .ref kY, .int 0, .ref kT, .ref kU, .int 1, .int 0, .int 0]))] _ := hP
        have hD : va_D A [(oJ, .inl (cJ, 1, .inr (.inl u3))), (k0, .inr (9, [.ref kN, .ref kA, .ref kO, .ref kK, .ref kV, .ref kG, .ref kP, .ref kC, .ref kD, .ref kE, .ref kF, .ref kX, .ref kY, .int 0, .ref kT, .ref kU, .int 1, .int 0, .int 0]))] := hD
        refine lv_istore (lv' := [(7, .int r8), (6, .int 1), (5, .int 0), (4, .ref oD), (3, .ref oJ), (2, .ref k0), (1, .ref h0), (0, .ref b)]) hx hb dL_law_1586 hl (Nat.le_of_ble_eq_true rfl) rfl (fun ls hl => ?_)
        refine lv_aload_n hx hb dL_law_1588 rfl (lv_at hl 5 rfl) ?_
        have hPc := hP.sub (ws' := [(k0, .inr (9, [.ref kN, .ref kA, .ref kO, .ref kK, .ref kV, .ref kG, .ref kP, .ref kC, .ref kD, .ref kE, .ref kF, .ref kX, .ref kY, .int 0, .ref kT, .ref kU, .int 1, .int 0, .int 0]))]) [1] rfl
        have hDc := hD.sub (ws' := [(k0, .inr (9, [.ref kN, .ref kA, .ref kO, .ref kK, .ref kV, .ref kG, .ref kP, .ref kC, .ref kD, .ref kE, .ref kF, .ref kX, .ref kY, .int 0, .ref kT, .ref kU, .int 1, .int 0, .int 0]))]) [1] (by decide) rfl
        have hKc := hK.sub (tys' := []) [] rfl
        have hFc := va_free (wc := [(k0, .inr (9, [.ref kN, .ref kA, .ref kO, .ref kK, .ref kV, .ref kG, .ref kP, .ref kC, .ref kD, .ref kE, .ref kF, .ref kX, .ref kY, .int 0, .ref kT, .ref kU, .int 1, .int 0, .int 0]))]) hD hS hA [1] rfl
        refine va_calli (va_runV (As := []) (rest := []) ⟨hx, hb, hml, hown, hts⟩ (kX6_thrown l dC dI k0 kN kA kO kK kV kG kP kC kD kE kF kX kY kT kU 1 H.size) (cwV 0 hts gL_law_X6_thrown rfl rfl rfl (by decide +kernel) ⟨Nat.le_of_ble_eq_true rfl, Nat.le_of_ble_eq_true rfl⟩) (fPreV hN hZ hS (fun q h => hFc q h) hPc hKc hDc (ci := 9) (q0 := 0) rfl rfl) rfl rfl hl.1 rfl (lv_room (Nat.le_of_ble_eq_true rfl)) dL_law_1589 ⟨Nat.le_of_ble_eq_true rfl, Nat.le_of_ble_eq_true rfl⟩) hS (fun q _ h => hFc q h) hFc (fun r u t H1 locs ht hvm hw hB hz1 hk1 hS => ?_)
        obtain ⟨hP1, hK1, hD1⟩ := hB
        rw [ht] at hP1
        have hK1 := va_K.moved hvm.symm hK1
        obtain ⟨hP, hD⟩ := va_join (wr := [(oJ, .inl (cJ, 1, .inr (.inl u3)))]) (w1 := []) hP hD [1] [0] rfl rfl (by decide) (by decide) hk1 hFc hP1 hD1
        generalize H1 = H at hP hS ⊢
        have hP : va_P (dC, dI) vwCl [(oJ, .inl (cJ, 1, .inr (.inl u3)))] _ := hP
        have hD : va_D A [(oJ, .inl (cJ, 1, .inr (.inl u3)))] := hD
        subst hw
        refine lv_iload hx hb dL_law_1592 (lv_at hl 1 rfl) ?_
        refine lv_icmp_eq (tgt := 1599) hx hb dL_law_1594 (by decide) (fun _ => ?_) (fun h9 => absurd (by decide) h9)
        refine lv_iload hx hb dL_law_1599 (lv_at hl 1 rfl) ?_
        refine lv_if_ne (tgt := 1616) hx hb dL_law_1601 (by decide) (fun _ => ?_) (fun h9 => absurd h9 (by decide))
        refine lv_goto (tgt := 2720) hx hb dL_law_1616 (by decide) ?_
        refine lv_iinc (v := 7) (lv' := [(5, .int 7), (7, .int r8), (6, .int 1), (4, .ref oD), (3, .ref oJ), (2, .ref k0), (1, .ref h0), (0, .ref b)]) hx hb dL_law_2720 hl (k := 2) rfl (by decide) (Nat.le_of_ble_eq_true rfl) rfl (fun ls hl => ?_)
        refine lv_goto (tgt := 28) hx hb dL_law_2723 (by decide) ?_
        refine lv_iload hx hb dL_law_28 (lv_at hl 0 rfl) ?_
        refine lv_aload_n hx hb dL_law_30 rfl (lv_at hl 7 rfl) ?_
        refine va_slen hx hb hX9 hbl hbA hS dL_law_31 ?_
        refine W.eq (g2 := F0 m 32 ls [.int 7, .int 7]) rfl ?_
        refine lv_bipush (v := 7) hx hb dL_law_32 (by decide) ?_
        refine lv_isub hx hb dL_law_34 ?_
        refine lv_topi (fun y10 ey10 => ?_)
        obtain rfl : y10 = 0 := ey10.trans (by decide)
        refine lv_icmp_gt (tgt := 2726) hx hb dL_law_35 (by decide) (fun _ => ?_) (fun h9 => absurd (by decide) h9)
        refine lv_iconst (v := 1) hx hb dL_law_2726 (by decide) ?_
        refine va_forget (fun q hq => hAe _ (hS.2.2 q hq)) ?_
        refine W.widen (k := 600006) (n := 7302048) (Nat.le_of_ble_eq_true rfl) (Nat.le_of_ble_eq_true rfl) ?_
        exact W.base (lw_ret (d0 := s.drawn) (Drawn.sameBut.refl _ _) hx hb hr hlk dL_law_2727)
      · skip
        exact absurd hg9 ((fun h9 => h9 (hf4)))
    · skip
      have hf11 := hf9
      refine lv_istore (lv' := [(6, .int 2), (5, .int 0), (4, .ref oD), (3, .ref oJ), (2, .ref k0), (1, .ref h0), (0, .ref b)]) hx hb dL_law_1568 hl (Nat.le_of_ble_eq_true rfl) rfl (fun ls hl => ?_)
      refine lv_aload_n hx hb dL_law_1570 rfl (lv_at hl 4 rfl) ?_
      refine lv_aload_n hx hb dL_law_1571 rfl (lv_at hl 6 rfl) ?_
      refine lv_iload hx hb dL_law_1572 (lv_at hl 1 rfl) ?_
      refine lv_iconst (v := 1) hx hb dL_law_1574 (by decide) ?_
      refine lv_iadd hx hb dL_law_1575 ?_
      refine lv_topi (fun y12 ey12 => ?_)
      obtain rfl : y12 = 1 := ey12.trans (by decide)
      refine va_sld hx hb hX9 hbl hbA hS (show ¬ (_ ∨ _) by decide) dL_law_1576 ?_
      refine W.eq (g2 := F0 m 1577 ls [.int (xs 1), .ref k0]) rfl ?_
      refine lv_aload_n hx hb dL_law_1577 rfl (lv_at hl 6 rfl) ?_
      refine lv_iload hx hb dL_law_1578 (lv_at hl 1 rfl) ?_
      refine lv_iconst (v := 2) hx hb dL_law_1580 (by decide) ?_
      refine lv_iadd hx hb dL_law_1581 ?_
      refine lv_topi (fun y13 ey13 => ?_)
      obtain rfl : y13 = 2 := ey13.trans (by decide)
      refine va_sld hx hb hX9 hbl hbA hS (show ¬ (_ ∨ _) by decide) dL_law_1582 ?_
      refine W.eq (g2 := F0 m 1583 ls [.int (xs 2), .int (xs 1), .ref k0]) rfl ?_
      have hPc := hP.sub (ws' := [(k0, .inr (9, [.ref kN, .ref kA, .ref kO, .ref kK, .ref kV, .ref kG, .ref kP, .ref kC, .ref kD, .ref kE, .ref kF, .ref kX, .ref kY, .int 0, .ref kT, .ref kU, .int 0, .int 0, .int 0])), (kN, .inl (cI, 2, .inl (fun _ => 0))), (kA, .inl (cI, 2, .inl (fun _ => 0)))]) [0, 1, 2] rfl
      have hDc := hD.sub (ws' := [(k0, .inr (9, [.ref kN, .ref kA, .ref kO, .ref kK, .ref kV, .ref kG, .ref kP, .ref kC, .ref kD, .ref kE, .ref kF, .ref kX, .ref kY, .int 0, .ref kT, .ref kU, .int 0, .int 0, .int 0])), (kN, .inl (cI, 2, .inl (fun _ => 0))), (kA, .inl (cI, 2, .inl (fun _ => 0)))]) [0, 1, 2] (by decide) rfl
      have hKc := hK.sub (tys' := [(cI, .int)]) [0] rfl
      have hFc := va_free (wc := [(k0, .inr (9, [.ref kN, .ref kA, .ref kO, .ref kK, .ref kV, .ref kG, .ref kP, .ref kC, .ref kD, .ref kE, .ref kF, .ref kX, .ref kY, .int 0, .ref kT, .ref kU, .int 0, .int 0, .int 0])), (kN, .inl (cI, 2, .inl (fun _ => 0))), (kA, .inl (cI, 2, .inl (fun _ => 0)))]) hD hS hA [0, 1, 2] rfl
      refine va_calli (va_runV (As := [.int (xs 1), .int (xs 2)]) (rest := []) ⟨hx, hb, hml, hown, hts⟩ (kX6_labelLength l dC dI k0 kN kA kO kK kV kG kP kC kD kE kF kX kY kT kU cI (xs 1) (xs 2) H.size) (cwV 2 hts gL_law_X6_labelLength rfl rfl rfl (by decide +kernel) ⟨Nat.le_of_ble_eq_true rfl, Nat.le_of_ble_eq_true rfl⟩) (fPreV hN hZ hS (fun q h => hFc q h) hPc hKc hDc (ci := 9) (q0 := 0) rfl rfl) rfl rfl hl.1 rfl (lv_room (Nat.le_of_ble_eq_true rfl)) dL_law_1583 ⟨Nat.le_of_ble_eq_true rfl, Nat.le_of_ble_eq_true rfl⟩) hS (fun q _ h => hFc q h) hFc (fun r u t H1 locs ht hvm hw hB hz1 hk1 hS => ?_)
      obtain ⟨hP1, hK1, hD1⟩ := hB
      rw [ht] at hP1
      have hK1 := va_K.moved hvm.symm hK1
      obtain ⟨u14, rfl⟩ : ∃ z, z = u := ⟨_, rfl⟩
      obtain ⟨hP, hD⟩ := va_join (wr := [(oJ, .inl (cJ, 1, .inr (.inl u3)))]) (w1 := [(k0, .inr (9, [.ref kN, .ref kA, .ref kO, .ref kK, .ref kV, .ref kG, .ref kP, .ref kC, .ref kD, .ref kE, .ref kF, .ref kX, .ref kY, .int 0, .ref kT, .ref kU, .int u14, .int 0, .int 0]))]) hP hD [0, 1, 2] [3] rfl rfl (by decide) (by decide) hk1 hFc hP1 hD1
      generalize H1 = H at hP hS ⊢
      have hP : va_P (dC, dI) vwCl [(oJ, .inl (cJ, 1, .inr (.inl u3))), (k0, .inr (9, [.ref kN, .ref kA, .ref kO, .ref kK, .ref kV, .ref kG, .ref kP, .ref kC, .ref kD, .ref kE, .ref kF, .ref kX, .ref kY, .int 0, .ref kT, .ref kU, .int u14, .int 0, .int 0]))] _ := hP
      have hD : va_D A [(oJ, .inl (cJ, 1, .inr (.inl u3))), (k0, .inr (9, [.ref kN, .ref kA, .ref kO, .ref kK, .ref kV, .ref kG, .ref kP, .ref kC, .ref kD, .ref kE, .ref kF, .ref kX, .ref kY, .int 0, .ref kT, .ref kU, .int u14, .int 0, .int 0]))] := hD
      obtain ⟨r15, rfl⟩ : ∃ z, z = r := ⟨_, rfl⟩
      rcases hw with ⟨rfl, hg9⟩ | ⟨rfl, hg9⟩
      · skip
        exact absurd hg9 (hf11)
      · skip
        have hP : va_P (dC, dI) vwCl [(oJ, .inl (cJ, 1, .inr (.inl u3))), (k0, .inr (9, [.ref kN, .ref kA, .ref kO, .ref kK, .ref kV, .ref kG, .ref kP, .ref kC, .ref kD, .ref kE, .ref kF, .ref kX, .ref kY, .int 0, .ref kT, .ref kU, .int 2, .int 0, .int 0]))] _ := hP
        have hD : va_D A [(oJ, .inl (cJ, 1, .inr (.inl u3))), (k0, .inr (9, [.ref kN, .ref kA, .ref kO, .ref kK, .ref kV, .ref kG, .ref kP, .ref kC, .ref kD, .ref kE, .ref kF, .ref kX, .ref kY, .int 0, .ref kT, .ref kU, .int 2, .int 0, .int 0]))] := hD
        refine lv_istore (lv' := [(7, .int r15), (6, .int 2), (5, .int 0), (4, .ref oD), (3, .ref oJ), (2, .ref k0), (1, .ref h0), (0, .ref b)]) hx hb dL_law_1586 hl (Nat.le_of_ble_eq_true rfl) rfl (fun ls hl => ?_)
        refine lv_aload_n hx hb dL_law_1588 rfl (lv_at hl 5 rfl) ?_
        have hPc := hP.sub (ws' := [(k0, .inr (9, [.ref kN, .ref kA, .ref kO, .ref kK, .ref kV, .ref kG, .ref kP, .ref kC, .ref kD, .ref kE, .ref kF, .ref kX, .ref kY, .int 0, .ref kT, .ref kU, .int 2, .int 0, .int 0]))]) [1] rfl
        have hDc := hD.sub (ws' := [(k0, .inr (9, [.ref kN, .ref kA, .ref kO, .ref kK, .ref kV, .ref kG, .ref kP, .ref kC, .ref kD, .ref kE, .ref kF, .ref kX, .ref kY, .int 0, .ref kT, .ref kU, .int 2, .int 0, .int 0]))]) [1] (by decide) rfl
        have hKc := hK.sub (tys' := []) [] rfl
        have hFc := va_free (wc := [(k0, .inr (9, [.ref kN, .ref kA, .ref kO, .ref kK, .ref kV, .ref kG, .ref kP, .ref kC, .ref kD, .ref kE, .ref kF, .ref kX, .ref kY, .int 0, .ref kT, .ref kU, .int 2, .int 0, .int 0]))]) hD hS hA [1] rfl
        refine va_calli (va_runV (As := []) (rest := []) ⟨hx, hb, hml, hown, hts⟩ (kX6_thrown l dC dI k0 kN kA kO kK kV kG kP kC kD kE kF kX kY kT kU 2 H.size) (cwV 0 hts gL_law_X6_thrown rfl rfl rfl (by decide +kernel) ⟨Nat.le_of_ble_eq_true rfl, Nat.le_of_ble_eq_true rfl⟩) (fPreV hN hZ hS (fun q h => hFc q h) hPc hKc hDc (ci := 9) (q0 := 0) rfl rfl) rfl rfl hl.1 rfl (lv_room (Nat.le_of_ble_eq_true rfl)) dL_law_1589 ⟨Nat.le_of_ble_eq_true rfl, Nat.le_of_ble_eq_true rfl⟩) hS (fun q _ h => hFc q h) hFc (fun r u t H1 locs ht hvm hw hB hz1 hk1 hS => ?_)
        obtain ⟨hP1, hK1, hD1⟩ := hB
        rw [ht] at hP1
        have hK1 := va_K.moved hvm.symm hK1
        obtain ⟨hP, hD⟩ := va_join (wr := [(oJ, .inl (cJ, 1, .inr (.inl u3)))]) (w1 := []) hP hD [1] [0] rfl rfl (by decide) (by decide) hk1 hFc hP1 hD1
        generalize H1 = H at hP hS ⊢
        have hP : va_P (dC, dI) vwCl [(oJ, .inl (cJ, 1, .inr (.inl u3)))] _ := hP
        have hD : va_D A [(oJ, .inl (cJ, 1, .inr (.inl u3)))] := hD
        subst hw
        refine lv_iload hx hb dL_law_1592 (lv_at hl 1 rfl) ?_
        refine lv_icmp_eq (tgt := 1599) hx hb dL_law_1594 (by decide) (fun _ => ?_) (fun h9 => absurd (by decide) h9)
        refine lv_iload hx hb dL_law_1599 (lv_at hl 1 rfl) ?_
        refine lv_if_ne (tgt := 1616) hx hb dL_law_1601 (by decide) (fun _ => ?_) (fun h9 => absurd h9 (by decide))
        refine lv_goto (tgt := 2720) hx hb dL_law_1616 (by decide) ?_
        refine lv_iinc (v := 7) (lv' := [(5, .int 7), (7, .int r15), (6, .int 2), (4, .ref oD), (3, .ref oJ), (2, .ref k0), (1, .ref h0), (0, .ref b)]) hx hb dL_law_2720 hl (k := 2) rfl (by decide) (Nat.le_of_ble_eq_true rfl) rfl (fun ls hl => ?_)
        refine lv_goto (tgt := 28) hx hb dL_law_2723 (by decide) ?_
        refine lv_iload hx hb dL_law_28 (lv_at hl 0 rfl) ?_
        refine lv_aload_n hx hb dL_law_30 rfl (lv_at hl 7 rfl) ?_
        refine va_slen hx hb hX9 hbl hbA hS dL_law_31 ?_
        refine W.eq (g2 := F0 m 32 ls [.int 7, .int 7]) rfl ?_
        refine lv_bipush (v := 7) hx hb dL_law_32 (by decide) ?_
        refine lv_isub hx hb dL_law_34 ?_
        refine lv_topi (fun y16 ey16 => ?_)
        obtain rfl : y16 = 0 := ey16.trans (by decide)
        refine lv_icmp_gt (tgt := 2726) hx hb dL_law_35 (by decide) (fun _ => ?_) (fun h9 => absurd (by decide) h9)
        refine lv_iconst (v := 1) hx hb dL_law_2726 (by decide) ?_
        refine va_forget (fun q hq => hAe _ (hS.2.2 q hq)) ?_
        refine W.widen (k := 600006) (n := 7302048) (Nat.le_of_ble_eq_true rfl) (Nat.le_of_ble_eq_true rfl) ?_
        exact W.base (lw_ret (d0 := s.drawn) (Drawn.sameBut.refl _ _) hx hb hr hlk dL_law_2727)

set_option maxHeartbeats 4000000 in
set_option maxRecDepth 100000 in
/-- case 20 of the law: labelAt, on fresh objects -/
theorem lc_20 {p : Program} {e : Env} {s : State} {m : MethodId} {below : List Frame} {meth : Method} {c : Code} (l : Launch) (hfl : l.stackTraces = false) {b : Nat} {xs : Nat → Int32} (hx : p.tables.exec = Jvm.exec) (hb : c.code = cL_law) (hr : meth.sig.returnType = ret) (hml : c.maxLocals = 9) (hown : s.vm.findClass RL = some m.cls) (hts : ∀ w ∈ wsL_law, w.before #[Value.ref b] s = true) (hlk : meth.locks = false) (A : Nat → Prop) (hAe : ∀ q, A q → s.heap.size ≤ q) (hA : ∀ q : Nat, s.heap.size ≤ q → A q) (hX9 : va_X b 7 xs s s.heap) (hbl : b < s.heap.size) (hN : fN s) (hZ : fZ A s s.heap) (hX : fX s) (dC : Nat → ClassId) (dI : Nat → Nat → Nat) (h0 pr w d on op un wL wK wV wN wS wB dL dK dV dN dS dB ma tm k0 kN kA kO kK kV kG kP kC kD kE kF kX kY kT kU oJ oD : Nat) (cI cJ : ClassId) {H : Heap} {locs : List Loc} {ls : Array Slot} (hK : va_K (dC, dI) vwCl [(cI, .int), (cJ, .long)] s) (hP : va_P (dC, dI) vwCl [(h0, .inr (8, [.ref pr, .ref ma, .ref tm])), (pr, .inr (7, [.ref w, .ref d, .ref on, .ref op, .ref un, .int 0, .int 0])), (w, .inr (3, [.int 0, .int 0, .ref wL, .ref wK, .ref wV, .ref wN, .ref wS, .ref wB, .int 0])), (d, .inr (3, [.int 0, .int 0, .ref dL, .ref dK, .ref dV, .ref dN, .ref dS, .ref dB, .int 0])), (wV, .inl (cI, 10, .inl (fun _ => 0))), (dV, .inl (cI, 10, .inl (fun _ => 0))), (k0, .inr (9, [.ref kN, .ref kA, .ref kO, .ref kK, .ref kV, .ref kG, .ref kP, .ref kC, .ref kD, .ref kE, .ref kF, .ref kX, .ref kY, .int 0, .ref kT, .ref kU, .int 0, .int 0, .int 0])), (kN, .inl (cI, 2, .inl (fun _ => 0))), (kA, .inl (cI, 2, .inl (fun _ => 0))), (oJ, .inl (cJ, 1, .inr (.inl (fun _ => 0))))] H) (hD : va_D A [(h0, .inr (8, [.ref pr, .ref ma, .ref tm])), (pr, .inr (7, [.ref w, .ref d, .ref on, .ref op, .ref un, .int 0, .int 0])), (w, .inr (3, [.int 0, .int 0, .ref wL, .ref wK, .ref wV, .ref wN, .ref wS, .ref wB, .int 0])), (d, .inr (3, [.int 0, .int 0, .ref dL, .ref dK, .ref dV, .ref dN, .ref dS, .ref dB, .int 0])), (wV, .inl (cI, 10, .inl (fun _ => 0))), (dV, .inl (cI, 10, .inl (fun _ => 0))), (k0, .inr (9, [.ref kN, .ref kA, .ref kO, .ref kK, .ref kV, .ref kG, .ref kP, .ref kC, .ref kD, .ref kE, .ref kF, .ref kX, .ref kY, .int 0, .ref kT, .ref kU, .int 0, .int 0, .int 0])), (kN, .inl (cI, 2, .inl (fun _ => 0))), (kA, .inl (cI, 2, .inl (fun _ => 0))), (oJ, .inl (cJ, 1, .inr (.inl (fun _ => 0))))]) (hS : va_S A s.heap H locs) (hl : lv_has ls 9 [(5, .int 0), (4, .ref oD), (3, .ref oJ), (2, .ref k0), (1, .ref h0), (0, .ref b)]) : W p l e room_1 s m #[Value.ref b] below meth c H locs 114 2061 (lw_Z below #[Value.ref b] s) (F0 m 1619 ls []) := by
  have hbA : ¬ A b := fun h => Nat.not_le.mpr hbl (hAe _ h)
  have hX0 := hX
  refine lv_aload_n hx hb dL_law_1619 rfl (lv_at hl 4 rfl) ?_
  refine lv_aload_n hx hb dL_law_1620 rfl (lv_at hl 5 rfl) ?_
  refine lv_iload hx hb dL_law_1621 (lv_at hl 0 rfl) ?_
  refine lv_iconst (v := 1) hx hb dL_law_1623 (by decide) ?_
  refine lv_iadd hx hb dL_law_1624 ?_
  refine lv_topi (fun y1 ey1 => ?_)
  obtain rfl : y1 = 1 := ey1.trans (by decide)
  refine va_sld hx hb hX9 hbl hbA hS (show ¬ (_ ∨ _) by decide) dL_law_1625 ?_
  refine W.eq (g2 := F0 m 1626 ls [.int (xs 1), .ref h0]) rfl ?_
  refine lv_aload_n hx hb dL_law_1626 rfl (lv_at hl 5 rfl) ?_
  refine lv_iload hx hb dL_law_1627 (lv_at hl 0 rfl) ?_
  refine lv_iconst (v := 2) hx hb dL_law_1629 (by decide) ?_
  refine lv_iadd hx hb dL_law_1630 ?_
  refine lv_topi (fun y2 ey2 => ?_)
  obtain rfl : y2 = 2 := ey2.trans (by decide)
  refine va_sld hx hb hX9 hbl hbA hS (show ¬ (_ ∨ _) by decide) dL_law_1631 ?_
  refine W.eq (g2 := F0 m 1632 ls [.int (xs 2), .int (xs 1), .ref h0]) rfl ?_
  refine lv_aload_n hx hb dL_law_1632 rfl (lv_at hl 5 rfl) ?_
  refine lv_iload hx hb dL_law_1633 (lv_at hl 0 rfl) ?_
  refine lv_iconst (v := 3) hx hb dL_law_1635 (by decide) ?_
  refine lv_iadd hx hb dL_law_1636 ?_
  refine lv_topi (fun y3 ey3 => ?_)
  obtain rfl : y3 = 3 := ey3.trans (by decide)
  refine va_sld hx hb hX9 hbl hbA hS (show ¬ (_ ∨ _) by decide) dL_law_1637 ?_
  refine W.eq (g2 := F0 m 1638 ls [.int (xs 3), .int (xs 2), .int (xs 1), .ref h0]) rfl ?_
  refine lv_aload_n hx hb dL_law_1638 rfl (lv_at hl 2 rfl) ?_
  have hPc := hP.sub (ws' := [(h0, .inr (8, [.ref pr, .ref ma, .ref tm])), (pr, .inr (7, [.ref w, .ref d, .ref on, .ref op, .ref un, .int 0, .int 0])), (w, .inr (3, [.int 0, .int 0, .ref wL, .ref wK, .ref wV, .ref wN, .ref wS, .ref wB, .int 0])), (d, .inr (3, [.int 0, .int 0, .ref dL, .ref dK, .ref dV, .ref dN, .ref dS, .ref dB, .int 0])), (wV, .inl (cI, 10, .inl (fun _ => 0))), (dV, .inl (cI, 10, .inl (fun _ => 0))), (oJ, .inl (cJ, 1, .inr (.inl (fun _ => 0))))]) [0, 1, 2, 3, 4, 5, 9] rfl
  have hDc := hD.sub (ws' := [(h0, .inr (8, [.ref pr, .ref ma, .ref tm])), (pr, .inr (7, [.ref w, .ref d, .ref on, .ref op, .ref un, .int 0, .int 0])), (w, .inr (3, [.int 0, .int 0, .ref wL, .ref wK, .ref wV, .ref wN, .ref wS, .ref wB, .int 0])), (d, .inr (3, [.int 0, .int 0, .ref dL, .ref dK, .ref dV, .ref dN, .ref dS, .ref dB, .int 0])), (wV, .inl (cI, 10, .inl (fun _ => 0))), (dV, .inl (cI, 10, .inl (fun _ => 0))), (oJ, .inl (cJ, 1, .inr (.inl (fun _ => 0))))]) [0, 1, 2, 3, 4, 5, 9] (by decide) rfl
  have hKc := hK.sub (tys' := [(cI, .int), (cJ, .long)]) [0, 1] rfl
  have hFc := va_free (wc := [(h0, .inr (8, [.ref pr, .ref ma, .ref tm])), (pr, .inr (7, [.ref w, .ref d, .ref on, .ref op, .ref un, .int 0, .int 0])), (w, .inr (3, [.int 0, .int 0, .ref wL, .ref wK, .ref wV, .ref wN, .ref wS, .ref wB, .int 0])), (d, .inr (3, [.int 0, .int 0, .ref dL, .ref dK, .ref dV, .ref dN, .ref dS, .ref dB, .int 0])), (wV, .inl (cI, 10, .inl (fun _ => 0))), (dV, .inl (cI, 10, .inl (fun _ => 0))), (oJ, .inl (cJ, 1, .inr (.inl (fun _ => 0))))]) hD hS hA [0, 1, 2, 3, 4, 5, 9] rfl
  refine vx_calli (vx_runSX (As := [.ref h0, .int (xs 1), .int (xs 2), .int (xs 3), .ref oJ]) (rest := []) ⟨hx, hb, hml, hown, hts⟩ (kL_labelAt l hfl dC dI h0 pr ma tm w d on op un wL wK wV wN wS wB dL dK dV dN dS dB cI oJ cJ (xs 1) (xs 2) (xs 3) H.size) (vx_cwSW 5 hts gL_law_L_labelAt rfl rfl rfl (by decide +kernel) ⟨Nat.le_of_ble_eq_true rfl, Nat.le_of_ble_eq_true rfl⟩) (gPreS hX hN hZ hS (fun q h => hFc q h) hPc hKc hDc) rfl rfl hl.1 rfl (lv_room (Nat.le_of_ble_eq_true rfl)) dL_law_1639 ⟨Nat.le_of_ble_eq_true rfl, Nat.le_of_ble_eq_true rfl⟩) hS (fun q _ h => hFc q h) hFc (fun q _ h => hFc q h) (fun E ce q9 u t H locs ht hvm hpx hE hz1 hk1 hS hq9 hv9 hc9 => ?_) (fun r u t H1 locs ht hvm hw hB hz1 hk1 hS => ?_)
  · skip
    exact hE.elim
  · skip
    obtain ⟨hP1, hK1, hD1⟩ := hB
    rw [ht] at hP1
    have hK1 := va_K.moved hvm.symm hK1
    obtain ⟨u4, rfl⟩ : ∃ z, z = u := ⟨_, rfl⟩
    obtain ⟨hP, hD⟩ := va_join (wr := [(k0, .inr (9, [.ref kN, .ref kA, .ref kO, .ref kK, .ref kV, .ref kG, .ref kP, .ref kC, .ref kD, .ref kE, .ref kF, .ref kX, .ref kY, .int 0, .ref kT, .ref kU, .int 0, .int 0, .int 0])), (kN, .inl (cI, 2, .inl (fun _ => 0))), (kA, .inl (cI, 2, .inl (fun _ => 0)))]) (w1 := [(oJ, .inl (cJ, 1, .inr (.inl u4)))]) hP hD [0, 1, 2, 3, 4, 5, 9] [6, 7, 8] rfl rfl (by decide) (by decide) hk1 hFc hP1 hD1
    generalize H1 = H at hP hS ⊢
    have hP : va_P (dC, dI) vwCl [(k0, .inr (9, [.ref kN, .ref kA, .ref kO, .ref kK, .ref kV, .ref kG, .ref kP, .ref kC, .ref kD, .ref kE, .ref kF, .ref kX, .ref kY, .int 0, .ref kT, .ref kU, .int 0, .int 0, .int 0])), (kN, .inl (cI, 2, .inl (fun _ => 0))), (kA, .inl (cI, 2, .inl (fun _ => 0))), (oJ, .inl (cJ, 1, .inr (.inl u4)))] _ := hP
    have hD : va_D A [(k0, .inr (9, [.ref kN, .ref kA, .ref kO, .ref kK, .ref kV, .ref kG, .ref kP, .ref kC, .ref kD, .ref kE, .ref kF, .ref kX, .ref kY, .int 0, .ref kT, .ref kU, .int 0, .int 0, .int 0])), (kN, .inl (cI, 2, .inl (fun _ => 0))), (kA, .inl (cI, 2, .inl (fun _ => 0))), (oJ, .inl (cJ, 1, .inr (.inl u4)))] := hD
    refine W.widen (k := 116) (n := 2073) (Nat.le_of_ble_eq_true rfl) (Nat.le_of_ble_eq_true rfl) ?_
    rcases hw with ⟨rfl, hf9⟩ | ⟨rfl, hf9⟩
    · skip
      have hf5 := hf9
      refine lv_istore (lv' := [(6, .int 1), (5, .int 0), (4, .ref oD), (3, .ref oJ), (2, .ref k0), (1, .ref h0), (0, .ref b)]) hx hb dL_law_1642 hl (Nat.le_of_ble_eq_true rfl) rfl (fun ls hl => ?_)
      refine lv_aload_n hx hb dL_law_1644 rfl (lv_at hl 4 rfl) ?_
      refine lv_aload_n hx hb dL_law_1645 rfl (lv_at hl 6 rfl) ?_
      refine lv_iload hx hb dL_law_1646 (lv_at hl 1 rfl) ?_
      refine lv_iconst (v := 1) hx hb dL_law_1648 (by decide) ?_
      refine lv_iadd hx hb dL_law_1649 ?_
      refine lv_topi (fun y6 ey6 => ?_)
      obtain rfl : y6 = 1 := ey6.trans (by decide)
      refine va_sld hx hb hX9 hbl hbA hS (show ¬ (_ ∨ _) by decide) dL_law_1650 ?_
      refine W.eq (g2 := F0 m 1651 ls [.int (xs 1), .ref k0]) rfl ?_
      refine lv_aload_n hx hb dL_law_1651 rfl (lv_at hl 6 rfl) ?_
      refine lv_iload hx hb dL_law_1652 (lv_at hl 1 rfl) ?_
      refine lv_iconst (v := 2) hx hb dL_law_1654 (by decide) ?_
      refine lv_iadd hx hb dL_law_1655 ?_
      refine lv_topi (fun y7 ey7 => ?_)
      obtain rfl : y7 = 2 := ey7.trans (by decide)
      refine va_sld hx hb hX9 hbl hbA hS (show ¬ (_ ∨ _) by decide) dL_law_1656 ?_
      refine W.eq (g2 := F0 m 1657 ls [.int (xs 2), .int (xs 1), .ref k0]) rfl ?_
      refine lv_aload_n hx hb dL_law_1657 rfl (lv_at hl 6 rfl) ?_
      refine lv_iload hx hb dL_law_1658 (lv_at hl 1 rfl) ?_
      refine lv_iconst (v := 3) hx hb dL_law_1660 (by decide) ?_
      refine lv_iadd hx hb dL_law_1661 ?_
      refine lv_topi (fun y8 ey8 => ?_)
      obtain rfl : y8 = 3 := ey8.trans (by decide)
      refine va_sld hx hb hX9 hbl hbA hS (show ¬ (_ ∨ _) by decide) dL_law_1662 ?_
      refine W.eq (g2 := F0 m 1663 ls [.int (xs 3), .int (xs 2), .int (xs 1), .ref k0]) rfl ?_
      have hPc := hP.sub (ws' := [(k0, .inr (9, [.ref kN, .ref kA, .ref kO, .ref kK, .ref kV, .ref kG, .ref kP, .ref kC, .ref kD, .ref kE, .ref kF, .ref kX, .ref kY, .int 0, .ref kT, .ref kU, .int 0, .int 0, .int 0])), (kN, .inl (cI, 2, .inl (fun _ => 0))), (kA, .inl (cI, 2, .inl (fun _ => 0)))]) [0, 1, 2] rfl
      have hDc := hD.sub (ws' := [(k0, .inr (9, [.ref kN, .ref kA, .ref kO, .ref kK, .ref kV, .ref kG, .ref kP, .ref kC, .ref kD, .ref kE, .ref kF, .ref kX, .ref kY, .int 0, .ref kT, .ref kU, .int 0, .int 0, .int 0])), (kN, .inl (cI, 2, .inl (fun _ => 0))), (kA, .inl (cI, 2, .inl (fun _ => 0)))]) [0, 1, 2] (by decide) rfl
      have hKc := hK.sub (tys' := [(cI, .int)]) [0] rfl
      have hFc := va_free (wc := [(k0, .inr (9, [.ref kN, .ref kA, .ref kO, .ref kK, .ref kV, .ref kG, .ref kP, .ref kC, .ref kD, .ref kE, .ref kF, .ref kX, .ref kY, .int 0, .ref kT, .ref kU, .int 0, .int 0, .int 0])), (kN, .inl (cI, 2, .inl (fun _ => 0))), (kA, .inl (cI, 2, .inl (fun _ => 0)))]) hD hS hA [0, 1, 2] rfl
      refine va_calli (va_runV (As := [.int (xs 1), .int (xs 2), .int (xs 3)]) (rest := []) ⟨hx, hb, hml, hown, hts⟩ (kX6_labelAt l dC dI k0 kN kA kO kK kV kG kP kC kD kE kF kX kY kT kU cI (xs 1) (xs 2) (xs 3) H.size) (cwV 3 hts gL_law_X6_labelAt rfl rfl rfl (by decide +kernel) ⟨Nat.le_of_ble_eq_true rfl, Nat.le_of_ble_eq_true rfl⟩) (fPreV hN hZ hS (fun q h => hFc q h) hPc hKc hDc (ci := 9) (q0 := 0) rfl rfl) rfl rfl hl.1 rfl (lv_room (Nat.le_of_ble_eq_true rfl)) dL_law_1663 ⟨Nat.le_of_ble_eq_true rfl, Nat.le_of_ble_eq_true rfl⟩) hS (fun q _ h => hFc q h) hFc (fun r u t H1 locs ht hvm hw hB hz1 hk1 hS => ?_)
      obtain ⟨hP1, hK1, hD1⟩ := hB
      rw [ht] at hP1
      have hK1 := va_K.moved hvm.symm hK1
      obtain ⟨u10, rfl⟩ : ∃ z, z = u := ⟨_, rfl⟩
      obtain ⟨hP, hD⟩ := va_join (wr := [(oJ, .inl (cJ, 1, .inr (.inl u4)))]) (w1 := [(k0, .inr (9, [.ref kN, .ref kA, .ref kO, .ref kK, .ref kV, .ref kG, .ref kP, .ref kC, .ref kD, .ref kE, .ref kF, .ref kX, .ref kY, .int 0, .ref kT, .ref kU, .int u10, .int 0, .int 0]))]) hP hD [0, 1, 2] [3] rfl rfl (by decide) (by decide) hk1 hFc hP1 hD1
      generalize H1 = H at hP hS ⊢
      have hP : va_P (dC, dI) vwCl [(oJ, .inl (cJ, 1, .inr (.inl u4))), (k0, .inr (9, [.ref kN, .ref kA, .ref kO, .ref kK, .ref kV, .ref kG, .ref kP, .ref kC, .ref kD, .ref kE, .ref kF, .ref kX, .ref kY, .int 0, .ref kT, .ref kU, .int u10, .int 0, .int 0]))] _ := hP
      have hD : va_D A [(oJ, .inl (cJ, 1, .inr (.inl u4))), (k0, .inr (9, [.ref kN, .ref kA, .ref kO, .ref kK, .ref kV, .ref kG, .ref kP, .ref kC, .ref kD, .ref kE, .ref kF, .ref kX, .ref kY, .int 0, .ref kT, .ref kU, .int u10, .int 0, .int 0]))] := hD
      obtain ⟨r11, rfl⟩ : ∃ z, z = r := ⟨_, rfl⟩
      rcases hw with ⟨rfl, hg9⟩ | ⟨rfl, hg9⟩
      · skip
        have hP : va_P (dC, dI) vwCl [(oJ, .inl (cJ, 1, .inr (.inl u4))), (k0, .inr (9, [.ref kN, .ref kA, .ref kO, .ref kK, .ref kV, .ref kG, .ref kP, .ref kC, .ref kD, .ref kE, .ref kF, .ref kX, .ref kY, .int 0, .ref kT, .ref kU, .int 1, .int 0, .int 0]))] _ := hP
        have hD : va_D A [(oJ, .inl (cJ, 1, .inr (.inl u4))), (k0, .inr (9, [.ref kN, .ref kA, .ref kO, .ref kK, .ref kV, .ref kG, .ref kP, .ref kC, .ref kD, .ref kE, .ref kF, .ref kX, .ref kY, .int 0, .ref kT, .ref kU, .int 1, .int 0, .int 0]))] := hD
        refine lv_istore (lv' := [(7, .int r11), (6, .int 1), (5, .int 0), (4, .ref oD), (3, .ref oJ), (2, .ref k0), (1, .ref h0), (0, .ref b)]) hx hb dL_law_1666 hl (Nat.le_of_ble_eq_true rfl) rfl (fun ls hl => ?_)
        refine lv_aload_n hx hb dL_law_1668 rfl (lv_at hl 5 rfl) ?_
        have hPc := hP.sub (ws' := [(k0, .inr (9, [.ref kN, .ref kA, .ref kO, .ref kK, .ref kV, .ref kG, .ref kP, .ref kC, .ref kD, .ref kE, .ref kF, .ref kX, .ref kY, .int 0, .ref kT, .ref kU, .int 1, .int 0, .int 0]))]) [1] rfl
        have hDc := hD.sub (ws' := [(k0, .inr (9, [.ref kN, .ref kA, .ref kO, .ref kK, .ref kV, .ref kG, .ref kP, .ref kC, .ref kD, .ref kE, .ref kF, .ref kX, .ref kY, .int 0, .ref kT, .ref kU, .int 1, .int 0, .int 0]))]) [1] (by decide) rfl
        have hKc := hK.sub (tys' := []) [] rfl
        have hFc := va_free (wc := [(k0, .inr (9, [.ref kN, .ref kA, .ref kO, .ref kK, .ref kV, .ref kG, .ref kP, .ref kC, .ref kD, .ref kE, .ref kF, .ref kX, .ref kY, .int 0, .ref kT, .ref kU, .int 1, .int 0, .int 0]))]) hD hS hA [1] rfl
        refine va_calli (va_runV (As := []) (rest := []) ⟨hx, hb, hml, hown, hts⟩ (kX6_thrown l dC dI k0 kN kA kO kK kV kG kP kC kD kE kF kX kY kT kU 1 H.size) (cwV 0 hts gL_law_X6_thrown rfl rfl rfl (by decide +kernel) ⟨Nat.le_of_ble_eq_true rfl, Nat.le_of_ble_eq_true rfl⟩) (fPreV hN hZ hS (fun q h => hFc q h) hPc hKc hDc (ci := 9) (q0 := 0) rfl rfl) rfl rfl hl.1 rfl (lv_room (Nat.le_of_ble_eq_true rfl)) dL_law_1669 ⟨Nat.le_of_ble_eq_true rfl, Nat.le_of_ble_eq_true rfl⟩) hS (fun q _ h => hFc q h) hFc (fun r u t H1 locs ht hvm hw hB hz1 hk1 hS => ?_)
        obtain ⟨hP1, hK1, hD1⟩ := hB
        rw [ht] at hP1
        have hK1 := va_K.moved hvm.symm hK1
        obtain ⟨hP, hD⟩ := va_join (wr := [(oJ, .inl (cJ, 1, .inr (.inl u4)))]) (w1 := []) hP hD [1] [0] rfl rfl (by decide) (by decide) hk1 hFc hP1 hD1
        generalize H1 = H at hP hS ⊢
        have hP : va_P (dC, dI) vwCl [(oJ, .inl (cJ, 1, .inr (.inl u4)))] _ := hP
        have hD : va_D A [(oJ, .inl (cJ, 1, .inr (.inl u4)))] := hD
        subst hw
        refine lv_iload hx hb dL_law_1672 (lv_at hl 1 rfl) ?_
        refine lv_icmp_eq (tgt := 1679) hx hb dL_law_1674 (by decide) (fun _ => ?_) (fun h9 => absurd (by decide) h9)
        refine lv_iload hx hb dL_law_1679 (lv_at hl 1 rfl) ?_
        refine lv_if_ne (tgt := 1696) hx hb dL_law_1681 (by decide) (fun _ => ?_) (fun h9 => absurd h9 (by decide))
        refine lv_goto (tgt := 2720) hx hb dL_law_1696 (by decide) ?_
        refine lv_iinc (v := 7) (lv' := [(5, .int 7), (7, .int r11), (6, .int 1), (4, .ref oD), (3, .ref oJ), (2, .ref k0), (1, .ref h0), (0, .ref b)]) hx hb dL_law_2720 hl (k := 2) rfl (by decide) (Nat.le_of_ble_eq_true rfl) rfl (fun ls hl => ?_)
        refine lv_goto (tgt := 28) hx hb dL_law_2723 (by decide) ?_
        refine lv_iload hx hb dL_law_28 (lv_at hl 0 rfl) ?_
        refine lv_aload_n hx hb dL_law_30 rfl (lv_at hl 7 rfl) ?_
        refine va_slen hx hb hX9 hbl hbA hS dL_law_31 ?_
        refine W.eq (g2 := F0 m 32 ls [.int 7, .int 7]) rfl ?_
        refine lv_bipush (v := 7) hx hb dL_law_32 (by decide) ?_
        refine lv_isub hx hb dL_law_34 ?_
        refine lv_topi (fun y12 ey12 => ?_)
        obtain rfl : y12 = 0 := ey12.trans (by decide)
        refine lv_icmp_gt (tgt := 2726) hx hb dL_law_35 (by decide) (fun _ => ?_) (fun h9 => absurd (by decide) h9)
        refine lv_iconst (v := 1) hx hb dL_law_2726 (by decide) ?_
        refine va_forget (fun q hq => hAe _ (hS.2.2 q hq)) ?_
        refine W.widen (k := 600006) (n := 7302048) (Nat.le_of_ble_eq_true rfl) (Nat.le_of_ble_eq_true rfl) ?_
        exact W.base (lw_ret (d0 := s.drawn) (Drawn.sameBut.refl _ _) hx hb hr hlk dL_law_2727)
      · skip
        exact absurd hg9 ((fun h9 => h9 (hf5)))
    · skip
      have hf13 := hf9
      refine lv_istore (lv' := [(6, .int 2), (5, .int 0), (4, .ref oD), (3, .ref oJ), (2, .ref k0), (1, .ref h0), (0, .ref b)]) hx hb dL_law_1642 hl (Nat.le_of_ble_eq_true rfl) rfl (fun ls hl => ?_)
      refine lv_aload_n hx hb dL_law_1644 rfl (lv_at hl 4 rfl) ?_
      refine lv_aload_n hx hb dL_law_1645 rfl (lv_at hl 6 rfl) ?_
      refine lv_iload hx hb dL_law_1646 (lv_at hl 1 rfl) ?_
      refine lv_iconst (v := 1) hx hb dL_law_1648 (by decide) ?_
      refine lv_iadd hx hb dL_law_1649 ?_
      refine lv_topi (fun y14 ey14 => ?_)
      obtain rfl : y14 = 1 := ey14.trans (by decide)
      refine va_sld hx hb hX9 hbl hbA hS (show ¬ (_ ∨ _) by decide) dL_law_1650 ?_
      refine W.eq (g2 := F0 m 1651 ls [.int (xs 1), .ref k0]) rfl ?_
      refine lv_aload_n hx hb dL_law_1651 rfl (lv_at hl 6 rfl) ?_
      refine lv_iload hx hb dL_law_1652 (lv_at hl 1 rfl) ?_
      refine lv_iconst (v := 2) hx hb dL_law_1654 (by decide) ?_
      refine lv_iadd hx hb dL_law_1655 ?_
      refine lv_topi (fun y15 ey15 => ?_)
      obtain rfl : y15 = 2 := ey15.trans (by decide)
      refine va_sld hx hb hX9 hbl hbA hS (show ¬ (_ ∨ _) by decide) dL_law_1656 ?_
      refine W.eq (g2 := F0 m 1657 ls [.int (xs 2), .int (xs 1), .ref k0]) rfl ?_
      refine lv_aload_n hx hb dL_law_1657 rfl (lv_at hl 6 rfl) ?_
      refine lv_iload hx hb dL_law_1658 (lv_at hl 1 rfl) ?_
      refine lv_iconst (v := 3) hx hb dL_law_1660 (by decide) ?_
      refine lv_iadd hx hb dL_law_1661 ?_
      refine lv_topi (fun y16 ey16 => ?_)
      obtain rfl : y16 = 3 := ey16.trans (by decide)
      refine va_sld hx hb hX9 hbl hbA hS (show ¬ (_ ∨ _) by decide) dL_law_1662 ?_
      refine W.eq (g2 := F0 m 1663 ls [.int (xs 3), .int (xs 2), .int (xs 1), .ref k0]) rfl ?_
      have hPc := hP.sub (ws' := [(k0, .inr (9, [.ref kN, .ref kA, .ref kO, .ref kK, .ref kV, .ref kG, .ref kP, .ref kC, .ref kD, .ref kE, .ref kF, .ref kX, .ref kY, .int 0, .ref kT, .ref kU, .int 0, .int 0, .int 0])), (kN, .inl (cI, 2, .inl (fun _ => 0))), (kA, .inl (cI, 2, .inl (fun _ => 0)))]) [0, 1, 2] rfl
      have hDc := hD.sub (ws' := [(k0, .inr (9, [.ref kN, .ref kA, .ref kO, .ref kK, .ref kV, .ref kG, .ref kP, .ref kC, .ref kD, .ref kE, .ref kF, .ref kX, .ref kY, .int 0, .ref kT, .ref kU, .int 0, .int 0, .int 0])), (kN, .inl (cI, 2, .inl (fun _ => 0))), (kA, .inl (cI, 2, .inl (fun _ => 0)))]) [0, 1, 2] (by decide) rfl
      have hKc := hK.sub (tys' := [(cI, .int)]) [0] rfl
      have hFc := va_free (wc := [(k0, .inr (9, [.ref kN, .ref kA, .ref kO, .ref kK, .ref kV, .ref kG, .ref kP, .ref kC, .ref kD, .ref kE, .ref kF, .ref kX, .ref kY, .int 0, .ref kT, .ref kU, .int 0, .int 0, .int 0])), (kN, .inl (cI, 2, .inl (fun _ => 0))), (kA, .inl (cI, 2, .inl (fun _ => 0)))]) hD hS hA [0, 1, 2] rfl
      refine va_calli (va_runV (As := [.int (xs 1), .int (xs 2), .int (xs 3)]) (rest := []) ⟨hx, hb, hml, hown, hts⟩ (kX6_labelAt l dC dI k0 kN kA kO kK kV kG kP kC kD kE kF kX kY kT kU cI (xs 1) (xs 2) (xs 3) H.size) (cwV 3 hts gL_law_X6_labelAt rfl rfl rfl (by decide +kernel) ⟨Nat.le_of_ble_eq_true rfl, Nat.le_of_ble_eq_true rfl⟩) (fPreV hN hZ hS (fun q h => hFc q h) hPc hKc hDc (ci := 9) (q0 := 0) rfl rfl) rfl rfl hl.1 rfl (lv_room (Nat.le_of_ble_eq_true rfl)) dL_law_1663 ⟨Nat.le_of_ble_eq_true rfl, Nat.le_of_ble_eq_true rfl⟩) hS (fun q _ h => hFc q h) hFc (fun r u t H1 locs ht hvm hw hB hz1 hk1 hS => ?_)
      obtain ⟨hP1, hK1, hD1⟩ := hB
      rw [ht] at hP1
      have hK1 := va_K.moved hvm.symm hK1
      obtain ⟨u17, rfl⟩ : ∃ z, z = u := ⟨_, rfl⟩
      obtain ⟨hP, hD⟩ := va_join (wr := [(oJ, .inl (cJ, 1, .inr (.inl u4)))]) (w1 := [(k0, .inr (9, [.ref kN, .ref kA, .ref kO, .ref kK, .ref kV, .ref kG, .ref kP, .ref kC, .ref kD, .ref kE, .ref kF, .ref kX, .ref kY, .int 0, .ref kT, .ref kU, .int u17, .int 0, .int 0]))]) hP hD [0, 1, 2] [3] rfl rfl (by decide) (by decide) hk1 hFc hP1 hD1
      generalize H1 = H at hP hS ⊢
      have hP : va_P (dC, dI) vwCl [(oJ, .inl (cJ, 1, .inr (.inl u4))), (k0, .inr (9, [.ref kN, .ref kA, .ref kO, .ref kK, .ref kV, .ref kG, .ref kP, .ref kC, .ref kD, .ref kE, .ref kF, .ref kX, .ref kY, .int 0, .ref kT, .ref kU, .int u17, .int 0, .int 0]))] _ := hP
      have hD : va_D A [(oJ, .inl (cJ, 1, .inr (.inl u4))), (k0, .inr (9, [.ref kN, .ref kA, .ref kO, .ref kK, .ref kV, .ref kG, .ref kP, .ref kC, .ref kD, .ref kE, .ref kF, .ref kX, .ref kY, .int 0, .ref kT, .ref kU, .int u17, .int 0, .int 0]))] := hD
      obtain ⟨r18, rfl⟩ : ∃ z, z = r := ⟨_, rfl⟩
      rcases hw with ⟨rfl, hg9⟩ | ⟨rfl, hg9⟩
      · skip
        exact absurd hg9 (hf13)
      · skip
        have hP : va_P (dC, dI) vwCl [(oJ, .inl (cJ, 1, .inr (.inl u4))), (k0, .inr (9, [.ref kN, .ref kA, .ref kO, .ref kK, .ref kV, .ref kG, .ref kP, .ref kC, .ref kD, .ref kE, .ref kF, .ref kX, .ref kY, .int 0, .ref kT, .ref kU, .int 2, .int 0, .int 0]))] _ := hP
        have hD : va_D A [(oJ, .inl (cJ, 1, .inr (.inl u4))), (k0, .inr (9, [.ref kN, .ref kA, .ref kO, .ref kK, .ref kV, .ref kG, .ref kP, .ref kC, .ref kD, .ref kE, .ref kF, .ref kX, .ref kY, .int 0, .ref kT, .ref kU, .int 2, .int 0, .int 0]))] := hD
        refine lv_istore (lv' := [(7, .int r18), (6, .int 2), (5, .int 0), (4, .ref oD), (3, .ref oJ), (2, .ref k0), (1, .ref h0), (0, .ref b)]) hx hb dL_law_1666 hl (Nat.le_of_ble_eq_true rfl) rfl (fun ls hl => ?_)
        refine lv_aload_n hx hb dL_law_1668 rfl (lv_at hl 5 rfl) ?_
        have hPc := hP.sub (ws' := [(k0, .inr (9, [.ref kN, .ref kA, .ref kO, .ref kK, .ref kV, .ref kG, .ref kP, .ref kC, .ref kD, .ref kE, .ref kF, .ref kX, .ref kY, .int 0, .ref kT, .ref kU, .int 2, .int 0, .int 0]))]) [1] rfl
        have hDc := hD.sub (ws' := [(k0, .inr (9, [.ref kN, .ref kA, .ref kO, .ref kK, .ref kV, .ref kG, .ref kP, .ref kC, .ref kD, .ref kE, .ref kF, .ref kX, .ref kY, .int 0, .ref kT, .ref kU, .int 2, .int 0, .int 0]))]) [1] (by decide) rfl
        have hKc := hK.sub (tys' := []) [] rfl
        have hFc := va_free (wc := [(k0, .inr (9, [.ref kN, .ref kA, .ref kO, .ref kK, .ref kV, .ref kG, .ref kP, .ref kC, .ref kD, .ref kE, .ref kF, .ref kX, .ref kY, .int 0, .ref kT, .ref kU, .int 2, .int 0, .int 0]))]) hD hS hA [1] rfl
        refine va_calli (va_runV (As := []) (rest := []) ⟨hx, hb, hml, hown, hts⟩ (kX6_thrown l dC dI k0 kN kA kO kK kV kG kP kC kD kE kF kX kY kT kU 2 H.size) (cwV 0 hts gL_law_X6_thrown rfl rfl rfl (by decide +kernel) ⟨Nat.le_of_ble_eq_true rfl, Nat.le_of_ble_eq_true rfl⟩) (fPreV hN hZ hS (fun q h => hFc q h) hPc hKc hDc (ci := 9) (q0 := 0) rfl rfl) rfl rfl hl.1 rfl (lv_room (Nat.le_of_ble_eq_true rfl)) dL_law_1669 ⟨Nat.le_of_ble_eq_true rfl, Nat.le_of_ble_eq_true rfl⟩) hS (fun q _ h => hFc q h) hFc (fun r u t H1 locs ht hvm hw hB hz1 hk1 hS => ?_)
        obtain ⟨hP1, hK1, hD1⟩ := hB
        rw [ht] at hP1
        have hK1 := va_K.moved hvm.symm hK1
        obtain ⟨hP, hD⟩ := va_join (wr := [(oJ, .inl (cJ, 1, .inr (.inl u4)))]) (w1 := []) hP hD [1] [0] rfl rfl (by decide) (by decide) hk1 hFc hP1 hD1
        generalize H1 = H at hP hS ⊢
        have hP : va_P (dC, dI) vwCl [(oJ, .inl (cJ, 1, .inr (.inl u4)))] _ := hP
        have hD : va_D A [(oJ, .inl (cJ, 1, .inr (.inl u4)))] := hD
        subst hw
        refine lv_iload hx hb dL_law_1672 (lv_at hl 1 rfl) ?_
        refine lv_icmp_eq (tgt := 1679) hx hb dL_law_1674 (by decide) (fun _ => ?_) (fun h9 => absurd (by decide) h9)
        refine lv_iload hx hb dL_law_1679 (lv_at hl 1 rfl) ?_
        refine lv_if_ne (tgt := 1696) hx hb dL_law_1681 (by decide) (fun _ => ?_) (fun h9 => absurd h9 (by decide))
        refine lv_goto (tgt := 2720) hx hb dL_law_1696 (by decide) ?_
        refine lv_iinc (v := 7) (lv' := [(5, .int 7), (7, .int r18), (6, .int 2), (4, .ref oD), (3, .ref oJ), (2, .ref k0), (1, .ref h0), (0, .ref b)]) hx hb dL_law_2720 hl (k := 2) rfl (by decide) (Nat.le_of_ble_eq_true rfl) rfl (fun ls hl => ?_)
        refine lv_goto (tgt := 28) hx hb dL_law_2723 (by decide) ?_
        refine lv_iload hx hb dL_law_28 (lv_at hl 0 rfl) ?_
        refine lv_aload_n hx hb dL_law_30 rfl (lv_at hl 7 rfl) ?_
        refine va_slen hx hb hX9 hbl hbA hS dL_law_31 ?_
        refine W.eq (g2 := F0 m 32 ls [.int 7, .int 7]) rfl ?_
        refine lv_bipush (v := 7) hx hb dL_law_32 (by decide) ?_
        refine lv_isub hx hb dL_law_34 ?_
        refine lv_topi (fun y19 ey19 => ?_)
        obtain rfl : y19 = 0 := ey19.trans (by decide)
        refine lv_icmp_gt (tgt := 2726) hx hb dL_law_35 (by decide) (fun _ => ?_) (fun h9 => absurd (by decide) h9)
        refine lv_iconst (v := 1) hx hb dL_law_2726 (by decide) ?_
        refine va_forget (fun q hq => hAe _ (hS.2.2 q hq)) ?_
        refine W.widen (k := 600006) (n := 7302048) (Nat.le_of_ble_eq_true rfl) (Nat.le_of_ble_eq_true rfl) ?_
        exact W.base (lw_ret (d0 := s.drawn) (Drawn.sameBut.refl _ _) hx hb hr hlk dL_law_2727)
