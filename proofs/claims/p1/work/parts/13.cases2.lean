set_option maxRecDepth 20000 in
theorem gk_L_equalShare_r1 : GoodIn wsL_law wsL_equalShare_r1 := goodIn_r _ [1374, 1375, 1376, 1377, 2, 1378, 1379, 1380, 17, 877, 878, 879, 16, 880, 881, 30, 31, 882, 40, 883, 572, 573, 29, 574] (by decide +kernel) (by decide +kernel)
set_option maxRecDepth 20000 in
theorem gk_L_equalShare_r2 : GoodIn wsL_law wsL_equalShare_r2 := goodIn_r _ [52, 166, 167, 168, 169, 127, 46, 575, 576, 577, 578, 429, 430, 431, 432, 245, 246, 247, 248, 51, 579, 580, 581, 582] (by decide +kernel) (by decide +kernel)
set_option maxRecDepth 20000 in
theorem gk_L_equalShare_r3 : GoodIn wsL_law wsL_equalShare_r3 := goodIn_r _ [583, 584, 585, 586, 884, 885, 886, 887, 35, 36, 888, 889, 890, 34, 891, 60, 892, 893, 894, 895, 896, 120, 121, 122] (by decide +kernel) (by decide +kernel)
set_option maxRecDepth 20000 in
theorem gk_L_equalShare_r4 : GoodIn wsL_law wsL_equalShare_r4 := goodIn_r _ [897, 898, 899, 900, 901, 902, 903, 59, 904, 383, 384, 385, 905, 906, 907, 908, 909, 62, 910, 226, 227, 228, 229, 230] (by decide +kernel) (by decide +kernel)
set_option maxRecDepth 20000 in
theorem gk_L_equalShare_r5 : GoodIn wsL_law wsL_equalShare_r5 := goodIn_r _ [231, 232, 49, 911, 331, 332, 333, 47, 912, 913, 914, 915, 916, 917, 918, 61, 919, 920, 921, 922, 923, 924, 925, 926] (by decide +kernel) (by decide +kernel)
set_option maxRecDepth 20000 in
theorem gk_L_equalShare_r6 : GoodIn wsL_law wsL_equalShare_r6 := goodIn_r _ [927, 928, 929, 930, 931, 932, 933, 934, 935, 936, 937, 938, 939, 940, 941, 942, 943, 944, 945, 946, 947, 948, 327, 328] (by decide +kernel) (by decide +kernel)
set_option maxRecDepth 20000 in
theorem gk_L_equalShare_r7 : GoodIn wsL_law wsL_equalShare_r7 := goodIn_r _ [329, 330, 949, 950, 951, 952, 39, 953, 954, 955, 956, 957, 958, 959, 960, 961, 962, 963, 964, 965, 966, 967, 968, 969] (by decide +kernel) (by decide +kernel)
set_option maxRecDepth 20000 in
theorem gk_L_equalShare_r8 : GoodIn wsL_law wsL_equalShare_r8 := goodIn_r _ [970, 971, 972, 973, 974, 975, 67, 1381] (by decide +kernel) (by decide +kernel)
set_option maxRecDepth 20000 in
theorem ggL_law_L_equalShare : GoodIn wsL_law wsL_equalShare := goodIn_ca (goodIn_ca (goodIn_c1 (goodIn_r _ [1373] (by decide +kernel) (by decide +kernel)) (goodIn_app (goodIn_app (goodIn_app (goodIn_app (goodIn_app (goodIn_app gk_L_equalShare_r1 (goodIn_app gk_L_equalShare_r2 (goodIn_app gk_L_equalShare_r3 (goodIn_app gk_L_equalShare_r4 (goodIn_app gk_L_equalShare_r5 (goodIn_app gk_L_equalShare_r6 (goodIn_app gk_L_equalShare_r7 gk_L_equalShare_r8))))))) (goodIn_sub inlX5 (by decide +kernel))) (goodIn_sub inlX4 (by decide +kernel))) (goodIn_sub inlX1 (by decide +kernel))) (goodIn_sub inlX0 (by decide +kernel))) (goodIn_sub inlX3 (by decide +kernel)))) (goodIn_sub (fun _ h => List.mem_append_left _ (List.mem_append_left _ (List.mem_append_left _ (List.mem_append_left _ (List.mem_append_left _ (List.mem_append_left _ (List.mem_append_left _ (List.mem_append_right _ h)))))))) (by decide +kernel))) (goodIn_sub (fun _ h => List.mem_append_right _ h) (by decide +kernel))
set_option maxRecDepth 20000 in
theorem gL_law_L_equalShare : GoodIn wsL_law (va_wsS RL 277 yL_equalShare wsL_equalShare) := goodIn_app (goodIn_of _ (by decide +kernel)) ggL_law_L_equalShare
set_option maxRecDepth 20000 in
theorem gk_X6_equalShare_r1 : GoodIn wsL_law wsX6_equalShare_r1 := goodIn_r _ [90, 91, 136, 981, 982, 983, 5, 984, 84, 85, 86, 980, 92, 93, 985, 986, 987, 988, 261, 262, 263, 264, 83, 88] (by decide +kernel) (by decide +kernel)
set_option maxRecDepth 20000 in
theorem gk_X6_equalShare_r2 : GoodIn wsL_law wsX6_equalShare_r2 := goodIn_r _ [180, 181, 182, 183, 184, 185, 186, 82, 414, 415, 416, 417, 308, 309, 310, 311, 312, 313, 314, 315, 316, 317, 318, 89] (by decide +kernel) (by decide +kernel)
set_option maxRecDepth 20000 in
theorem gk_X6_equalShare_r3 : GoodIn wsL_law wsX6_equalShare_r3 := goodIn_r _ [989, 990, 991, 992, 993, 687, 688, 994, 995, 996, 997, 998, 450, 434, 431, 435, 999, 1000, 1001, 1002, 1003, 1004, 1005, 1006] (by decide +kernel) (by decide +kernel)
set_option maxRecDepth 20000 in
theorem gk_X6_equalShare_r4 : GoodIn wsL_law wsX6_equalShare_r4 := goodIn_r _ [1007, 1008, 1009, 94, 95, 1010, 1011, 1012, 1013, 1014, 1015, 1016, 1017, 1018, 1019, 1020, 1021, 1022, 1023, 1024, 1025, 1026, 1027, 1276] (by decide +kernel) (by decide +kernel)
set_option maxRecDepth 20000 in
theorem gk_X6_equalShare_r5 : GoodIn wsL_law wsX6_equalShare_r5 := goodIn_r _ [1277, 1278, 1279, 1280, 1281, 1282, 1283, 1058, 1059, 1060, 1284, 1285, 1286, 1287, 449, 430, 432, 592, 593, 594, 595, 48, 596, 597] (by decide +kernel) (by decide +kernel)
set_option maxRecDepth 20000 in
theorem gk_X6_equalShare_r6 : GoodIn wsL_law wsX6_equalShare_r6 := goodIn_r _ [598, 599, 1288, 1289, 1290] (by decide +kernel) (by decide +kernel)
set_option maxRecDepth 20000 in
theorem ggL_law_X6_equalShare : GoodIn wsL_law wsX6_equalShare := goodIn_ca (goodIn_c1 (goodIn_r _ [1385] (by decide +kernel) (by decide +kernel)) (goodIn_app (goodIn_app gk_X6_equalShare_r1 (goodIn_app gk_X6_equalShare_r2 (goodIn_app gk_X6_equalShare_r3 (goodIn_app gk_X6_equalShare_r4 (goodIn_app gk_X6_equalShare_r5 gk_X6_equalShare_r6))))) (goodIn_sub inlX6 (by decide +kernel)))) (goodIn_sub (fun _ h => List.mem_append_left _ (List.mem_append_left _ (List.mem_append_left _ (List.mem_append_left _ (List.mem_append_left _ (List.mem_append_left _ (List.mem_append_left _ (List.mem_append_right _ h)))))))) (by decide +kernel))
set_option maxRecDepth 20000 in
theorem gL_law_X6_equalShare : GoodIn wsL_law (wsV RL 280 RX6 yX6_equalShare wsX6_equalShare) := goodIn_app (goodIn_of _ (by decide +kernel)) ggL_law_X6_equalShare
set_option maxRecDepth 20000 in
theorem gk_L_meanDistance_r1 : GoodIn wsL_law wsL_meanDistance_r1 := goodIn_r _ [102, 1374, 1389, 1390, 1391, 2, 1392, 1379, 1380, 110, 111, 112, 113, 17, 114, 115, 116, 117, 118, 119, 120, 121, 16, 122] (by decide +kernel) (by decide +kernel)
set_option maxRecDepth 20000 in
theorem gk_L_meanDistance_r2 : GoodIn wsL_law wsL_meanDistance_r2 := goodIn_r _ [30, 31, 571, 572, 573, 29, 574, 52, 166, 167, 168, 169, 127, 46, 575, 576, 577, 578, 429, 430, 431, 432, 245, 246] (by decide +kernel) (by decide +kernel)
set_option maxRecDepth 20000 in
theorem gk_L_meanDistance_r3 : GoodIn wsL_law wsL_meanDistance_r3 := goodIn_r _ [247, 248, 51, 579, 580, 581, 582, 583, 584, 585, 586, 587] (by decide +kernel) (by decide +kernel)
set_option maxRecDepth 20000 in
theorem ggL_law_L_meanDistance : GoodIn wsL_law wsL_meanDistance := goodIn_ca (goodIn_ca (goodIn_ca (goodIn_c1 (goodIn_r _ [1388] (by decide +kernel) (by decide +kernel)) (goodIn_app (goodIn_app (goodIn_app (goodIn_app gk_L_meanDistance_r1 (goodIn_app gk_L_meanDistance_r2 gk_L_meanDistance_r3)) (goodIn_sub inlX0 (by decide +kernel))) (goodIn_sub inlX5 (by decide +kernel))) (goodIn_sub inlX4 (by decide +kernel)))) (goodIn_sub (fun _ h => List.mem_append_left _ (List.mem_append_left _ (List.mem_append_left _ (List.mem_append_left _ (List.mem_append_left _ (List.mem_append_left _ (List.mem_append_left _ (List.mem_append_right _ h)))))))) (by decide +kernel))) (goodIn_sub (fun _ h => List.mem_append_right _ h) (by decide +kernel))) (goodIn_sub (fun _ h => List.mem_append_left _ (List.mem_append_left _ (List.mem_append_left _ (List.mem_append_left _ (List.mem_append_left _ (List.mem_append_right _ h)))))) (by decide +kernel))
set_option maxRecDepth 20000 in
theorem gL_law_L_meanDistance : GoodIn wsL_law (va_wsS RL 281 yL_meanDistance wsL_meanDistance) := goodIn_app (goodIn_of _ (by decide +kernel)) ggL_law_L_meanDistance
set_option maxRecDepth 20000 in
theorem gk_X6_meanDistance_r1 : GoodIn wsL_law wsX6_meanDistance_r1 := goodIn_r _ [136, 82, 137, 138, 5, 139, 592, 593, 594, 595, 48, 84, 83, 449, 430, 431, 432, 261, 262, 263, 264, 88, 180, 181] (by decide +kernel) (by decide +kernel)
set_option maxRecDepth 20000 in
theorem gk_X6_meanDistance_r2 : GoodIn wsL_law wsX6_meanDistance_r2 := goodIn_r _ [182, 596, 597, 598, 599, 308, 309, 310, 311, 85, 312, 313, 314, 315, 316, 317, 318, 89] (by decide +kernel) (by decide +kernel)
set_option maxRecDepth 20000 in
theorem ggL_law_X6_meanDistance : GoodIn wsL_law wsX6_meanDistance := goodIn_ca (goodIn_c1 (goodIn_r _ [1396] (by decide +kernel) (by decide +kernel)) (goodIn_app (goodIn_app gk_X6_meanDistance_r1 gk_X6_meanDistance_r2) (goodIn_sub inlX6 (by decide +kernel)))) (goodIn_sub (fun _ h => List.mem_append_left _ (List.mem_append_left _ (List.mem_append_left _ (List.mem_append_left _ (List.mem_append_left _ (List.mem_append_left _ (List.mem_append_left _ (List.mem_append_right _ h)))))))) (by decide +kernel))
set_option maxRecDepth 20000 in
theorem gL_law_X6_meanDistance : GoodIn wsL_law (wsV RL 284 RX6 yX6_meanDistance wsX6_meanDistance) := goodIn_app (goodIn_of _ (by decide +kernel)) ggL_law_X6_meanDistance
set_option maxRecDepth 20000 in
theorem gk_L_valueSum_r1 : GoodIn wsL_law wsL_valueSum_r1 := goodIn_r _ [102, 1400, 1401, 1402, 2, 1403, 110, 111, 112, 113, 17, 114, 115, 116, 117, 118, 119, 120, 121, 16, 122, 30, 31, 520] (by decide +kernel) (by decide +kernel)
set_option maxRecDepth 20000 in
theorem gk_L_valueSum_r2 : GoodIn wsL_law wsL_valueSum_r2 := goodIn_r _ [230, 231, 29, 232, 49] (by decide +kernel) (by decide +kernel)
set_option maxRecDepth 20000 in
theorem ggL_law_L_valueSum : GoodIn wsL_law wsL_valueSum := goodIn_ca (goodIn_ca (goodIn_c1 (goodIn_r _ [1399] (by decide +kernel) (by decide +kernel)) (goodIn_app (goodIn_app (goodIn_app (goodIn_app gk_L_valueSum_r1 gk_L_valueSum_r2) (goodIn_sub inlX5 (by decide +kernel))) (goodIn_sub inlX4 (by decide +kernel))) (goodIn_sub inlX0 (by decide +kernel)))) (goodIn_sub (fun _ h => List.mem_append_left _ (List.mem_append_left _ (List.mem_append_left _ (List.mem_append_left _ (List.mem_append_left _ (List.mem_append_left _ (List.mem_append_left _ (List.mem_append_right _ h)))))))) (by decide +kernel))) (goodIn_sub (fun _ h => List.mem_append_left _ (List.mem_append_left _ (List.mem_append_left _ (List.mem_append_left _ (List.mem_append_left _ (List.mem_append_right _ h)))))) (by decide +kernel))
set_option maxRecDepth 20000 in
theorem gL_law_L_valueSum : GoodIn wsL_law (va_wsS RL 285 yL_valueSum wsL_valueSum) := goodIn_app (goodIn_of _ (by decide +kernel)) ggL_law_L_valueSum
set_option maxRecDepth 20000 in
theorem ggL_law_X6_valueSum : GoodIn wsL_law wsX6_valueSum := goodIn_ca (goodIn_r _ [1407, 136, 83, 137, 138, 5, 139, 261, 262, 263, 264, 88, 180, 181, 182, 281, 282, 283, 284, 86, 1411, 1412, 1413, 1414, 1415, 1416, 1417, 1418, 1419, 1420, 1421, 1422, 1423, 1424, 1425, 1426, 1427, 1428, 1429] (by decide +kernel) (by decide +kernel)) (goodIn_sub (fun _ h => List.mem_append_left _ (List.mem_append_left _ (List.mem_append_left _ (List.mem_append_left _ (List.mem_append_left _ (List.mem_append_left _ (List.mem_append_left _ (List.mem_append_right _ h)))))))) (by decide +kernel))
set_option maxRecDepth 20000 in
theorem gL_law_X6_valueSum : GoodIn wsL_law (wsV RL 287 RX6 yX6_valueSum wsX6_valueSum) := goodIn_app (goodIn_of _ (by decide +kernel)) ggL_law_X6_valueSum
theorem dL_law_2522 : decode cL_law 2522 = .ok (.aload_n 1, 1) := by decide +kernel
theorem dL_law_2523 : decode cL_law 2523 = .ok (.aload 4, 2) := by decide +kernel
theorem dL_law_2525 : decode cL_law 2525 = .ok (.invokestatic 277, 3) := by decide +kernel
theorem dL_law_2528 : decode cL_law 2528 = .ok (.istore 6, 2) := by decide +kernel
theorem dL_law_2530 : decode cL_law 2530 = .ok (.aload_n 2, 1) := by decide +kernel
theorem dL_law_2531 : decode cL_law 2531 = .ok (.invokevirtual 280, 3) := by decide +kernel
theorem dL_law_2534 : decode cL_law 2534 = .ok (.fstore 7, 2) := by decide +kernel
theorem dL_law_2536 : decode cL_law 2536 = .ok (.aload_n 2, 1) := by decide +kernel
theorem dL_law_2537 : decode cL_law 2537 = .ok (.invokevirtual 150, 3) := by decide +kernel
theorem dL_law_2540 : decode cL_law 2540 = .ok (.iload 6, 2) := by decide +kernel
theorem dL_law_2542 : decode cL_law 2542 = .ok (.if_icmp .eq 5, 3) := by decide +kernel
theorem dL_law_2547 : decode cL_law 2547 = .ok (.iload 6, 2) := by decide +kernel
theorem dL_law_2549 : decode cL_law 2549 = .ok (.ifCond .ne 36, 3) := by decide +kernel
theorem dL_law_2585 : decode cL_law 2585 = .ok (.goto 135, 3) := by decide +kernel
theorem dL_law_2588 : decode cL_law 2588 = .ok (.aload_n 1, 1) := by decide +kernel
theorem dL_law_2589 : decode cL_law 2589 = .ok (.aload_n 0, 1) := by decide +kernel
theorem dL_law_2590 : decode cL_law 2590 = .ok (.iload 5, 2) := by decide +kernel
theorem dL_law_2592 : decode cL_law 2592 = .ok (.iconst 1, 1) := by decide +kernel
theorem dL_law_2593 : decode cL_law 2593 = .ok (.iadd, 1) := by decide +kernel
theorem dL_law_2594 : decode cL_law 2594 = .ok (.iaload, 1) := by decide +kernel
theorem dL_law_2595 : decode cL_law 2595 = .ok (.aload 4, 2) := by decide +kernel
theorem dL_law_2597 : decode cL_law 2597 = .ok (.invokestatic 281, 3) := by decide +kernel
theorem dL_law_2600 : decode cL_law 2600 = .ok (.istore 6, 2) := by decide +kernel
theorem dL_law_2602 : decode cL_law 2602 = .ok (.aload_n 2, 1) := by decide +kernel
theorem dL_law_2603 : decode cL_law 2603 = .ok (.aload_n 0, 1) := by decide +kernel
theorem dL_law_2604 : decode cL_law 2604 = .ok (.iload 5, 2) := by decide +kernel
theorem dL_law_2606 : decode cL_law 2606 = .ok (.iconst 1, 1) := by decide +kernel
theorem dL_law_2607 : decode cL_law 2607 = .ok (.iadd, 1) := by decide +kernel
theorem dL_law_2608 : decode cL_law 2608 = .ok (.iaload, 1) := by decide +kernel
theorem dL_law_2609 : decode cL_law 2609 = .ok (.invokevirtual 284, 3) := by decide +kernel
theorem dL_law_2612 : decode cL_law 2612 = .ok (.dstore 7, 2) := by decide +kernel
theorem dL_law_2614 : decode cL_law 2614 = .ok (.aload_n 2, 1) := by decide +kernel
theorem dL_law_2615 : decode cL_law 2615 = .ok (.invokevirtual 150, 3) := by decide +kernel
theorem dL_law_2618 : decode cL_law 2618 = .ok (.iload 6, 2) := by decide +kernel
theorem dL_law_2620 : decode cL_law 2620 = .ok (.if_icmp .eq 5, 3) := by decide +kernel
theorem dL_law_2625 : decode cL_law 2625 = .ok (.iload 6, 2) := by decide +kernel
theorem dL_law_2627 : decode cL_law 2627 = .ok (.ifCond .ne 35, 3) := by decide +kernel
theorem dL_law_2662 : decode cL_law 2662 = .ok (.goto 58, 3) := by decide +kernel
theorem dL_law_2665 : decode cL_law 2665 = .ok (.aload_n 1, 1) := by decide +kernel
theorem dL_law_2666 : decode cL_law 2666 = .ok (.aload_n 0, 1) := by decide +kernel
theorem dL_law_2667 : decode cL_law 2667 = .ok (.iload 5, 2) := by decide +kernel
theorem dL_law_2669 : decode cL_law 2669 = .ok (.iconst 1, 1) := by decide +kernel
theorem dL_law_2670 : decode cL_law 2670 = .ok (.iadd, 1) := by decide +kernel
theorem dL_law_2671 : decode cL_law 2671 = .ok (.iaload, 1) := by decide +kernel
theorem dL_law_2672 : decode cL_law 2672 = .ok (.aload_n 3, 1) := by decide +kernel
theorem dL_law_2673 : decode cL_law 2673 = .ok (.invokestatic 285, 3) := by decide +kernel
theorem dL_law_2676 : decode cL_law 2676 = .ok (.istore 6, 2) := by decide +kernel
theorem dL_law_2678 : decode cL_law 2678 = .ok (.aload_n 2, 1) := by decide +kernel
theorem dL_law_2679 : decode cL_law 2679 = .ok (.aload_n 0, 1) := by decide +kernel
theorem dL_law_2680 : decode cL_law 2680 = .ok (.iload 5, 2) := by decide +kernel
theorem dL_law_2682 : decode cL_law 2682 = .ok (.iconst 1, 1) := by decide +kernel
theorem dL_law_2683 : decode cL_law 2683 = .ok (.iadd, 1) := by decide +kernel
theorem dL_law_2684 : decode cL_law 2684 = .ok (.iaload, 1) := by decide +kernel
theorem dL_law_2685 : decode cL_law 2685 = .ok (.invokevirtual 287, 3) := by decide +kernel
theorem dL_law_2688 : decode cL_law 2688 = .ok (.lstore 7, 2) := by decide +kernel
theorem dL_law_2690 : decode cL_law 2690 = .ok (.aload_n 2, 1) := by decide +kernel
theorem dL_law_2691 : decode cL_law 2691 = .ok (.invokevirtual 150, 3) := by decide +kernel
theorem dL_law_2694 : decode cL_law 2694 = .ok (.iload 6, 2) := by decide +kernel
theorem dL_law_2696 : decode cL_law 2696 = .ok (.if_icmp .eq 5, 3) := by decide +kernel
theorem dL_law_2701 : decode cL_law 2701 = .ok (.iload 6, 2) := by decide +kernel
theorem dL_law_2703 : decode cL_law 2703 = .ok (.ifCond .ne 14, 3) := by decide +kernel
theorem dL_law_2706 : decode cL_law 2706 = .ok (.aload_n 3, 1) := by decide +kernel
theorem dL_law_2707 : decode cL_law 2707 = .ok (.iconst 0, 1) := by decide +kernel
theorem dL_law_2708 : decode cL_law 2708 = .ok (.laload, 1) := by decide +kernel
theorem dL_law_2709 : decode cL_law 2709 = .ok (.lload 7, 2) := by decide +kernel
theorem dL_law_2711 : decode cL_law 2711 = .ok (.lcmp, 1) := by decide +kernel
theorem dL_law_2712 : decode cL_law 2712 = .ok (.ifCond .eq 5, 3) := by decide +kernel
theorem dL_law_2717 : decode cL_law 2717 = .ok (.goto 3, 3) := by decide +kernel
set_option maxHeartbeats 4000000 in
set_option maxRecDepth 100000 in
/-- case 38 of the law: equalShare, on fresh objects -/
theorem lc_38 {p : Program} {e : Env} {s : State} {m : MethodId} {below : List Frame} {meth : Method} {c : Code} (l : Launch) (hfl : l.stackTraces = false) {b : Nat} {xs : Nat → Int32} (hx : p.tables.exec = Jvm.exec) (hb : c.code = cL_law) (hr : meth.sig.returnType = ret) (hml : c.maxLocals = 9) (hown : s.vm.findClass RL = some m.cls) (hts : ∀ w ∈ wsL_law, w.before #[Value.ref b] s = true) (hlk : meth.locks = false) (A : Nat → Prop) (hAe : ∀ q, A q → s.heap.size ≤ q) (hA : ∀ q : Nat, s.heap.size ≤ q → A q) (hX9 : va_X b 7 xs s s.heap) (hbl : b < s.heap.size) (hN : fN s) (hZ : fZ A s s.heap) (hX : fX s) (dC : Nat → ClassId) (dI : Nat → Nat → Nat) (h0 pr w d on op un wL wK wV wN wS wB w0 w1 w2 w3 w4 w5 w6 w7 w8 w9 dL dK dV dN dS dB d0 d1 d2 d3 d4 d5 d6 d7 d8 d9 onR onL onC onD opR opL opC opD unK ma tm k0 kN kA kO kK kV kG kP kC kD kE kF kX kY kT kU oJ oD : Nat) (cI cN cO : ClassId) {H : Heap} {locs : List Loc} {ls : Array Slot} (hK : va_K (dC, dI) vwCl [(cN, .array .int), (cI, .int), (cO, .double)] s) (hP : va_P (dC, dI) vwCl [(h0, .inr (8, [.ref pr, .ref ma, .ref tm])), (pr, .inr (7, [.ref w, .ref d, .ref on, .ref op, .ref un, .int 0, .int 0])), (w, .inr (3, [.int 0, .int 0, .ref wL, .ref wK, .ref wV, .ref wN, .ref wS, .ref wB, .int 0])), (d, .inr (3, [.int 0, .int 0, .ref dL, .ref dK, .ref dV, .ref dN, .ref dS, .ref dB, .int 0])), (wV, .inl (cI, 10, .inl (fun _ => 0))), (dV, .inl (cI, 10, .inl (fun _ => 0))), (wS, .inl (cI, 10, .inl (fun _ => 0))), (dS, .inl (cI, 10, .inl (fun _ => 0))), (wN, .inl (cN, 10, .inr (.inr (.inr (.inr (fch w0 w1 w2 w3 w4 w5 w6 w7 w8 w9)))))), (w0, .inl (cI, 3, .inl fM3)), (w1, .inl (cI, 3, .inl fM3)), (w2, .inl (cI, 3, .inl fM3)), (w3, .inl (cI, 3, .inl fM3)), (w4, .inl (cI, 3, .inl fM3)), (w5, .inl (cI, 3, .inl fM3)), (w6, .inl (cI, 3, .inl fM3)), (w7, .inl (cI, 3, .inl fM3)), (w8, .inl (cI, 3, .inl fM3)), (w9, .inl (cI, 3, .inl fM3)), (dN, .inl (cN, 10, .inr (.inr (.inr (.inr (fch d0 d1 d2 d3 d4 d5 d6 d7 d8 d9)))))), (d0, .inl (cI, 3, .inl fM3)), (d1, .inl (cI, 3, .inl fM3)), (d2, .inl (cI, 3, .inl fM3)), (d3, .inl (cI, 3, .inl fM3)), (d4, .inl (cI, 3, .inl fM3)), (d5, .inl (cI, 3, .inl fM3)), (d6, .inl (cI, 3, .inl fM3)), (d7, .inl (cI, 3, .inl fM3)), (d8, .inl (cI, 3, .inl fM3)), (d9, .inl (cI, 3, .inl fM3)), (on, .inr (6, [.ref onR, .ref onL, .ref onC, .ref onD, .int 0])), (onL, .inl (cI, 20, .inl (fun _ => 0))), (onC, .inl (cI, 20, .inl (fun _ => 0))), (op, .inr (6, [.ref opR, .ref opL, .ref opC, .ref opD, .int 0])), (opL, .inl (cI, 20, .inl (fun _ => 0))), (opC, .inl (cI, 20, .inl (fun _ => 0))), (un, .inr (4, [.ref unK, .int 0])), (k0, .inr (9, [.ref kN, .ref kA, .ref kO, .ref kK, .ref kV, .ref kG, .ref kP, .ref kC, .ref kD, .ref kE, .ref kF, .ref kX, .ref kY, .int 0, .ref kT, .ref kU, .int 0, .int 0, .int 0])), (kN, .inl (cI, 2, .inl (fun _ => 0))), (kA, .inl (cI, 2, .inl (fun _ => 0))), (kC, .inl (cI, 20, .inl (fun _ => 0))), (kD, .inl (cI, 20, .inl (fun _ => 0))), (kE, .inl (cI, 20, .inl (fun _ => 0))), (kF, .inl (cI, 20, .inl (fun _ => 0))), (oD, .inl (cO, 1, .inr (.inr (.inr (.inl (fun _ => FP.dconst0))))))] H) (hD : va_D A [(h0, .inr (8, [.ref pr, .ref ma, .ref tm])), (pr, .inr (7, [.ref w, .ref d, .ref on, .ref op, .ref un, .int 0, .int 0])), (w, .inr (3, [.int 0, .int 0, .ref wL, .ref wK, .ref wV, .ref wN, .ref wS, .ref wB, .int 0])), (d, .inr (3, [.int 0, .int 0, .ref dL, .ref dK, .ref dV, .ref dN, .ref dS, .ref dB, .int 0])), (wV, .inl (cI, 10, .inl (fun _ => 0))), (dV, .inl (cI, 10, .inl (fun _ => 0))), (wS, .inl (cI, 10, .inl (fun _ => 0))), (dS, .inl (cI, 10, .inl (fun _ => 0))), (wN, .inl (cN, 10, .inr (.inr (.inr (.inr (fch w0 w1 w2 w3 w4 w5 w6 w7 w8 w9)))))), (w0, .inl (cI, 3, .inl fM3)), (w1, .inl (cI, 3, .inl fM3)), (w2, .inl (cI, 3, .inl fM3)), (w3, .inl (cI, 3, .inl fM3)), (w4, .inl (cI, 3, .inl fM3)), (w5, .inl (cI, 3, .inl fM3)), (w6, .inl (cI, 3, .inl fM3)), (w7, .inl (cI, 3, .inl fM3)), (w8, .inl (cI, 3, .inl fM3)), (w9, .inl (cI, 3, .inl fM3)), (dN, .inl (cN, 10, .inr (.inr (.inr (.inr (fch d0 d1 d2 d3 d4 d5 d6 d7 d8 d9)))))), (d0, .inl (cI, 3, .inl fM3)), (d1, .inl (cI, 3, .inl fM3)), (d2, .inl (cI, 3, .inl fM3)), (d3, .inl (cI, 3, .inl fM3)), (d4, .inl (cI, 3, .inl fM3)), (d5, .inl (cI, 3, .inl fM3)), (d6, .inl (cI, 3, .inl fM3)), (d7, .inl (cI, 3, .inl fM3)), (d8, .inl (cI, 3, .inl fM3)), (d9, .inl (cI, 3, .inl fM3)), (on, .inr (6, [.ref onR, .ref onL, .ref onC, .ref onD, .int 0])), (onL, .inl (cI, 20, .inl (fun _ => 0))), (onC, .inl (cI, 20, .inl (fun _ => 0))), (op, .inr (6, [.ref opR, .ref opL, .ref opC, .ref opD, .int 0])), (opL, .inl (cI, 20, .inl (fun _ => 0))), (opC, .inl (cI, 20, .inl (fun _ => 0))), (un, .inr (4, [.ref unK, .int 0])), (k0, .inr (9, [.ref kN, .ref kA, .ref kO, .ref kK, .ref kV, .ref kG, .ref kP, .ref kC, .ref kD, .ref kE, .ref kF, .ref kX, .ref kY, .int 0, .ref kT, .ref kU, .int 0, .int 0, .int 0])), (kN, .inl (cI, 2, .inl (fun _ => 0))), (kA, .inl (cI, 2, .inl (fun _ => 0))), (kC, .inl (cI, 20, .inl (fun _ => 0))), (kD, .inl (cI, 20, .inl (fun _ => 0))), (kE, .inl (cI, 20, .inl (fun _ => 0))), (kF, .inl (cI, 20, .inl (fun _ => 0))), (oD, .inl (cO, 1, .inr (.inr (.inr (.inl (fun _ => FP.dconst0))))))]) (hS : va_S A s.heap H locs) (hl : lv_has ls 9 [(5, .int 0), (4, .ref oD), (3, .ref oJ), (2, .ref k0), (1, .ref h0), (0, .ref b)]) : W p l e room_1 s m #[Value.ref b] below meth c H locs 114 2061 (lw_Z below #[Value.ref b] s) (F0 m 2522 ls []) := by
  have hbA : ¬ A b := fun h => Nat.not_le.mpr hbl (hAe _ h)
  have hX0 := hX
  refine lv_aload_n hx hb dL_law_2522 rfl (lv_at hl 4 rfl) ?_
  refine lv_aload hx hb dL_law_2523 (lv_at hl 1 rfl) ?_
  have hPc := hP.sub (ws' := [(h0, .inr (8, [.ref pr, .ref ma, .ref tm])), (pr, .inr (7, [.ref w, .ref d, .ref on, .ref op, .ref un, .int 0, .int 0])), (w, .inr (3, [.int 0, .int 0, .ref wL, .ref wK, .ref wV, .ref wN, .ref wS, .ref wB, .int 0])), (d, .inr (3, [.int 0, .int 0, .ref dL, .ref dK, .ref dV, .ref dN, .ref dS, .ref dB, .int 0])), (wV, .inl (cI, 10, .inl (fun _ => 0))), (dV, .inl (cI, 10, .inl (fun _ => 0))), (wS, .inl (cI, 10, .inl (fun _ => 0))), (dS, .inl (cI, 10, .inl (fun _ => 0))), (wN, .inl (cN, 10, .inr (.inr (.inr (.inr (fch w0 w1 w2 w3 w4 w5 w6 w7 w8 w9)))))), (w0, .inl (cI, 3, .inl fM3)), (w1, .inl (cI, 3, .inl fM3)), (w2, .inl (cI, 3, .inl fM3)), (w3, .inl (cI, 3, .inl fM3)), (w4, .inl (cI, 3, .inl fM3)), (w5, .inl (cI, 3, .inl fM3)), (w6, .inl (cI, 3, .inl fM3)), (w7, .inl (cI, 3, .inl fM3)), (w8, .inl (cI, 3, .inl fM3)), (w9, .inl (cI, 3, .inl fM3)), (dN, .inl (cN, 10, .inr (.inr (.inr (.inr (fch d0 d1 d2 d3 d4 d5 d6 d7 d8 d9)))))), (d0, .inl (cI, 3, .inl fM3)), (d1, .inl (cI, 3, .inl fM3)), (d2, .inl (cI, 3, .inl fM3)), (d3, .inl (cI, 3, .inl fM3)), (d4, .inl (cI, 3, .inl fM3)), (d5, .inl (cI, 3, .inl fM3)), (d6, .inl (cI, 3, .inl fM3)), (d7, .inl (cI, 3, .inl fM3)), (d8, .inl (cI, 3, .inl fM3)), (d9, .inl (cI, 3, .inl fM3)), (on, .inr (6, [.ref onR, .ref onL, .ref onC, .ref onD, .int 0])), (onL, .inl (cI, 20, .inl (fun _ => 0))), (onC, .inl (cI, 20, .inl (fun _ => 0))), (op, .inr (6, [.ref opR, .ref opL, .ref opC, .ref opD, .int 0])), (opL, .inl (cI, 20, .inl (fun _ => 0))), (opC, .inl (cI, 20, .inl (fun _ => 0))), (un, .inr (4, [.ref unK, .int 0])), (oD, .inl (cO, 1, .inr (.inr (.inr (.inl (fun _ => FP.dconst0))))))]) [0, 1, 2, 3, 4, 5, 6, 7, 8, 9, 10, 11, 12, 13, 14, 15, 16, 17, 18, 19, 20, 21, 22, 23, 24, 25, 26, 27, 28, 29, 30, 31, 32, 33, 34, 35, 36, 44] rfl
  have hDc := hD.sub (ws' := [(h0, .inr (8, [.ref pr, .ref ma, .ref tm])), (pr, .inr (7, [.ref w, .ref d, .ref on, .ref op, .ref un, .int 0, .int 0])), (w, .inr (3, [.int 0, .int 0, .ref wL, .ref wK, .ref wV, .ref wN, .ref wS, .ref wB, .int 0])), (d, .inr (3, [.int 0, .int 0, .ref dL, .ref dK, .ref dV, .ref dN, .ref dS, .ref dB, .int 0])), (wV, .inl (cI, 10, .inl (fun _ => 0))), (dV, .inl (cI, 10, .inl (fun _ => 0))), (wS, .inl (cI, 10, .inl (fun _ => 0))), (dS, .inl (cI, 10, .inl (fun _ => 0))), (wN, .inl (cN, 10, .inr (.inr (.inr (.inr (fch w0 w1 w2 w3 w4 w5 w6 w7 w8 w9)))))), (w0, .inl (cI, 3, .inl fM3)), (w1, .inl (cI, 3, .inl fM3)), (w2, .inl (cI, 3, .inl fM3)), (w3, .inl (cI, 3, .inl fM3)), (w4, .inl (cI, 3, .inl fM3)), (w5, .inl (cI, 3, .inl fM3)), (w6, .inl (cI, 3, .inl fM3)), (w7, .inl (cI, 3, .inl fM3)), (w8, .inl (cI, 3, .inl fM3)), (w9, .inl (cI, 3, .inl fM3)), (dN, .inl (cN, 10, .inr (.inr (.inr (.inr (fch d0 d1 d2 d3 d4 d5 d6 d7 d8 d9)))))), (d0, .inl (cI, 3, .inl fM3)), (d1, .inl (cI, 3, .inl fM3)), (d2, .inl (cI, 3, .inl fM3)), (d3, .inl (cI, 3, .inl fM3)), (d4, .inl (cI, 3, .inl fM3)), (d5, .inl (cI, 3, .inl fM3)), (d6, .inl (cI, 3, .inl fM3)), (d7, .inl (cI, 3, .inl fM3)), (d8, .inl (cI, 3, .inl fM3)), (d9, .inl (cI, 3, .inl fM3)), (on, .inr (6, [.ref onR, .ref onL, .ref onC, .ref onD, .int 0])), (onL, .inl (cI, 20, .inl (fun _ => 0))), (onC, .inl (cI, 20, .inl (fun _ => 0))), (op, .inr (6, [.ref opR, .ref opL, .ref opC, .ref opD, .int 0])), (opL, .inl (cI, 20, .inl (fun _ => 0))), (opC, .inl (cI, 20, .inl (fun _ => 0))), (un, .inr (4, [.ref unK, .int 0])), (oD, .inl (cO, 1, .inr (.inr (.inr (.inl (fun _ => FP.dconst0))))))]) [0, 1, 2, 3, 4, 5, 6, 7, 8, 9, 10, 11, 12, 13, 14, 15, 16, 17, 18, 19, 20, 21, 22, 23, 24, 25, 26, 27, 28, 29, 30, 31, 32, 33, 34, 35, 36, 44] (by decide) rfl
  have hKc := hK.sub (tys' := [(cN, .array .int), (cI, .int), (cO, .double)]) [0, 1, 2] rfl
  have hFc := va_free (wc := [(h0, .inr (8, [.ref pr, .ref ma, .ref tm])), (pr, .inr (7, [.ref w, .ref d, .ref on, .ref op, .ref un, .int 0, .int 0])), (w, .inr (3, [.int 0, .int 0, .ref wL, .ref wK, .ref wV, .ref wN, .ref wS, .ref wB, .int 0])), (d, .inr (3, [.int 0, .int 0, .ref dL, .ref dK, .ref dV, .ref dN, .ref dS, .ref dB, .int 0])), (wV, .inl (cI, 10, .inl (fun _ => 0))), (dV, .inl (cI, 10, .inl (fun _ => 0))), (wS, .inl (cI, 10, .inl (fun _ => 0))), (dS, .inl (cI, 10, .inl (fun _ => 0))), (wN, .inl (cN, 10, .inr (.inr (.inr (.inr (fch w0 w1 w2 w3 w4 w5 w6 w7 w8 w9)))))), (w0, .inl (cI, 3, .inl fM3)), (w1, .inl (cI, 3, .inl fM3)), (w2, .inl (cI, 3, .inl fM3)), (w3, .inl (cI, 3, .inl fM3)), (w4, .inl (cI, 3, .inl fM3)), (w5, .inl (cI, 3, .inl fM3)), (w6, .inl (cI, 3, .inl fM3)), (w7, .inl (cI, 3, .inl fM3)), (w8, .inl (cI, 3, .inl fM3)), (w9, .inl (cI, 3, .inl fM3)), (dN, .inl (cN, 10, .inr (.inr (.inr (.inr (fch d0 d1 d2 d3 d4 d5 d6 d7 d8 d9)))))), (d0, .inl (cI, 3, .inl fM3)), (d1, .inl (cI, 3, .inl fM3)), (d2, .inl (cI, 3, .inl fM3)), (d3, .inl (cI, 3, .inl fM3)), (d4, .inl (cI, 3, .inl fM3)), (d5, .inl (cI, 3, .inl fM3)), (d6, .inl (cI, 3, .inl fM3)), (d7, .inl (cI, 3, .inl fM3)), (d8, .inl (cI, 3, .inl fM3)), (d9, .inl (cI, 3, .inl fM3)), (on, .inr (6, [.ref onR, .ref onL, .ref onC, .ref onD, .int 0])), (onL, .inl (cI, 20, .inl (fun _ => 0))), (onC, .inl (cI, 20, .inl (fun _ => 0))), (op, .inr (6, [.ref opR, .ref opL, .ref opC, .ref opD, .int 0])), (opL, .inl (cI, 20, .inl (fun _ => 0))), (opC, .inl (cI, 20, .inl (fun _ => 0))), (un, .inr (4, [.ref unK, .int 0])), (oD, .inl (cO, 1, .inr (.inr (.inr (.inl (fun _ => FP.dconst0))))))]) hD hS hA [0, 1, 2, 3, 4, 5, 6, 7, 8, 9, 10, 11, 12, 13, 14, 15, 16, 17, 18, 19, 20, 21, 22, 23, 24, 25, 26, 27, 28, 29, 30, 31, 32, 33, 34, 35, 36, 44] rfl
  refine vx_calli (vx_runSX (As := [.ref h0, .ref oD]) (rest := []) ⟨hx, hb, hml, hown, hts⟩ (kL_equalShare l hfl dC dI h0 ma tm pr w d on op un wL wK wV wN wS wB dL dK dV dN dS dB w0 w1 w2 w3 w4 w5 w6 w7 w8 w9 d0 d1 d2 d3 d4 d5 d6 d7 d8 d9 onR onL onC onD opR opL opC opD unK cI cN (fun _ => 0) (fun _ => 0) (fun _ => 0) (fun _ => 0) oD cO H.size) (vx_cwSW 2 hts gL_law_L_equalShare rfl rfl rfl (by decide +kernel) ⟨Nat.le_of_ble_eq_true rfl, Nat.le_of_ble_eq_true rfl⟩) (gPreS hX hN hZ hS (fun q h => hFc q h) hPc hKc hDc) rfl rfl hl.1 rfl (lv_room (Nat.le_of_ble_eq_true rfl)) dL_law_2525 ⟨Nat.le_of_ble_eq_true rfl, Nat.le_of_ble_eq_true rfl⟩) hS (fun q _ h => hFc q h) hFc (fun q _ h => hFc q h) (fun E ce q9 u t H locs ht hvm hpx hE hz1 hk1 hS hq9 hv9 hc9 => ?_) (fun r u t H1 locs ht hvm hw hB hz1 hk1 hS => ?_)
  · skip
    exact hE.elim
  · skip
    obtain ⟨hP1, hK1, hD1⟩ := hB
    rw [ht] at hP1
    have hK1 := va_K.moved hvm.symm hK1
    obtain ⟨u1, rfl⟩ : ∃ z, z = u := ⟨_, rfl⟩
    obtain ⟨hP, hD⟩ := va_join (wr := [(k0, .inr (9, [.ref kN, .ref kA, .ref kO, .ref kK, .ref kV, .ref kG, .ref kP, .ref kC, .ref kD, .ref kE, .ref kF, .ref kX, .ref kY, .int 0, .ref kT, .ref kU, .int 0, .int 0, .int 0])), (kN, .inl (cI, 2, .inl (fun _ => 0))), (kA, .inl (cI, 2, .inl (fun _ => 0))), (kC, .inl (cI, 20, .inl (fun _ => 0))), (kD, .inl (cI, 20, .inl (fun _ => 0))), (kE, .inl (cI, 20, .inl (fun _ => 0))), (kF, .inl (cI, 20, .inl (fun _ => 0)))]) (w1 := [(oD, .inl (cO, 1, .inr (.inr (.inr (.inl u1)))))]) hP hD [0, 1, 2, 3, 4, 5, 6, 7, 8, 9, 10, 11, 12, 13, 14, 15, 16, 17, 18, 19, 20, 21, 22, 23, 24, 25, 26, 27, 28, 29, 30, 31, 32, 33, 34, 35, 36, 44] [37, 38, 39, 40, 41, 42, 43] rfl rfl (by decide) (by decide) hk1 hFc hP1 hD1
    generalize H1 = H at hP hS ⊢
    have hP : va_P (dC, dI) vwCl [(k0, .inr (9, [.ref kN, .ref kA, .ref kO, .ref kK, .ref kV, .ref kG, .ref kP, .ref kC, .ref kD, .ref kE, .ref kF, .ref kX, .ref kY, .int 0, .ref kT, .ref kU, .int 0, .int 0, .int 0])), (kN, .inl (cI, 2, .inl (fun _ => 0))), (kA, .inl (cI, 2, .inl (fun _ => 0))), (kC, .inl (cI, 20, .inl (fun _ => 0))), (kD, .inl (cI, 20, .inl (fun _ => 0))), (kE, .inl (cI, 20, .inl (fun _ => 0))), (kF, .inl (cI, 20, .inl (fun _ => 0))), (oD, .inl (cO, 1, .inr (.inr (.inr (.inl u1)))))] _ := hP
    have hD : va_D A [(k0, .inr (9, [.ref kN, .ref kA, .ref kO, .ref kK, .ref kV, .ref kG, .ref kP, .ref kC, .ref kD, .ref kE, .ref kF, .ref kX, .ref kY, .int 0, .ref kT, .ref kU, .int 0, .int 0, .int 0])), (kN, .inl (cI, 2, .inl (fun _ => 0))), (kA, .inl (cI, 2, .inl (fun _ => 0))), (kC, .inl (cI, 20, .inl (fun _ => 0))), (kD, .inl (cI, 20, .inl (fun _ => 0))), (kE, .inl (cI, 20, .inl (fun _ => 0))), (kF, .inl (cI, 20, .inl (fun _ => 0))), (oD, .inl (cO, 1, .inr (.inr (.inr (.inl u1)))))] := hD
    refine W.widen (k := 115) (n := 2067) (Nat.le_of_ble_eq_true rfl) (Nat.le_of_ble_eq_true rfl) ?_
    subst hw
    refine lv_istore (lv' := [(6, .int 1), (5, .int 0), (4, .ref oD), (3, .ref oJ), (2, .ref k0), (1, .ref h0), (0, .ref b)]) hx hb dL_law_2528 hl (Nat.le_of_ble_eq_true rfl) rfl (fun ls hl => ?_)
    refine lv_aload_n hx hb dL_law_2530 rfl (lv_at hl 4 rfl) ?_
    have hPc := hP.sub (ws' := [(k0, .inr (9, [.ref kN, .ref kA, .ref kO, .ref kK, .ref kV, .ref kG, .ref kP, .ref kC, .ref kD, .ref kE, .ref kF, .ref kX, .ref kY, .int 0, .ref kT, .ref kU, .int 0, .int 0, .int 0])), (kN, .inl (cI, 2, .inl (fun _ => 0))), (kA, .inl (cI, 2, .inl (fun _ => 0))), (kC, .inl (cI, 20, .inl (fun _ => 0))), (kD, .inl (cI, 20, .inl (fun _ => 0))), (kE, .inl (cI, 20, .inl (fun _ => 0))), (kF, .inl (cI, 20, .inl (fun _ => 0)))]) [0, 1, 2, 3, 4, 5, 6] rfl
    have hDc := hD.sub (ws' := [(k0, .inr (9, [.ref kN, .ref kA, .ref kO, .ref kK, .ref kV, .ref kG, .ref kP, .ref kC, .ref kD, .ref kE, .ref kF, .ref kX, .ref kY, .int 0, .ref kT, .ref kU, .int 0, .int 0, .int 0])), (kN, .inl (cI, 2, .inl (fun _ => 0))), (kA, .inl (cI, 2, .inl (fun _ => 0))), (kC, .inl (cI, 20, .inl (fun _ => 0))), (kD, .inl (cI, 20, .inl (fun _ => 0))), (kE, .inl (cI, 20, .inl (fun _ => 0))), (kF, .inl (cI, 20, .inl (fun _ => 0)))]) [0, 1, 2, 3, 4, 5, 6] (by decide) rfl
    have hKc := hK.sub (tys' := [(cI, .int)]) [1] rfl
    have hFc := va_free (wc := [(k0, .inr (9, [.ref kN, .ref kA, .ref kO, .ref kK, .ref kV, .ref kG, .ref kP, .ref kC, .ref kD, .ref kE, .ref kF, .ref kX, .ref kY, .int 0, .ref kT, .ref kU, .int 0, .int 0, .int 0])), (kN, .inl (cI, 2, .inl (fun _ => 0))), (kA, .inl (cI, 2, .inl (fun _ => 0))), (kC, .inl (cI, 20, .inl (fun _ => 0))), (kD, .inl (cI, 20, .inl (fun _ => 0))), (kE, .inl (cI, 20, .inl (fun _ => 0))), (kF, .inl (cI, 20, .inl (fun _ => 0)))]) hD hS hA [0, 1, 2, 3, 4, 5, 6] rfl
    refine va_callf (va_runV (As := []) (rest := []) ⟨hx, hb, hml, hown, hts⟩ (kX6_equalShare l dC dI k0 kN kA kO kK kV kG kP kC kD kE kF kX kY kT kU cI (fun _ => 0) (fun _ => 0) (fun _ => 0) (fun _ => 0) H.size) (cwV 0 hts gL_law_X6_equalShare rfl rfl rfl (by decide +kernel) ⟨Nat.le_of_ble_eq_true rfl, Nat.le_of_ble_eq_true rfl⟩) (fPreV hN hZ hS (fun q h => hFc q h) hPc hKc hDc (ci := 9) (q0 := 0) rfl rfl) rfl rfl hl.1 rfl (lv_room (Nat.le_of_ble_eq_true rfl)) dL_law_2531 ⟨Nat.le_of_ble_eq_true rfl, Nat.le_of_ble_eq_true rfl⟩) hS (fun q _ h => hFc q h) hFc (fun r u t H1 locs ht hvm hw hB hz1 hk1 hS => ?_)
    obtain ⟨hP1, hK1, hD1⟩ := hB
    rw [ht] at hP1
    have hK1 := va_K.moved hvm.symm hK1
    obtain ⟨u2, rfl⟩ : ∃ z, z = u := ⟨_, rfl⟩
    obtain ⟨hP, hD⟩ := va_join (wr := [(oD, .inl (cO, 1, .inr (.inr (.inr (.inl u1)))))]) (w1 := [(k0, .inr (9, [.ref kN, .ref kA, .ref kO, .ref kK, .ref kV, .ref kG, .ref kP, .ref kC, .ref kD, .ref kE, .ref kF, .ref kX, .ref kY, .int 0, .ref kT, .ref kU, .int u2, .int 0, .int 0]))]) hP hD [0, 1, 2, 3, 4, 5, 6] [7] rfl rfl (by decide) (by decide) hk1 hFc hP1 hD1
    generalize H1 = H at hP hS ⊢
    have hP : va_P (dC, dI) vwCl [(oD, .inl (cO, 1, .inr (.inr (.inr (.inl u1))))), (k0, .inr (9, [.ref kN, .ref kA, .ref kO, .ref kK, .ref kV, .ref kG, .ref kP, .ref kC, .ref kD, .ref kE, .ref kF, .ref kX, .ref kY, .int 0, .ref kT, .ref kU, .int u2, .int 0, .int 0]))] _ := hP
    have hD : va_D A [(oD, .inl (cO, 1, .inr (.inr (.inr (.inl u1))))), (k0, .inr (9, [.ref kN, .ref kA, .ref kO, .ref kK, .ref kV, .ref kG, .ref kP, .ref kC, .ref kD, .ref kE, .ref kF, .ref kX, .ref kY, .int 0, .ref kT, .ref kU, .int u2, .int 0, .int 0]))] := hD
    refine W.widen (k := 117) (n := 2107) (Nat.le_of_ble_eq_true rfl) (Nat.le_of_ble_eq_true rfl) ?_
    obtain ⟨r3, rfl⟩ : ∃ z, z = r := ⟨_, rfl⟩
    subst hw
    have hP : va_P (dC, dI) vwCl [(oD, .inl (cO, 1, .inr (.inr (.inr (.inl u1))))), (k0, .inr (9, [.ref kN, .ref kA, .ref kO, .ref kK, .ref kV, .ref kG, .ref kP, .ref kC, .ref kD, .ref kE, .ref kF, .ref kX, .ref kY, .int 0, .ref kT, .ref kU, .int 1, .int 0, .int 0]))] _ := hP
    have hD : va_D A [(oD, .inl (cO, 1, .inr (.inr (.inr (.inl u1))))), (k0, .inr (9, [.ref kN, .ref kA, .ref kO, .ref kK, .ref kV, .ref kG, .ref kP, .ref kC, .ref kD, .ref kE, .ref kF, .ref kX, .ref kY, .int 0, .ref kT, .ref kU, .int 1, .int 0, .int 0]))] := hD
    refine lv_fstore (lv' := [(7, .float r3), (6, .int 1), (5, .int 0), (4, .ref oD), (3, .ref oJ), (2, .ref k0), (1, .ref h0), (0, .ref b)]) hx hb dL_law_2534 hl (Nat.le_of_ble_eq_true rfl) rfl (fun ls hl => ?_)
    refine lv_aload_n hx hb dL_law_2536 rfl (lv_at hl 5 rfl) ?_
    have hPc := hP.sub (ws' := [(k0, .inr (9, [.ref kN, .ref kA, .ref kO, .ref kK, .ref kV, .ref kG, .ref kP, .ref kC, .ref kD, .ref kE, .ref kF, .ref kX, .ref kY, .int 0, .ref kT, .ref kU, .int 1, .int 0, .int 0]))]) [1] rfl
    have hDc := hD.sub (ws' := [(k0, .inr (9, [.ref kN, .ref kA, .ref kO, .ref kK, .ref kV, .ref kG, .ref kP, .ref kC, .ref kD, .ref kE, .ref kF, .ref kX, .ref kY, .int 0, .ref kT, .ref kU, .int 1, .int 0, .int 0]))]) [1] (by decide) rfl
    have hKc := hK.sub (tys' := []) [] rfl
    have hFc := va_free (wc := [(k0, .inr (9, [.ref kN, .ref kA, .ref kO, .ref kK, .ref kV, .ref kG, .ref kP, .ref kC, .ref kD, .ref kE, .ref kF, .ref kX, .ref kY, .int 0, .ref kT, .ref kU, .int 1, .int 0, .int 0]))]) hD hS hA [1] rfl
    refine va_calli (va_runV (As := []) (rest := []) ⟨hx, hb, hml, hown, hts⟩ (kX6_thrown l dC dI k0 kN kA kO kK kV kG kP kC kD kE kF kX kY kT kU 1 H.size) (cwV 0 hts gL_law_X6_thrown rfl rfl rfl (by decide +kernel) ⟨Nat.le_of_ble_eq_true rfl, Nat.le_of_ble_eq_true rfl⟩) (fPreV hN hZ hS (fun q h => hFc q h) hPc hKc hDc (ci := 9) (q0 := 0) rfl rfl) rfl rfl hl.1 rfl (lv_room (Nat.le_of_ble_eq_true rfl)) dL_law_2537 ⟨Nat.le_of_ble_eq_true rfl, Nat.le_of_ble_eq_true rfl⟩) hS (fun q _ h => hFc q h) hFc (fun r u t H1 locs ht hvm hw hB hz1 hk1 hS => ?_)
    obtain ⟨hP1, hK1, hD1⟩ := hB
    rw [ht] at hP1
    have hK1 := va_K.moved hvm.symm hK1
    obtain ⟨hP, hD⟩ := va_join (wr := [(oD, .inl (cO, 1, .inr (.inr (.inr (.inl u1)))))]) (w1 := []) hP hD [1] [0] rfl rfl (by decide) (by decide) hk1 hFc hP1 hD1
    generalize H1 = H at hP hS ⊢
    have hP : va_P (dC, dI) vwCl [(oD, .inl (cO, 1, .inr (.inr (.inr (.inl u1)))))] _ := hP
    have hD : va_D A [(oD, .inl (cO, 1, .inr (.inr (.inr (.inl u1)))))] := hD
    subst hw
    refine lv_iload hx hb dL_law_2540 (lv_at hl 1 rfl) ?_
    refine lv_icmp_eq (tgt := 2547) hx hb dL_law_2542 (by decide) (fun _ => ?_) (fun h9 => absurd (by decide) h9)
    refine lv_iload hx hb dL_law_2547 (lv_at hl 1 rfl) ?_
    refine lv_if_ne (tgt := 2585) hx hb dL_law_2549 (by decide) (fun _ => ?_) (fun h9 => absurd h9 (by decide))
    refine lv_goto (tgt := 2720) hx hb dL_law_2585 (by decide) ?_
    refine lv_iinc (v := 7) (lv' := [(5, .int 7), (7, .float r3), (6, .int 1), (4, .ref oD), (3, .ref oJ), (2, .ref k0), (1, .ref h0), (0, .ref b)]) hx hb dL_law_2720 hl (k := 2) rfl (by decide) (Nat.le_of_ble_eq_true rfl) rfl (fun ls hl => ?_)
    refine lv_goto (tgt := 28) hx hb dL_law_2723 (by decide) ?_
    refine lv_iload hx hb dL_law_28 (lv_at hl 0 rfl) ?_
    refine lv_aload_n hx hb dL_law_30 rfl (lv_at hl 7 rfl) ?_
    refine va_slen hx hb hX9 hbl hbA hS dL_law_31 ?_
    refine W.eq (g2 := F0 m 32 ls [.int 7, .int 7]) rfl ?_
    refine lv_bipush (v := 7) hx hb dL_law_32 (by decide) ?_
    refine lv_isub hx hb dL_law_34 ?_
    refine lv_topi (fun y4 ey4 => ?_)
    obtain rfl : y4 = 0 := ey4.trans (by decide)
    refine lv_icmp_gt (tgt := 2726) hx hb dL_law_35 (by decide) (fun _ => ?_) (fun h9 => absurd (by decide) h9)
    refine lv_iconst (v := 1) hx hb dL_law_2726 (by decide) ?_
    refine va_forget (fun q hq => hAe _ (hS.2.2 q hq)) ?_
    refine W.widen (k := 600006) (n := 7302048) (Nat.le_of_ble_eq_true rfl) (Nat.le_of_ble_eq_true rfl) ?_
    exact W.base (lw_ret (d0 := s.drawn) (Drawn.sameBut.refl _ _) hx hb hr hlk dL_law_2727)

set_option maxHeartbeats 4000000 in
set_option maxRecDepth 100000 in
/-- case 39 of the law: meanDistance, on fresh objects -/
theorem lc_39 {p : Program} {e : Env} {s : State} {m : MethodId} {below : List Frame} {meth : Method} {c : Code} (l : Launch) (hfl : l.stackTraces = false) {b : Nat} {xs : Nat → Int32} (hx : p.tables.exec = Jvm.exec) (hb : c.code = cL_law) (hr : meth.sig.returnType = ret) (hml : c.maxLocals = 9) (hown : s.vm.findClass RL = some m.cls) (hts : ∀ w ∈ wsL_law, w.before #[Value.ref b] s = true) (hlk : meth.locks = false) (A : Nat → Prop) (hAe : ∀ q, A q → s.heap.size ≤ q) (hA : ∀ q : Nat, s.heap.size ≤ q → A q) (hX9 : va_X b 7 xs s s.heap) (hbl : b < s.heap.size) (hN : fN s) (hZ : fZ A s s.heap) (hX : fX s) (dC : Nat → ClassId) (dI : Nat → Nat → Nat) (h0 pr w d on op un wL wK wV wN wS wB w0 w1 w2 w3 w4 w5 w6 w7 w8 w9 dL dK dV dN dS dB d0 d1 d2 d3 d4 d5 d6 d7 d8 d9 ma tm k0 kN kA kO kK kV kG kP kC kD kE kF kX kY kT kU oJ oD : Nat) (cI cN cO : ClassId) {H : Heap} {locs : List Loc} {ls : Array Slot} (hK : va_K (dC, dI) vwCl [(cN, .array .int), (cI, .int), (cO, .double)] s) (hP : va_P (dC, dI) vwCl [(h0, .inr (8, [.ref pr, .ref ma, .ref tm])), (pr, .inr (7, [.ref w, .ref d, .ref on, .ref op, .ref un, .int 0, .int 0])), (w, .inr (3, [.int 0, .int 0, .ref wL, .ref wK, .ref wV, .ref wN, .ref wS, .ref wB, .int 0])), (d, .inr (3, [.int 0, .int 0, .ref dL, .ref dK, .ref dV, .ref dN, .ref dS, .ref dB, .int 0])), (wS, .inl (cI, 10, .inl (fun _ => 0))), (dS, .inl (cI, 10, .inl (fun _ => 0))), (wN, .inl (cN, 10, .inr (.inr (.inr (.inr (fch w0 w1 w2 w3 w4 w5 w6 w7 w8 w9)))))), (w0, .inl (cI, 3, .inl fM3)), (w1, .inl (cI, 3, .inl fM3)), (w2, .inl (cI, 3, .inl fM3)), (w3, .inl (cI, 3, .inl fM3)), (w4, .inl (cI, 3, .inl fM3)), (w5, .inl (cI, 3, .inl fM3)), (w6, .inl (cI, 3, .inl fM3)), (w7, .inl (cI, 3, .inl fM3)), (w8, .inl (cI, 3, .inl fM3)), (w9, .inl (cI, 3, .inl fM3)), (dN, .inl (cN, 10, .inr (.inr (.inr (.inr (fch d0 d1 d2 d3 d4 d5 d6 d7 d8 d9)))))), (d0, .inl (cI, 3, .inl fM3)), (d1, .inl (cI, 3, .inl fM3)), (d2, .inl (cI, 3, .inl fM3)), (d3, .inl (cI, 3, .inl fM3)), (d4, .inl (cI, 3, .inl fM3)), (d5, .inl (cI, 3, .inl fM3)), (d6, .inl (cI, 3, .inl fM3)), (d7, .inl (cI, 3, .inl fM3)), (d8, .inl (cI, 3, .inl fM3)), (d9, .inl (cI, 3, .inl fM3)), (k0, .inr (9, [.ref kN, .ref kA, .ref kO, .ref kK, .ref kV, .ref kG, .ref kP, .ref kC, .ref kD, .ref kE, .ref kF, .ref kX, .ref kY, .int 0, .ref kT, .ref kU, .int 0, .int 0, .int 0])), (kN, .inl (cI, 2, .inl (fun _ => 0))), (kA, .inl (cI, 2, .inl (fun _ => 0))), (oD, .inl (cO, 1, .inr (.inr (.inr (.inl (fun _ => FP.dconst0))))))] H) (hD : va_D A [(h0, .inr (8, [.ref pr, .ref ma, .ref tm])), (pr, .inr (7, [.ref w, .ref d, .ref on, .ref op, .ref un, .int 0, .int 0])), (w, .inr (3, [.int 0, .int 0, .ref wL, .ref wK, .ref wV, .ref wN, .ref wS, .ref wB, .int 0])), (d, .inr (3, [.int 0, .int 0, .ref dL, .ref dK, .ref dV, .ref dN, .ref dS, .ref dB, .int 0])), (wS, .inl (cI, 10, .inl (fun _ => 0))), (dS, .inl (cI, 10, .inl (fun _ => 0))), (wN, .inl (cN, 10, .inr (.inr (.inr (.inr (fch w0 w1 w2 w3 w4 w5 w6 w7 w8 w9)))))), (w0, .inl (cI, 3, .inl fM3)), (w1, .inl (cI, 3, .inl fM3)), (w2, .inl (cI, 3, .inl fM3)), (w3, .inl (cI, 3, .inl fM3)), (w4, .inl (cI, 3, .inl fM3)), (w5, .inl (cI, 3, .inl fM3)), (w6, .inl (cI, 3, .inl fM3)), (w7, .inl (cI, 3, .inl fM3)), (w8, .inl (cI, 3, .inl fM3)), (w9, .inl (cI, 3, .inl fM3)), (dN, .inl (cN, 10, .inr (.inr (.inr (.inr (fch d0 d1 d2 d3 d4 d5 d6 d7 d8 d9)))))), (d0, .inl (cI, 3, .inl fM3)), (d1, .inl (cI, 3, .inl fM3)), (d2, .inl (cI, 3, .inl fM3)), (d3, .inl (cI, 3, .inl fM3)), (d4, .inl (cI, 3, .inl fM3)), (d5, .inl (cI, 3, .inl fM3)), (d6, .inl (cI, 3, .inl fM3)), (d7, .inl (cI, 3, .inl fM3)), (d8, .inl (cI, 3, .inl fM3)), (d9, .inl (cI, 3, .inl fM3)), (k0, .inr (9, [.ref kN, .ref kA, .ref kO, .ref kK, .ref kV, .ref kG, .ref kP, .ref kC, .ref kD, .ref kE, .ref kF, .ref kX, .ref kY, .int 0, .ref kT, .ref kU, .int 0, .int 0, .int 0])), (kN, .inl (cI, 2, .inl (fun _ => 0))), (kA, .inl (cI, 2, .inl (fun _ => 0))), (oD, .inl (cO, 1, .inr (.inr (.inr (.inl (fun _ => FP.dconst0))))))]) (hS : va_S A s.heap H locs) (hl : lv_has ls 9 [(5, .int 0), (4, .ref oD), (3, .ref oJ), (2, .ref k0), (1, .ref h0), (0, .ref b)]) : W p l e room_1 s m #[Value.ref b] below meth c H locs 114 2061 (lw_Z below #[Value.ref b] s) (F0 m 2588 ls []) := by
  have hbA : ¬ A b := fun h => Nat.not_le.mpr hbl (hAe _ h)
  have hX0 := hX
  refine lv_aload_n hx hb dL_law_2588 rfl (lv_at hl 4 rfl) ?_
  refine lv_aload_n hx hb dL_law_2589 rfl (lv_at hl 5 rfl) ?_
  refine lv_iload hx hb dL_law_2590 (lv_at hl 0 rfl) ?_
  refine lv_iconst (v := 1) hx hb dL_law_2592 (by decide) ?_
  refine lv_iadd hx hb dL_law_2593 ?_
  refine lv_topi (fun y1 ey1 => ?_)
  obtain rfl : y1 = 1 := ey1.trans (by decide)
  refine va_sld hx hb hX9 hbl hbA hS (show ¬ (_ ∨ _) by decide) dL_law_2594 ?_
  refine W.eq (g2 := F0 m 2595 ls [.int (xs 1), .ref h0]) rfl ?_
  refine lv_aload hx hb dL_law_2595 (lv_at hl 1 rfl) ?_
  have hPc := hP.sub (ws' := [(h0, .inr (8, [.ref pr, .ref ma, .ref tm])), (pr, .inr (7, [.ref w, .ref d, .ref on, .ref op, .ref un, .int 0, .int 0])), (w, .inr (3, [.int 0, .int 0, .ref wL, .ref wK, .ref wV, .ref wN, .ref wS, .ref wB, .int 0])), (d, .inr (3, [.int 0, .int 0, .ref dL, .ref dK, .ref dV, .ref dN, .ref dS, .ref dB, .int 0])), (wS, .inl (cI, 10, .inl (fun _ => 0))), (dS, .inl (cI, 10, .inl (fun _ => 0))), (wN, .inl (cN, 10, .inr (.inr (.inr (.inr (fch w0 w1 w2 w3 w4 w5 w6 w7 w8 w9)))))), (w0, .inl (cI, 3, .inl fM3)), (w1, .inl (cI, 3, .inl fM3)), (w2, .inl (cI, 3, .inl fM3)), (w3, .inl (cI, 3, .inl fM3)), (w4, .inl (cI, 3, .inl fM3)), (w5, .inl (cI, 3, .inl fM3)), (w6, .inl (cI, 3, .inl fM3)), (w7, .inl (cI, 3, .inl fM3)), (w8, .inl (cI, 3, .inl fM3)), (w9, .inl (cI, 3, .inl fM3)), (dN, .inl (cN, 10, .inr (.inr (.inr (.inr (fch d0 d1 d2 d3 d4 d5 d6 d7 d8 d9)))))), (d0, .inl (cI, 3, .inl fM3)), (d1, .inl (cI, 3, .inl fM3)), (d2, .inl (cI, 3, .inl fM3)), (d3, .inl (cI, 3, .inl fM3)), (d4, .inl (cI, 3, .inl fM3)), (d5, .inl (cI, 3, .inl fM3)), (d6, .inl (cI, 3, .inl fM3)), (d7, .inl (cI, 3, .inl fM3)), (d8, .inl (cI, 3, .inl fM3)), (d9, .inl (cI, 3, .inl fM3)), (oD, .inl (cO, 1, .inr (.inr (.inr (.inl (fun _ => FP.dconst0))))))]) [0, 1, 2, 3, 4, 5, 6, 7, 8, 9, 10, 11, 12, 13, 14, 15, 16, 17, 18, 19, 20, 21, 22, 23, 24, 25, 26, 27, 31] rfl
  have hDc := hD.sub (ws' := [(h0, .inr (8, [.ref pr, .ref ma, .ref tm])), (pr, .inr (7, [.ref w, .ref d, .ref on, .ref op, .ref un, .int 0, .int 0])), (w, .inr (3, [.int 0, .int 0, .ref wL, .ref wK, .ref wV, .ref wN, .ref wS, .ref wB, .int 0])), (d, .inr (3, [.int 0, .int 0, .ref dL, .ref dK, .ref dV, .ref dN, .ref dS, .ref dB, .int 0])), (wS, .inl (cI, 10, .inl (fun _ => 0))), (dS, .inl (cI, 10, .inl (fun _ => 0))), (wN, .inl (cN, 10, .inr (.inr (.inr (.inr (fch w0 w1 w2 w3 w4 w5 w6 w7 w8 w9)))))), (w0, .inl (cI, 3, .inl fM3)), (w1, .inl (cI, 3, .inl fM3)), (w2, .inl (cI, 3, .inl fM3)), (w3, .inl (cI, 3, .inl fM3)), (w4, .inl (cI, 3, .inl fM3)), (w5, .inl (cI, 3, .inl fM3)), (w6, .inl (cI, 3, .inl fM3)), (w7, .inl (cI, 3, .inl fM3)), (w8, .inl (cI, 3, .inl fM3)), (w9, .inl (cI, 3, .inl fM3)), (dN, .inl (cN, 10, .inr (.inr (.inr (.inr (fch d0 d1 d2 d3 d4 d5 d6 d7 d8 d9)))))), (d0, .inl (cI, 3, .inl fM3)), (d1, .inl (cI, 3, .inl fM3)), (d2, .inl (cI, 3, .inl fM3)), (d3, .inl (cI, 3, .inl fM3)), (d4, .inl (cI, 3, .inl fM3)), (d5, .inl (cI, 3, .inl fM3)), (d6, .inl (cI, 3, .inl fM3)), (d7, .inl (cI, 3, .inl fM3)), (d8, .inl (cI, 3, .inl fM3)), (d9, .inl (cI, 3, .inl fM3)), (oD, .inl (cO, 1, .inr (.inr (.inr (.inl (fun _ => FP.dconst0))))))]) [0, 1, 2, 3, 4, 5, 6, 7, 8, 9, 10, 11, 12, 13, 14, 15, 16, 17, 18, 19, 20, 21, 22, 23, 24, 25, 26, 27, 31] (by decide) rfl
  have hKc := hK.sub (tys' := [(cN, .array .int), (cI, .int), (cO, .double)]) [0, 1, 2] rfl
  have hFc := va_free (wc := [(h0, .inr (8, [.ref pr, .ref ma, .ref tm])), (pr, .inr (7, [.ref w, .ref d, .ref on, .ref op, .ref un, .int 0, .int 0])), (w, .inr (3, [.int 0, .int 0, .ref wL, .ref wK, .ref wV, .ref wN, .ref wS, .ref wB, .int 0])), (d, .inr (3, [.int 0, .int 0, .ref dL, .ref dK, .ref dV, .ref dN, .ref dS, .ref dB, .int 0])), (wS, .inl (cI, 10, .inl (fun _ => 0))), (dS, .inl (cI, 10, .inl (fun _ => 0))), (wN, .inl (cN, 10, .inr (.inr (.inr (.inr (fch w0 w1 w2 w3 w4 w5 w6 w7 w8 w9)))))), (w0, .inl (cI, 3, .inl fM3)), (w1, .inl (cI, 3, .inl fM3)), (w2, .inl (cI, 3, .inl fM3)), (w3, .inl (cI, 3, .inl fM3)), (w4, .inl (cI, 3, .inl fM3)), (w5, .inl (cI, 3, .inl fM3)), (w6, .inl (cI, 3, .inl fM3)), (w7, .inl (cI, 3, .inl fM3)), (w8, .inl (cI, 3, .inl fM3)), (w9, .inl (cI, 3, .inl fM3)), (dN, .inl (cN, 10, .inr (.inr (.inr (.inr (fch d0 d1 d2 d3 d4 d5 d6 d7 d8 d9)))))), (d0, .inl (cI, 3, .inl fM3)), (d1, .inl (cI, 3, .inl fM3)), (d2, .inl (cI, 3, .inl fM3)), (d3, .inl (cI, 3, .inl fM3)), (d4, .inl (cI, 3, .inl fM3)), (d5, .inl (cI, 3, .inl fM3)), (d6, .inl (cI, 3, .inl fM3)), (d7, .inl (cI, 3, .inl fM3)), (d8, .inl (cI, 3, .inl fM3)), (d9, .inl (cI, 3, .inl fM3)), (oD, .inl (cO, 1, .inr (.inr (.inr (.inl (fun _ => FP.dconst0))))))]) hD hS hA [0, 1, 2, 3, 4, 5, 6, 7, 8, 9, 10, 11, 12, 13, 14, 15, 16, 17, 18, 19, 20, 21, 22, 23, 24, 25, 26, 27, 31] rfl
  refine vx_calli (vx_runSX (As := [.ref h0, .int (xs 1), .ref oD]) (rest := []) ⟨hx, hb, hml, hown, hts⟩ (kL_meanDistance l hfl dC dI h0 pr ma tm w d on op un wL wK wV wN wS wB dL dK dV dN dS dB w0 w1 w2 w3 w4 w5 w6 w7 w8 w9 d0 d1 d2 d3 d4 d5 d6 d7 d8 d9 cI cN (fun _ => 0) (fun _ => 0) oD cO (xs 1) H.size) (vx_cwSW 3 hts gL_law_L_meanDistance rfl rfl rfl (by decide +kernel) ⟨Nat.le_of_ble_eq_true rfl, Nat.le_of_ble_eq_true rfl⟩) (gPreS hX hN hZ hS (fun q h => hFc q h) hPc hKc hDc) rfl rfl hl.1 rfl (lv_room (Nat.le_of_ble_eq_true rfl)) dL_law_2597 ⟨Nat.le_of_ble_eq_true rfl, Nat.le_of_ble_eq_true rfl⟩) hS (fun q _ h => hFc q h) hFc (fun q _ h => hFc q h) (fun E ce q9 u t H locs ht hvm hpx hE hz1 hk1 hS hq9 hv9 hc9 => ?_) (fun r u t H1 locs ht hvm hw hB hz1 hk1 hS => ?_)
  · skip
    exact hE.elim
  · skip
    obtain ⟨hP1, hK1, hD1⟩ := hB
    rw [ht] at hP1
    have hK1 := va_K.moved hvm.symm hK1
    obtain ⟨u2, rfl⟩ : ∃ z, z = u := ⟨_, rfl⟩
    obtain ⟨hP, hD⟩ := va_join (wr := [(k0, .inr (9, [.ref kN, .ref kA, .ref kO, .ref kK, .ref kV, .ref kG, .ref kP, .ref kC, .ref kD, .ref kE, .ref kF, .ref kX, .ref kY, .int 0, .ref kT, .ref kU, .int 0, .int 0, .int 0])), (kN, .inl (cI, 2, .inl (fun _ => 0))), (kA, .inl (cI, 2, .inl (fun _ => 0)))]) (w1 := [(oD, .inl (cO, 1, .inr (.inr (.inr (.inl u2)))))]) hP hD [0, 1, 2, 3, 4, 5, 6, 7, 8, 9, 10, 11, 12, 13, 14, 15, 16, 17, 18, 19, 20, 21, 22, 23, 24, 25, 26, 27, 31] [28, 29, 30] rfl rfl (by decide) (by decide) hk1 hFc hP1 hD1
    generalize H1 = H at hP hS ⊢
    have hP : va_P (dC, dI) vwCl [(k0, .inr (9, [.ref kN, .ref kA, .ref kO, .ref kK, .ref kV, .ref kG, .ref kP, .ref kC, .ref kD, .ref kE, .ref kF, .ref kX, .ref kY, .int 0, .ref kT, .ref kU, .int 0, .int 0, .int 0])), (kN, .inl (cI, 2, .inl (fun _ => 0))), (kA, .inl (cI, 2, .inl (fun _ => 0))), (oD, .inl (cO, 1, .inr (.inr (.inr (.inl u2)))))] _ := hP
    have hD : va_D A [(k0, .inr (9, [.ref kN, .ref kA, .ref kO, .ref kK, .ref kV, .ref kG, .ref kP, .ref kC, .ref kD, .ref kE, .ref kF, .ref kX, .ref kY, .int 0, .ref kT, .ref kU, .int 0, .int 0, .int 0])), (kN, .inl (cI, 2, .inl (fun _ => 0))), (kA, .inl (cI, 2, .inl (fun _ => 0))), (oD, .inl (cO, 1, .inr (.inr (.inr (.inl u2)))))] := hD
    refine W.widen (k := 116) (n := 2073) (Nat.le_of_ble_eq_true rfl) (Nat.le_of_ble_eq_true rfl) ?_
    rcases hw with ⟨rfl, hf9⟩ | ⟨rfl, hf9⟩
    · skip
      have hf3 := hf9
      refine lv_istore (lv' := [(6, .int 1), (5, .int 0), (4, .ref oD), (3, .ref oJ), (2, .ref k0), (1, .ref h0), (0, .ref b)]) hx hb dL_law_2600 hl (Nat.le_of_ble_eq_true rfl) rfl (fun ls hl => ?_)
      refine lv_aload_n hx hb dL_law_2602 rfl (lv_at hl 4 rfl) ?_
      refine lv_aload_n hx hb dL_law_2603 rfl (lv_at hl 6 rfl) ?_
      refine lv_iload hx hb dL_law_2604 (lv_at hl 1 rfl) ?_
      refine lv_iconst (v := 1) hx hb dL_law_2606 (by decide) ?_
      refine lv_iadd hx hb dL_law_2607 ?_
      refine lv_topi (fun y4 ey4 => ?_)
      obtain rfl : y4 = 1 := ey4.trans (by decide)
      refine va_sld hx hb hX9 hbl hbA hS (show ¬ (_ ∨ _) by decide) dL_law_2608 ?_
      refine W.eq (g2 := F0 m 2609 ls [.int (xs 1), .ref k0]) rfl ?_
      have hPc := hP.sub (ws' := [(k0, .inr (9, [.ref kN, .ref kA, .ref kO, .ref kK, .ref kV, .ref kG, .ref kP, .ref kC, .ref kD, .ref kE, .ref kF, .ref kX, .ref kY, .int 0, .ref kT, .ref kU, .int 0, .int 0, .int 0])), (kN, .inl (cI, 2, .inl (fun _ => 0))), (kA, .inl (cI, 2, .inl (fun _ => 0)))]) [0, 1, 2] rfl
      have hDc := hD.sub (ws' := [(k0, .inr (9, [.ref kN, .ref kA, .ref kO, .ref kK, .ref kV, .ref kG, .ref kP, .ref kC, .ref kD, .ref kE, .ref kF, .ref kX, .ref kY, .int 0, .ref kT, .ref kU, .int 0, .int 0, .int 0])), (kN, .inl (cI, 2, .inl (fun _ => 0))), (kA, .inl (cI, 2, .inl (fun _ => 0)))]) [0, 1, 2] (by decide) rfl
      have hKc := hK.sub (tys' := [(cI, .int)]) [1] rfl
      have hFc := va_free (wc := [(k0, .inr (9, [.ref kN, .ref kA, .ref kO, .ref kK, .ref kV, .ref kG, .ref kP, .ref kC, .ref kD, .ref kE, .ref kF, .ref kX, .ref kY, .int 0, .ref kT, .ref kU, .int 0, .int 0, .int 0])), (kN, .inl (cI, 2, .inl (fun _ => 0))), (kA, .inl (cI, 2, .inl (fun _ => 0)))]) hD hS hA [0, 1, 2] rfl
      refine va_calld (va_runV (As := [.int (xs 1)]) (rest := []) ⟨hx, hb, hml, hown, hts⟩ (kX6_meanDistance l dC dI k0 kN kA kO kK kV kG kP kC kD kE kF kX kY kT kU cI (xs 1) H.size) (cwV 1 hts gL_law_X6_meanDistance rfl rfl rfl (by decide +kernel) ⟨Nat.le_of_ble_eq_true rfl, Nat.le_of_ble_eq_true rfl⟩) (fPreV hN hZ hS (fun q h => hFc q h) hPc hKc hDc (ci := 9) (q0 := 0) rfl rfl) rfl rfl hl.1 rfl (lv_room (Nat.le_of_ble_eq_true rfl)) dL_law_2609 ⟨Nat.le_of_ble_eq_true rfl, Nat.le_of_ble_eq_true rfl⟩) hS (fun q _ h => hFc q h) hFc (fun r u t H1 locs ht hvm hw hB hz1 hk1 hS => ?_)
      obtain ⟨hP1, hK1, hD1⟩ := hB
      rw [ht] at hP1
      have hK1 := va_K.moved hvm.symm hK1
      obtain ⟨u5, rfl⟩ : ∃ z, z = u := ⟨_, rfl⟩
      obtain ⟨hP, hD⟩ := va_join (wr := [(oD, .inl (cO, 1, .inr (.inr (.inr (.inl u2)))))]) (w1 := [(k0, .inr (9, [.ref kN, .ref kA, .ref kO, .ref kK, .ref kV, .ref kG, .ref kP, .ref kC, .ref kD, .ref kE, .ref kF, .ref kX, .ref kY, .int 0, .ref kT, .ref kU, .int u5, .int 0, .int 0]))]) hP hD [0, 1, 2] [3] rfl rfl (by decide) (by decide) hk1 hFc hP1 hD1
      generalize H1 = H at hP hS ⊢
      have hP : va_P (dC, dI) vwCl [(oD, .inl (cO, 1, .inr (.inr (.inr (.inl u2))))), (k0, .inr (9, [.ref kN, .ref kA, .ref kO, .ref kK, .ref kV, .ref kG, .ref kP, .ref kC, .ref kD, .ref kE, .ref kF, .ref kX, .ref kY, .int 0, .ref kT, .ref kU, .int u5, .int 0, .int 0]))] _ := hP
      have hD : va_D A [(oD, .inl (cO, 1, .inr (.inr (.inr (.inl u2))))), (k0, .inr (9, [.ref kN, .ref kA, .ref kO, .ref kK, .ref kV, .ref kG, .ref kP, .ref kC, .ref kD, .ref kE, .ref kF, .ref kX, .ref kY, .int 0, .ref kT, .ref kU, .int u5, .int 0, .int 0]))] := hD
      obtain ⟨r6, rfl⟩ : ∃ z, z = r := ⟨_, rfl⟩
      rcases hw with ⟨rfl, hg9⟩ | ⟨rfl, hg9⟩
      · skip
        have hP : va_P (dC, dI) vwCl [(oD, .inl (cO, 1, .inr (.inr (.inr (.inl u2))))), (k0, .inr (9, [.ref kN, .ref kA, .ref kO, .ref kK, .ref kV, .ref kG, .ref kP, .ref kC, .ref kD, .ref kE, .ref kF, .ref kX, .ref kY, .int 0, .ref kT, .ref kU, .int 1, .int 0, .int 0]))] _ := hP
        have hD : va_D A [(oD, .inl (cO, 1, .inr (.inr (.inr (.inl u2))))), (k0, .inr (9, [.ref kN, .ref kA, .ref kO, .ref kK, .ref kV, .ref kG, .ref kP, .ref kC, .ref kD, .ref kE, .ref kF, .ref kX, .ref kY, .int 0, .ref kT, .ref kU, .int 1, .int 0, .int 0]))] := hD
        refine lv_dstore (lv' := [(7, .double r6), (6, .int 1), (5, .int 0), (4, .ref oD), (3, .ref oJ), (2, .ref k0), (1, .ref h0), (0, .ref b)]) hx hb dL_law_2612 hl (Nat.le_of_ble_eq_true rfl) rfl (fun ls hl => ?_)
        refine lv_aload_n hx hb dL_law_2614 rfl (lv_at hl 5 rfl) ?_
        have hPc := hP.sub (ws' := [(k0, .inr (9, [.ref kN, .ref kA, .ref kO, .ref kK, .ref kV, .ref kG, .ref kP, .ref kC, .ref kD, .ref kE, .ref kF, .ref kX, .ref kY, .int 0, .ref kT, .ref kU, .int 1, .int 0, .int 0]))]) [1] rfl
        have hDc := hD.sub (ws' := [(k0, .inr (9, [.ref kN, .ref kA, .ref kO, .ref kK, .ref kV, .ref kG, .ref kP, .ref kC, .ref kD, .ref kE, .ref kF, .ref kX, .ref kY, .int 0, .ref kT, .ref kU, .int 1, .int 0, .int 0]))]) [1] (by decide) rfl
        have hKc := hK.sub (tys' := []) [] rfl
        have hFc := va_free (wc := [(k0, .inr (9, [.ref kN, .ref kA, .ref kO, .ref kK, .ref kV, .ref kG, .ref kP, .ref kC, .ref kD, .ref kE, .ref kF, .ref kX, .ref kY, .int 0, .ref kT, .ref kU, .int 1, .int 0, .int 0]))]) hD hS hA [1] rfl
        refine va_calli (va_runV (As := []) (rest := []) ⟨hx, hb, hml, hown, hts⟩ (kX6_thrown l dC dI k0 kN kA kO kK kV kG kP kC kD kE kF kX kY kT kU 1 H.size) (cwV 0 hts gL_law_X6_thrown rfl rfl rfl (by decide +kernel) ⟨Nat.le_of_ble_eq_true rfl, Nat.le_of_ble_eq_true rfl⟩) (fPreV hN hZ hS (fun q h => hFc q h) hPc hKc hDc (ci := 9) (q0 := 0) rfl rfl) rfl rfl hl.1 rfl (lv_room (Nat.le_of_ble_eq_true rfl)) dL_law_2615 ⟨Nat.le_of_ble_eq_true rfl, Nat.le_of_ble_eq_true rfl⟩) hS (fun q _ h => hFc q h) hFc (fun r u t H1 locs ht hvm hw hB hz1 hk1 hS => ?_)
        obtain ⟨hP1, hK1, hD1⟩ := hB
        rw [ht] at hP1
        have hK1 := va_K.moved hvm.symm hK1
        obtain ⟨hP, hD⟩ := va_join (wr := [(oD, .inl (cO, 1, .inr (.inr (.inr (.inl u2)))))]) (w1 := []) hP hD [1] [0] rfl rfl (by decide) (by decide) hk1 hFc hP1 hD1
        generalize H1 = H at hP hS ⊢
        have hP : va_P (dC, dI) vwCl [(oD, .inl (cO, 1, .inr (.inr (.inr (.inl u2)))))] _ := hP
        have hD : va_D A [(oD, .inl (cO, 1, .inr (.inr (.inr (.inl u2)))))] := hD
        subst hw
        refine lv_iload hx hb dL_law_2618 (lv_at hl 1 rfl) ?_
        refine lv_icmp_eq (tgt := 2625) hx hb dL_law_2620 (by decide) (fun _ => ?_) (fun h9 => absurd (by decide) h9)
        refine lv_iload hx hb dL_law_2625 (lv_at hl 1 rfl) ?_
        refine lv_if_ne (tgt := 2662) hx hb dL_law_2627 (by decide) (fun _ => ?_) (fun h9 => absurd h9 (by decide))
        refine lv_goto (tgt := 2720) hx hb dL_law_2662 (by decide) ?_
        refine lv_iinc (v := 7) (lv' := [(5, .int 7), (7, .double r6), (6, .int 1), (4, .ref oD), (3, .ref oJ), (2, .ref k0), (1, .ref h0), (0, .ref b)]) hx hb dL_law_2720 hl (k := 2) rfl (by decide) (Nat.le_of_ble_eq_true rfl) rfl (fun ls hl => ?_)
        refine lv_goto (tgt := 28) hx hb dL_law_2723 (by decide) ?_
        refine lv_iload hx hb dL_law_28 (lv_at hl 0 rfl) ?_
        refine lv_aload_n hx hb dL_law_30 rfl (lv_at hl 7 rfl) ?_
        refine va_slen hx hb hX9 hbl hbA hS dL_law_31 ?_
        refine W.eq (g2 := F0 m 32 ls [.int 7, .int 7]) rfl ?_
        refine lv_bipush (v := 7) hx hb dL_law_32 (by decide) ?_
        refine lv_isub hx hb dL_law_34 ?_
        refine lv_topi (fun y7 ey7 => ?_)
        obtain rfl : y7 = 0 := ey7.trans (by decide)
        refine lv_icmp_gt (tgt := 2726) hx hb dL_law_35 (by decide) (fun _ => ?_) (fun h9 => absurd (by decide) h9)
        refine lv_iconst (v := 1) hx hb dL_law_2726 (by decide) ?_
        refine va_forget (fun q hq => hAe _ (hS.2.2 q hq)) ?_
        refine W.widen (k := 600006) (n := 7302048) (Nat.le_of_ble_eq_true rfl) (Nat.le_of_ble_eq_true rfl) ?_
        exact W.base (lw_ret (d0 := s.drawn) (Drawn.sameBut.refl _ _) hx hb hr hlk dL_law_2727)
      · skip
        exact absurd hg9 (hf3)
    · skip
      have hf8 := hf9
      refine lv_istore (lv' := [(6, .int 2), (5, .int 0), (4, .ref oD), (3, .ref oJ), (2, .ref k0), (1, .ref h0), (0, .ref b)]) hx hb dL_law_2600 hl (Nat.le_of_ble_eq_true rfl) rfl (fun ls hl => ?_)
      refine lv_aload_n hx hb dL_law_2602 rfl (lv_at hl 4 rfl) ?_
      refine lv_aload_n hx hb dL_law_2603 rfl (lv_at hl 6 rfl) ?_
      refine lv_iload hx hb dL_law_2604 (lv_at hl 1 rfl) ?_
      refine lv_iconst (v := 1) hx hb dL_law_2606 (by decide) ?_
      refine lv_iadd hx hb dL_law_2607 ?_
      refine lv_topi (fun y10 ey10 => ?_)
      obtain rfl : y10 = 1 := ey10.trans (by decide)
      refine va_sld hx hb hX9 hbl hbA hS (show ¬ (_ ∨ _) by decide) dL_law_2608 ?_
      refine W.eq (g2 := F0 m 2609 ls [.int (xs 1), .ref k0]) rfl ?_
      have hPc := hP.sub (ws' := [(k0, .inr (9, [.ref kN, .ref kA, .ref kO, .ref kK, .ref kV, .ref kG, .ref kP, .ref kC, .ref kD, .ref kE, .ref kF, .ref kX, .ref kY, .int 0, .ref kT, .ref kU, .int 0, .int 0, .int 0])), (kN, .inl (cI, 2, .inl (fun _ => 0))), (kA, .inl (cI, 2, .inl (fun _ => 0)))]) [0, 1, 2] rfl
      have hDc := hD.sub (ws' := [(k0, .inr (9, [.ref kN, .ref kA, .ref kO, .ref kK, .ref kV, .ref kG, .ref kP, .ref kC, .ref kD, .ref kE, .ref kF, .ref kX, .ref kY, .int 0, .ref kT, .ref kU, .int 0, .int 0, .int 0])), (kN, .inl (cI, 2, .inl (fun _ => 0))), (kA, .inl (cI, 2, .inl (fun _ => 0)))]) [0, 1, 2] (by decide) rfl
      have hKc := hK.sub (tys' := [(cI, .int)]) [1] rfl
      have hFc := va_free (wc := [(k0, .inr (9, [.ref kN, .ref kA, .ref kO, .ref kK, .ref kV, .ref kG, .ref kP, .ref kC, .ref kD, .ref kE, .ref kF, .ref kX, .ref kY, .int 0, .ref kT, .ref kU, .int 0, .int 0, .int 0])), (kN, .inl (cI, 2, .inl (fun _ => 0))), (kA, .inl (cI, 2, .inl (fun _ => 0)))]) hD hS hA [0, 1, 2] rfl
      refine va_calld (va_runV (As := [.int (xs 1)]) (rest := []) ⟨hx, hb, hml, hown, hts⟩ (kX6_meanDistance l dC dI k0 kN kA kO kK kV kG kP kC kD kE kF kX kY kT kU cI (xs 1) H.size) (cwV 1 hts gL_law_X6_meanDistance rfl rfl rfl (by decide +kernel) ⟨Nat.le_of_ble_eq_true rfl, Nat.le_of_ble_eq_true rfl⟩) (fPreV hN hZ hS (fun q h => hFc q h) hPc hKc hDc (ci := 9) (q0 := 0) rfl rfl) rfl rfl hl.1 rfl (lv_room (Nat.le_of_ble_eq_true rfl)) dL_law_2609 ⟨Nat.le_of_ble_eq_true rfl, Nat.le_of_ble_eq_true rfl⟩) hS (fun q _ h => hFc q h) hFc (fun r u t H1 locs ht hvm hw hB hz1 hk1 hS => ?_)
      obtain ⟨hP1, hK1, hD1⟩ := hB
      rw [ht] at hP1
      have hK1 := va_K.moved hvm.symm hK1
      obtain ⟨u11, rfl⟩ : ∃ z, z = u := ⟨_, rfl⟩
      obtain ⟨hP, hD⟩ := va_join (wr := [(oD, .inl (cO, 1, .inr (.inr (.inr (.inl u2)))))]) (w1 := [(k0, .inr (9, [.ref kN, .ref kA, .ref kO, .ref kK, .ref kV, .ref kG, .ref kP, .ref kC, .ref kD, .ref kE, .ref kF, .ref kX, .ref kY, .int 0, .ref kT, .ref kU, .int u11, .int 0, .int 0]))]) hP hD [0, 1, 2] [3] rfl rfl (by decide) (by decide) hk1 hFc hP1 hD1
      generalize H1 = H at hP hS ⊢
      have hP : va_P (dC, dI) vwCl [(oD, .inl (cO, 1, .inr (.inr (.inr (.inl u2))))), (k0, .inr (9, [.ref kN, .ref kA, .ref kO, .ref kK, .ref kV, .ref kG, .ref kP, .ref kC, .ref kD, .ref kE, .ref kF, .ref kX, .ref kY, .int 0, .ref kT, .ref kU, .int u11, .int 0, .int 0]))] _ := hP
      have hD : va_D A [(oD, .inl (cO, 1, .inr (.inr (.inr (.inl u2))))), (k0, .inr (9, [.ref kN, .ref kA, .ref kO, .ref kK, .ref kV, .ref kG, .ref kP, .ref kC, .ref kD, .ref kE, .ref kF, .ref kX, .ref kY, .int 0, .ref kT, .ref kU, .int u11, .int 0, .int 0]))] := hD
      obtain ⟨r12, rfl⟩ : ∃ z, z = r := ⟨_, rfl⟩
      rcases hw with ⟨rfl, hg9⟩ | ⟨rfl, hg9⟩
      · skip
        exact absurd hg9 ((fun h9 => h9 (hf8)))
      · skip
        have hP : va_P (dC, dI) vwCl [(oD, .inl (cO, 1, .inr (.inr (.inr (.inl u2))))), (k0, .inr (9, [.ref kN, .ref kA, .ref kO, .ref kK, .ref kV, .ref kG, .ref kP, .ref kC, .ref kD, .ref kE, .ref kF, .ref kX, .ref kY, .int 0, .ref kT, .ref kU, .int 2, .int 0, .int 0]))] _ := hP
        have hD : va_D A [(oD, .inl (cO, 1, .inr (.inr (.inr (.inl u2))))), (k0, .inr (9, [.ref kN, .ref kA, .ref kO, .ref kK, .ref kV, .ref kG, .ref kP, .ref kC, .ref kD, .ref kE, .ref kF, .ref kX, .ref kY, .int 0, .ref kT, .ref kU, .int 2, .int 0, .int 0]))] := hD
        refine lv_dstore (lv' := [(7, .double r12), (6, .int 2), (5, .int 0), (4, .ref oD), (3, .ref oJ), (2, .ref k0), (1, .ref h0), (0, .ref b)]) hx hb dL_law_2612 hl (Nat.le_of_ble_eq_true rfl) rfl (fun ls hl => ?_)
        refine lv_aload_n hx hb dL_law_2614 rfl (lv_at hl 5 rfl) ?_
        have hPc := hP.sub (ws' := [(k0, .inr (9, [.ref kN, .ref kA, .ref kO, .ref kK, .ref kV, .ref kG, .ref kP, .ref kC, .ref kD, .ref kE, .ref kF, .ref kX, .ref kY, .int 0, .ref kT, .ref kU, .int 2, .int 0, .int 0]))]) [1] rfl
        have hDc := hD.sub (ws' := [(k0, .inr (9, [.ref kN, .ref kA, .ref kO, .ref kK, .ref kV, .ref kG, .ref kP, .ref kC, .ref kD, .ref kE, .ref kF, .ref kX, .ref kY, .int 0, .ref kT, .ref kU, .int 2, .int 0, .int 0]))]) [1] (by decide) rfl
        have hKc := hK.sub (tys' := []) [] rfl
        have hFc := va_free (wc := [(k0, .inr (9, [.ref kN, .ref kA, .ref kO, .ref kK, .ref kV, .ref kG, .ref kP, .ref kC, .ref kD, .ref kE, .ref kF, .ref kX, .ref kY, .int 0, .ref kT, .ref kU, .int 2, .int 0, .int 0]))]) hD hS hA [1] rfl
        refine va_calli (va_runV (As := []) (rest := []) ⟨hx, hb, hml, hown, hts⟩ (kX6_thrown l dC dI k0 kN kA kO kK kV kG kP kC kD kE kF kX kY kT kU 2 H.size) (cwV 0 hts gL_law_X6_thrown rfl rfl rfl (by decide +kernel) ⟨Nat.le_of_ble_eq_true rfl, Nat.le_of_ble_eq_true rfl⟩) (fPreV hN hZ hS (fun q h => hFc q h) hPc hKc hDc (ci := 9) (q0 := 0) rfl rfl) rfl rfl hl.1 rfl (lv_room (Nat.le_of_ble_eq_true rfl)) dL_law_2615 ⟨Nat.le_of_ble_eq_true rfl, Nat.le_of_ble_eq_true rfl⟩) hS (fun q _ h => hFc q h) hFc (fun r u t H1 locs ht hvm hw hB hz1 hk1 hS => ?_)
        obtain ⟨hP1, hK1, hD1⟩ := hB
        rw [ht] at hP1
        have hK1 := va_K.moved hvm.symm hK1
        obtain ⟨hP, hD⟩ := va_join (wr := [(oD, .inl (cO, 1, .inr (.inr (.inr (.inl u2)))))]) (w1 := []) hP hD [1] [0] rfl rfl (by decide) (by decide) hk1 hFc hP1 hD1
        generalize H1 = H at hP hS ⊢
        have hP : va_P (dC, dI) vwCl [(oD, .inl (cO, 1, .inr (.inr (.inr (.inl u2)))))] _ := hP
        have hD : va_D A [(oD, .inl (cO, 1, .inr (.inr (.inr (.inl u2)))))] := hD
        subst hw
        refine lv_iload hx hb dL_law_2618 (lv_at hl 1 rfl) ?_
        refine lv_icmp_eq (tgt := 2625) hx hb dL_law_2620 (by decide) (fun _ => ?_) (fun h9 => absurd (by decide) h9)
        refine lv_iload hx hb dL_law_2625 (lv_at hl 1 rfl) ?_
        refine lv_if_ne (tgt := 2662) hx hb dL_law_2627 (by decide) (fun _ => ?_) (fun h9 => absurd h9 (by decide))
        refine lv_goto (tgt := 2720) hx hb dL_law_2662 (by decide) ?_
        refine lv_iinc (v := 7) (lv' := [(5, .int 7), (7, .double r12), (6, .int 2), (4, .ref oD), (3, .ref oJ), (2, .ref k0), (1, .ref h0), (0, .ref b)]) hx hb dL_law_2720 hl (k := 2) rfl (by decide) (Nat.le_of_ble_eq_true rfl) rfl (fun ls hl => ?_)
        refine lv_goto (tgt := 28) hx hb dL_law_2723 (by decide) ?_
        refine lv_iload hx hb dL_law_28 (lv_at hl 0 rfl) ?_
        refine lv_aload_n hx hb dL_law_30 rfl (lv_at hl 7 rfl) ?_
        refine va_slen hx hb hX9 hbl hbA hS dL_law_31 ?_
        refine W.eq (g2 := F0 m 32 ls [.int 7, .int 7]) rfl ?_
        refine lv_bipush (v := 7) hx hb dL_law_32 (by decide) ?_
        refine lv_isub hx hb dL_law_34 ?_
        refine lv_topi (fun y13 ey13 => ?_)
        obtain rfl : y13 = 0 := ey13.trans (by decide)
        refine lv_icmp_gt (tgt := 2726) hx hb dL_law_35 (by decide) (fun _ => ?_) (fun h9 => absurd (by decide) h9)
        refine lv_iconst (v := 1) hx hb dL_law_2726 (by decide) ?_
        refine va_forget (fun q hq => hAe _ (hS.2.2 q hq)) ?_
        refine W.widen (k := 600006) (n := 7302048) (Nat.le_of_ble_eq_true rfl) (Nat.le_of_ble_eq_true rfl) ?_
        exact W.base (lw_ret (d0 := s.drawn) (Drawn.sameBut.refl _ _) hx hb hr hlk dL_law_2727)

set_option maxHeartbeats 4000000 in
set_option maxRecDepth 100000 in
/-- case 40 of the law: valueSum, on fresh objects -/
theorem lc_40 {p : Program} {e : Env} {s : State} {m : MethodId} {below : List Frame} {meth : Method} {c : Code} (l : Launch) (hfl : l.stackTraces = false) {b : Nat} {xs : Nat → Int32} (hx : p.tables.exec = Jvm.exec) (hb : c.code = cL_law) (hr : meth.sig.returnType = ret) (hml : c.maxLocals = 9) (hown : s.vm.findClass RL = some m.cls) (hts : ∀ w ∈ wsL_law, w.before #[Value.ref b] s = true) (hlk : meth.locks = false) (A : Nat → Prop) (hAe : ∀ q, A q → s.heap.size ≤ q) (hA : ∀ q : Nat, s.heap.size ≤ q → A q) (hX9 : va_X b 7 xs s s.heap) (hbl : b < s.heap.size) (hN : fN s) (hZ : fZ A s s.heap) (hX : fX s) (dC : Nat → ClassId) (dI : Nat → Nat → Nat) (h0 pr w d on op un wL wK wV wN wS wB dL dK dV dN dS dB ma tm k0 kN kA kO kK kV kG kP kC kD kE kF kX kY kT kU oJ oD : Nat) (cI cJ : ClassId) {H : Heap} {locs : List Loc} {ls : Array Slot} (hK : va_K (dC, dI) vwCl [(cI, .int), (cJ, .long)] s) (hP : va_P (dC, dI) vwCl [(h0, .inr (8, [.ref pr, .ref ma, .ref tm])), (pr, .inr (7, [.ref w, .ref d, .ref on, .ref op, .ref un, .int 0, .int 0])), (w, .inr (3, [.int 0, .int 0, .ref wL, .ref wK, .ref wV, .ref wN, .ref wS, .ref wB, .int 0])), (d, .inr (3, [.int 0, .int 0, .ref dL, .ref dK, .ref dV, .ref dN, .ref dS, .ref dB, .int 0])), (wV, .inl (cI, 10, .inl (fun _ => 0))), (dV, .inl (cI, 10, .inl (fun _ => 0))), (k0, .inr (9, [.ref kN, .ref kA, .ref kO, .ref kK, .ref kV, .ref kG, .ref kP, .ref kC, .ref kD, .ref kE, .ref kF, .ref kX, .ref kY, .int 0, .ref kT, .ref kU, .int 0, .int 0, .int 0])), (kN, .inl (cI, 2, .inl (fun _ => 0))), (kA, .inl (cI, 2, .inl (fun _ => 0))), (oJ, .inl (cJ, 1, .inr (.inl (fun _ => 0))))] H) (hD : va_D A [(h0, .inr (8, [.ref pr, .ref ma, .ref tm])), (pr, .inr (7, [.ref w, .ref d, .ref on, .ref op, .ref un, .int 0, .int 0])), (w, .inr (3, [.int 0, .int 0, .ref wL, .ref wK, .ref wV, .ref wN, .ref wS, .ref wB, .int 0])), (d, .inr (3, [.int 0, .int 0, .ref dL, .ref dK, .ref dV, .ref dN, .ref dS, .ref dB, .int 0])), (wV, .inl (cI, 10, .inl (fun _ => 0))), (dV, .inl (cI, 10, .inl (fun _ => 0))), (k0, .inr (9, [.ref kN, .ref kA, .ref kO, .ref kK, .ref kV, .ref kG, .ref kP, .ref kC, .ref kD, .ref kE, .ref kF, .ref kX, .ref kY, .int 0, .ref kT, .ref kU, .int 0, .int 0, .int 0])), (kN, .inl (cI, 2, .inl (fun _ => 0))), (kA, .inl (cI, 2, .inl (fun _ => 0))), (oJ, .inl (cJ, 1, .inr (.inl (fun _ => 0))))]) (hS : va_S A s.heap H locs) (hl : lv_has ls 9 [(5, .int 0), (4, .ref oD), (3, .ref oJ), (2, .ref k0), (1, .ref h0), (0, .ref b)]) : W p l e room_1 s m #[Value.ref b] below meth c H locs 114 2061 (lw_Z below #[Value.ref b] s) (F0 m 2665 ls []) := by
  have hbA : ¬ A b := fun h => Nat.not_le.mpr hbl (hAe _ h)
  have hX0 := hX
  refine lv_aload_n hx hb dL_law_2665 rfl (lv_at hl 4 rfl) ?_
  refine lv_aload_n hx hb dL_law_2666 rfl (lv_at hl 5 rfl) ?_
  refine lv_iload hx hb dL_law_2667 (lv_at hl 0 rfl) ?_
  refine lv_iconst (v := 1) hx hb dL_law_2669 (by decide) ?_
  refine lv_iadd hx hb dL_law_2670 ?_
  refine lv_topi (fun y1 ey1 => ?_)
  obtain rfl : y1 = 1 := ey1.trans (by decide)
  refine va_sld hx hb hX9 hbl hbA hS (show ¬ (_ ∨ _) by decide) dL_law_2671 ?_
  refine W.eq (g2 := F0 m 2672 ls [.int (xs 1), .ref h0]) rfl ?_
  refine lv_aload_n hx hb dL_law_2672 rfl (lv_at hl 2 rfl) ?_
  have hPc := hP.sub (ws' := [(h0, .inr (8, [.ref pr, .ref ma, .ref tm])), (pr, .inr (7, [.ref w, .ref d, .ref on, .ref op, .ref un, .int 0, .int 0])), (w, .inr (3, [.int 0, .int 0, .ref wL, .ref wK, .ref wV, .ref wN, .ref wS, .ref wB, .int 0])), (d, .inr (3, [.int 0, .int 0, .ref dL, .ref dK, .ref dV, .ref dN, .ref dS, .ref dB, .int 0])), (wV, .inl (cI, 10, .inl (fun _ => 0))), (dV, .inl (cI, 10, .inl (fun _ => 0))), (oJ, .inl (cJ, 1, .inr (.inl (fun _ => 0))))]) [0, 1, 2, 3, 4, 5, 9] rfl
  have hDc := hD.sub (ws' := [(h0, .inr (8, [.ref pr, .ref ma, .ref tm])), (pr, .inr (7, [.ref w, .ref d, .ref on, .ref op, .ref un, .int 0, .int 0])), (w, .inr (3, [.int 0, .int 0, .ref wL, .ref wK, .ref wV, .ref wN, .ref wS, .ref wB, .int 0])), (d, .inr (3, [.int 0, .int 0, .ref dL, .ref dK, .ref dV, .ref dN, .ref dS, .ref dB, .int 0])), (wV, .inl (cI, 10, .inl (fun _ => 0))), (dV, .inl (cI, 10, .inl (fun _ => 0))), (oJ, .inl (cJ, 1, .inr (.inl (fun _ => 0))))]) [0, 1, 2, 3, 4, 5, 9] (by decide) rfl
  have hKc := hK.sub (tys' := [(cI, .int), (cJ, .long)]) [0, 1] rfl
  have hFc := va_free (wc := [(h0, .inr (8, [.ref pr, .ref ma, .ref tm])), (pr, .inr (7, [.ref w, .ref d, .ref on, .ref op, .ref un, .int 0, .int 0])), (w, .inr (3, [.int 0, .int 0, .ref wL, .ref wK, .ref wV, .ref wN, .ref wS, .ref wB, .int 0])), (d, .inr (3, [.int 0, .int 0, .ref dL, .ref dK, .ref dV, .ref dN, .ref dS, .ref dB, .int 0])), (wV, .inl (cI, 10, .inl (fun _ => 0))), (dV, .inl (cI, 10, .inl (fun _ => 0))), (oJ, .inl (cJ, 1, .inr (.inl (fun _ => 0))))]) hD hS hA [0, 1, 2, 3, 4, 5, 9] rfl
  refine vx_calli (vx_runSX (As := [.ref h0, .int (xs 1), .ref oJ]) (rest := []) ⟨hx, hb, hml, hown, hts⟩ (kL_valueSum l hfl dC dI h0 pr ma tm w d on op un wL wK wV wN wS wB dL dK dV dN dS dB cI oJ cJ (xs 1) H.size) (vx_cwSW 3 hts gL_law_L_valueSum rfl rfl rfl (by decide +kernel) ⟨Nat.le_of_ble_eq_true rfl, Nat.le_of_ble_eq_true rfl⟩) (gPreS hX hN hZ hS (fun q h => hFc q h) hPc hKc hDc) rfl rfl hl.1 rfl (lv_room (Nat.le_of_ble_eq_true rfl)) dL_law_2673 ⟨Nat.le_of_ble_eq_true rfl, Nat.le_of_ble_eq_true rfl⟩) hS (fun q _ h => hFc q h) hFc (fun q _ h => hFc q h) (fun E ce q9 u t H locs ht hvm hpx hE hz1 hk1 hS hq9 hv9 hc9 => ?_) (fun r u t H1 locs ht hvm hw hB hz1 hk1 hS => ?_)
  · skip
    exact hE.elim
  · skip
    obtain ⟨hP1, hK1, hD1⟩ := hB
    rw [ht] at hP1
    have hK1 := va_K.moved hvm.symm hK1
    obtain ⟨u2, rfl⟩ : ∃ z, z = u := ⟨_, rfl⟩
    obtain ⟨hP, hD⟩ := va_join (wr := [(k0, .inr (9, [.ref kN, .ref kA, .ref kO, .ref kK, .ref kV, .ref kG, .ref kP, .ref kC, .ref kD, .ref kE, .ref kF, .ref kX, .ref kY, .int 0, .ref kT, .ref kU, .int 0, .int 0, .int 0])), (kN, .inl (cI, 2, .inl (fun _ => 0))), (kA, .inl (cI, 2, .inl (fun _ => 0)))]) (w1 := [(oJ, .inl (cJ, 1, .inr (.inl u2)))]) hP hD [0, 1, 2, 3, 4, 5, 9] [6, 7, 8] rfl rfl (by decide) (by decide) hk1 hFc hP1 hD1
    generalize H1 = H at hP hS ⊢
    have hP : va_P (dC, dI) vwCl [(k0, .inr (9, [.ref kN, .ref kA, .ref kO, .ref kK, .ref kV, .ref kG, .ref kP, .ref kC, .ref kD, .ref kE, .ref kF, .ref kX, .ref kY, .int 0, .ref kT, .ref kU, .int 0, .int 0, .int 0])), (kN, .inl (cI, 2, .inl (fun _ => 0))), (kA, .inl (cI, 2, .inl (fun _ => 0))), (oJ, .inl (cJ, 1, .inr (.inl u2)))] _ := hP
    have hD : va_D A [(k0, .inr (9, [.ref kN, .ref kA, .ref kO, .ref kK, .ref kV, .ref kG, .ref kP, .ref kC, .ref kD, .ref kE, .ref kF, .ref kX, .ref kY, .int 0, .ref kT, .ref kU, .int 0, .int 0, .int 0])), (kN, .inl (cI, 2, .inl (fun _ => 0))), (kA, .inl (cI, 2, .inl (fun _ => 0))), (oJ, .inl (cJ, 1, .inr (.inl u2)))] := hD
    refine W.widen (k := 115) (n := 2067) (Nat.le_of_ble_eq_true rfl) (Nat.le_of_ble_eq_true rfl) ?_
    rcases hw with ⟨rfl, hu0, hf9⟩ | ⟨rfl, hf9⟩
    · skip
      have hf3 := hf9
      refine lv_istore (lv' := [(6, .int 0), (5, .int 0), (4, .ref oD), (3, .ref oJ), (2, .ref k0), (1, .ref h0), (0, .ref b)]) hx hb dL_law_2676 hl (Nat.le_of_ble_eq_true rfl) rfl (fun ls hl => ?_)
      refine lv_aload_n hx hb dL_law_2678 rfl (lv_at hl 4 rfl) ?_
      refine lv_aload_n hx hb dL_law_2679 rfl (lv_at hl 6 rfl) ?_
      refine lv_iload hx hb dL_law_2680 (lv_at hl 1 rfl) ?_
      refine lv_iconst (v := 1) hx hb dL_law_2682 (by decide) ?_
      refine lv_iadd hx hb dL_law_2683 ?_
      refine lv_topi (fun y4 ey4 => ?_)
      obtain rfl : y4 = 1 := ey4.trans (by decide)
      refine va_sld hx hb hX9 hbl hbA hS (show ¬ (_ ∨ _) by decide) dL_law_2684 ?_
      refine W.eq (g2 := F0 m 2685 ls [.int (xs 1), .ref k0]) rfl ?_
      have hPc := hP.sub (ws' := [(k0, .inr (9, [.ref kN, .ref kA, .ref kO, .ref kK, .ref kV, .ref kG, .ref kP, .ref kC, .ref kD, .ref kE, .ref kF, .ref kX, .ref kY, .int 0, .ref kT, .ref kU, .int 0, .int 0, .int 0])), (kN, .inl (cI, 2, .inl (fun _ => 0))), (kA, .inl (cI, 2, .inl (fun _ => 0)))]) [0, 1, 2] rfl
      have hDc := hD.sub (ws' := [(k0, .inr (9, [.ref kN, .ref kA, .ref kO, .ref kK, .ref kV, .ref kG, .ref kP, .ref kC, .ref kD, .ref kE, .ref kF, .ref kX, .ref kY, .int 0, .ref kT, .ref kU, .int 0, .int 0, .int 0])), (kN, .inl (cI, 2, .inl (fun _ => 0))), (kA, .inl (cI, 2, .inl (fun _ => 0)))]) [0, 1, 2] (by decide) rfl
      have hKc := hK.sub (tys' := [(cI, .int)]) [0] rfl
      have hFc := va_free (wc := [(k0, .inr (9, [.ref kN, .ref kA, .ref kO, .ref kK, .ref kV, .ref kG, .ref kP, .ref kC, .ref kD, .ref kE, .ref kF, .ref kX, .ref kY, .int 0, .ref kT, .ref kU, .int 0, .int 0, .int 0])), (kN, .inl (cI, 2, .inl (fun _ => 0))), (kA, .inl (cI, 2, .inl (fun _ => 0)))]) hD hS hA [0, 1, 2] rfl
      refine va_calll (va_runV (As := [.int (xs 1)]) (rest := []) ⟨hx, hb, hml, hown, hts⟩ (kX6_valueSum l dC dI k0 kN kA kO kK kV kG kP kC kD kE kF kX kY kT kU cI (xs 1) H.size) (cwV 1 hts gL_law_X6_valueSum rfl rfl rfl (by decide +kernel) ⟨Nat.le_of_ble_eq_true rfl, Nat.le_of_ble_eq_true rfl⟩) (fPreV hN hZ hS (fun q h => hFc q h) hPc hKc hDc (ci := 9) (q0 := 0) rfl rfl) rfl rfl hl.1 rfl (lv_room (Nat.le_of_ble_eq_true rfl)) dL_law_2685 ⟨Nat.le_of_ble_eq_true rfl, Nat.le_of_ble_eq_true rfl⟩) hS (fun q _ h => hFc q h) hFc (fun r u t H1 locs ht hvm hw hB hz1 hk1 hS => ?_)
      obtain ⟨hP1, hK1, hD1⟩ := hB
      rw [ht] at hP1
      have hK1 := va_K.moved hvm.symm hK1
      obtain ⟨u5, rfl⟩ : ∃ z, z = u := ⟨_, rfl⟩
      obtain ⟨hP, hD⟩ := va_join (wr := [(oJ, .inl (cJ, 1, .inr (.inl u2)))]) (w1 := [(k0, .inr (9, [.ref kN, .ref kA, .ref kO, .ref kK, .ref kV, .ref kG, .ref kP, .ref kC, .ref kD, .ref kE, .ref kF, .ref kX, .ref kY, .int 0, .ref kT, .ref kU, .int u5, .int 0, .int 0]))]) hP hD [0, 1, 2] [3] rfl rfl (by decide) (by decide) hk1 hFc hP1 hD1
      generalize H1 = H at hP hS ⊢
      have hP : va_P (dC, dI) vwCl [(oJ, .inl (cJ, 1, .inr (.inl u2))), (k0, .inr (9, [.ref kN, .ref kA, .ref kO, .ref kK, .ref kV, .ref kG, .ref kP, .ref kC, .ref kD, .ref kE, .ref kF, .ref kX, .ref kY, .int 0, .ref kT, .ref kU, .int u5, .int 0, .int 0]))] _ := hP
      have hD : va_D A [(oJ, .inl (cJ, 1, .inr (.inl u2))), (k0, .inr (9, [.ref kN, .ref kA, .ref kO, .ref kK, .ref kV, .ref kG, .ref kP, .ref kC, .ref kD, .ref kE, .ref kF, .ref kX, .ref kY, .int 0, .ref kT, .ref kU, .int u5, .int 0, .int 0]))] := hD
      obtain ⟨r6, rfl⟩ : ∃ z, z = r := ⟨_, rfl⟩
      rcases hw with ⟨rfl, rfl, hg9⟩ | ⟨rfl, hg9⟩
      · skip
        have hP : va_P (dC, dI) vwCl [(oJ, .inl (cJ, 1, .inr (.inl u2))), (k0, .inr (9, [.ref kN, .ref kA, .ref kO, .ref kK, .ref kV, .ref kG, .ref kP, .ref kC, .ref kD, .ref kE, .ref kF, .ref kX, .ref kY, .int 0, .ref kT, .ref kU, .int 0, .int 0, .int 0]))] _ := hP
        have hD : va_D A [(oJ, .inl (cJ, 1, .inr (.inl u2))), (k0, .inr (9, [.ref kN, .ref kA, .ref kO, .ref kK, .ref kV, .ref kG, .ref kP, .ref kC, .ref kD, .ref kE, .ref kF, .ref kX, .ref kY, .int 0, .ref kT, .ref kU, .int 0, .int 0, .int 0]))] := hD
        refine lv_lstore (lv' := [(7, .long 0), (6, .int 0), (5, .int 0), (4, .ref oD), (3, .ref oJ), (2, .ref k0), (1, .ref h0), (0, .ref b)]) hx hb dL_law_2688 hl (Nat.le_of_ble_eq_true rfl) rfl (fun ls hl => ?_)
        refine lv_aload_n hx hb dL_law_2690 rfl (lv_at hl 5 rfl) ?_
        have hPc := hP.sub (ws' := [(k0, .inr (9, [.ref kN, .ref kA, .ref kO, .ref kK, .ref kV, .ref kG, .ref kP, .ref kC, .ref kD, .ref kE, .ref kF, .ref kX, .ref kY, .int 0, .ref kT, .ref kU, .int 0, .int 0, .int 0]))]) [1] rfl
        have hDc := hD.sub (ws' := [(k0, .inr (9, [.ref kN, .ref kA, .ref kO, .ref kK, .ref kV, .ref kG, .ref kP, .ref kC, .ref kD, .ref kE, .ref kF, .ref kX, .ref kY, .int 0, .ref kT, .ref kU, .int 0, .int 0, .int 0]))]) [1] (by decide) rfl
        have hKc := hK.sub (tys' := []) [] rfl
        have hFc := va_free (wc := [(k0, .inr (9, [.ref kN, .ref kA, .ref kO, .ref kK, .ref kV, .ref kG, .ref kP, .ref kC, .ref kD, .ref kE, .ref kF, .ref kX, .ref kY, .int 0, .ref kT, .ref kU, .int 0, .int 0, .int 0]))]) hD hS hA [1] rfl
        refine va_calli (va_runV (As := []) (rest := []) ⟨hx, hb, hml, hown, hts⟩ (kX6_thrown l dC dI k0 kN kA kO kK kV kG kP kC kD kE kF kX kY kT kU 0 H.size) (cwV 0 hts gL_law_X6_thrown rfl rfl rfl (by decide +kernel) ⟨Nat.le_of_ble_eq_true rfl, Nat.le_of_ble_eq_true rfl⟩) (fPreV hN hZ hS (fun q h => hFc q h) hPc hKc hDc (ci := 9) (q0 := 0) rfl rfl) rfl rfl hl.1 rfl (lv_room (Nat.le_of_ble_eq_true rfl)) dL_law_2691 ⟨Nat.le_of_ble_eq_true rfl, Nat.le_of_ble_eq_true rfl⟩) hS (fun q _ h => hFc q h) hFc (fun r u t H1 locs ht hvm hw hB hz1 hk1 hS => ?_)
        obtain ⟨hP1, hK1, hD1⟩ := hB
        rw [ht] at hP1
        have hK1 := va_K.moved hvm.symm hK1
        obtain ⟨hP, hD⟩ := va_join (wr := [(oJ, .inl (cJ, 1, .inr (.inl u2)))]) (w1 := []) hP hD [1] [0] rfl rfl (by decide) (by decide) hk1 hFc hP1 hD1
        generalize H1 = H at hP hS ⊢
        have hP : va_P (dC, dI) vwCl [(oJ, .inl (cJ, 1, .inr (.inl u2)))] _ := hP
        have hD : va_D A [(oJ, .inl (cJ, 1, .inr (.inl u2)))] := hD
        subst hw
        refine lv_iload hx hb dL_law_2694 (lv_at hl 1 rfl) ?_
        refine lv_icmp_eq (tgt := 2701) hx hb dL_law_2696 (by decide) (fun _ => ?_) (fun h9 => absurd (by decide) h9)
        refine lv_iload hx hb dL_law_2701 (lv_at hl 1 rfl) ?_
        refine lv_if_ne (tgt := 2717) hx hb dL_law_2703 (by decide) (fun h9 => absurd (by decide) h9) (fun _ => ?_)
        refine lv_aload_n hx hb dL_law_2706 rfl (lv_at hl 4 rfl) ?_
        refine lv_iconst (v := 0) hx hb dL_law_2707 (by decide) ?_
        refine va_lald hx hb hK hP 0 1 rfl rfl (show ¬ (_ ∨ _) by decide) dL_law_2708 ?_
        refine lv_topl (fun y7 ey7 => ?_)
        obtain rfl : y7 = 0 := ey7.trans hu0
        refine lv_lload hx hb dL_law_2709 (lv_at hl 0 rfl) ?_
        refine W.lcmp hx hb dL_law_2711 ?_
        refine lv_topi (fun y8 ey8 => ?_)
        obtain rfl : y8 = 0 := ey8.trans (by decide)
        refine lv_if_eq (tgt := 2717) hx hb dL_law_2712 (by decide) (fun _ => ?_) (fun h9 => absurd (by decide) h9)
        refine lv_goto (tgt := 2720) hx hb dL_law_2717 (by decide) ?_
        refine lv_iinc (v := 7) (lv' := [(5, .int 7), (7, .long 0), (6, .int 0), (4, .ref oD), (3, .ref oJ), (2, .ref k0), (1, .ref h0), (0, .ref b)]) hx hb dL_law_2720 hl (k := 2) rfl (by decide) (Nat.le_of_ble_eq_true rfl) rfl (fun ls hl => ?_)
        refine lv_goto (tgt := 28) hx hb dL_law_2723 (by decide) ?_
        refine lv_iload hx hb dL_law_28 (lv_at hl 0 rfl) ?_
        refine lv_aload_n hx hb dL_law_30 rfl (lv_at hl 7 rfl) ?_
        refine va_slen hx hb hX9 hbl hbA hS dL_law_31 ?_
        refine W.eq (g2 := F0 m 32 ls [.int 7, .int 7]) rfl ?_
        refine lv_bipush (v := 7) hx hb dL_law_32 (by decide) ?_
        refine lv_isub hx hb dL_law_34 ?_
        refine lv_topi (fun y10 ey10 => ?_)
        obtain rfl : y10 = 0 := ey10.trans (by decide)
        refine lv_icmp_gt (tgt := 2726) hx hb dL_law_35 (by decide) (fun _ => ?_) (fun h9 => absurd (by decide) h9)
        refine lv_iconst (v := 1) hx hb dL_law_2726 (by decide) ?_
        refine va_forget (fun q hq => hAe _ (hS.2.2 q hq)) ?_
        refine W.widen (k := 600006) (n := 7302048) (Nat.le_of_ble_eq_true rfl) (Nat.le_of_ble_eq_true rfl) ?_
        exact W.base (lw_ret (d0 := s.drawn) (Drawn.sameBut.refl _ _) hx hb hr hlk dL_law_2727)
      · skip
        exact absurd hg9 ((fun h9 => h9 (hf3)))
    · skip
      have hf11 := hf9
      refine lv_istore (lv' := [(6, .int 1), (5, .int 0), (4, .ref oD), (3, .ref oJ), (2, .ref k0), (1, .ref h0), (0, .ref b)]) hx hb dL_law_2676 hl (Nat.le_of_ble_eq_true rfl) rfl (fun ls hl => ?_)
      refine lv_aload_n hx hb dL_law_2678 rfl (lv_at hl 4 rfl) ?_
      refine lv_aload_n hx hb dL_law_2679 rfl (lv_at hl 6 rfl) ?_
      refine lv_iload hx hb dL_law_2680 (lv_at hl 1 rfl) ?_
      refine lv_iconst (v := 1) hx hb dL_law_2682 (by decide) ?_
      refine lv_iadd hx hb dL_law_2683 ?_
      refine lv_topi (fun y12 ey12 => ?_)
      obtain rfl : y12 = 1 := ey12.trans (by decide)
      refine va_sld hx hb hX9 hbl hbA hS (show ¬ (_ ∨ _) by decide) dL_law_2684 ?_
      refine W.eq (g2 := F0 m 2685 ls [.int (xs 1), .ref k0]) rfl ?_
      have hPc := hP.sub (ws' := [(k0, .inr (9, [.ref kN, .ref kA, .ref kO, .ref kK, .ref kV, .ref kG, .ref kP, .ref kC, .ref kD, .ref kE, .ref kF, .ref kX, .ref kY, .int 0, .ref kT, .ref kU, .int 0, .int 0, .int 0])), (kN, .inl (cI, 2, .inl (fun _ => 0))), (kA, .inl (cI, 2, .inl (fun _ => 0)))]) [0, 1, 2] rfl
      have hDc := hD.sub (ws' := [(k0, .inr (9, [.ref kN, .ref kA, .ref kO, .ref kK, .ref kV, .ref kG, .ref kP, .ref kC, .ref kD, .ref kE, .ref kF, .ref kX, .ref kY, .int 0, .ref kT, .ref kU, .int 0, .int 0, .int 0])), (kN, .inl (cI, 2, .inl (fun _ => 0))), (kA, .inl (cI, 2, .inl (fun _ => 0)))]) [0, 1, 2] (by decide) rfl
      have hKc := hK.sub (tys' := [(cI, .int)]) [0] rfl
      have hFc := va_free (wc := [(k0, .inr (9, [.ref kN, .ref kA, .ref kO, .ref kK, .ref kV, .ref kG, .ref kP, .ref kC, .ref kD, .ref kE, .ref kF, .ref kX, .ref kY, .int 0, .ref kT, .ref kU, .int 0, .int 0, .int 0])), (kN, .inl (cI, 2, .inl (fun _ => 0))), (kA, .inl (cI, 2, .inl (fun _ => 0)))]) hD hS hA [0, 1, 2] rfl
      refine va_calll (va_runV (As := [.int (xs 1)]) (rest := []) ⟨hx, hb, hml, hown, hts⟩ (kX6_valueSum l dC dI k0 kN kA kO kK kV kG kP kC kD kE kF kX kY kT kU cI (xs 1) H.size) (cwV 1 hts gL_law_X6_valueSum rfl rfl rfl (by decide +kernel) ⟨Nat.le_of_ble_eq_true rfl, Nat.le_of_ble_eq_true rfl⟩) (fPreV hN hZ hS (fun q h => hFc q h) hPc hKc hDc (ci := 9) (q0 := 0) rfl rfl) rfl rfl hl.1 rfl (lv_room (Nat.le_of_ble_eq_true rfl)) dL_law_2685 ⟨Nat.le_of_ble_eq_true rfl, Nat.le_of_ble_eq_true rfl⟩) hS (fun q _ h => hFc q h) hFc (fun r u t H1 locs ht hvm hw hB hz1 hk1 hS => ?_)
      obtain ⟨hP1, hK1, hD1⟩ := hB
      rw [ht] at hP1
      have hK1 := va_K.moved hvm.symm hK1
      obtain ⟨u13, rfl⟩ : ∃ z, z = u := ⟨_, rfl⟩
      obtain ⟨hP, hD⟩ := va_join (wr := [(oJ, .inl (cJ, 1, .inr (.inl u2)))]) (w1 := [(k0, .inr (9, [.ref kN, .ref kA, .ref kO, .ref kK, .ref kV, .ref kG, .ref kP, .ref kC, .ref kD, .ref kE, .ref kF, .ref kX, .ref kY, .int 0, .ref kT, .ref kU, .int u13, .int 0, .int 0]))]) hP hD [0, 1, 2] [3] rfl rfl (by decide) (by decide) hk1 hFc hP1 hD1
      generalize H1 = H at hP hS ⊢
      have hP : va_P (dC, dI) vwCl [(oJ, .inl (cJ, 1, .inr (.inl u2))), (k0, .inr (9, [.ref kN, .ref kA, .ref kO, .ref kK, .ref kV, .ref kG, .ref kP, .ref kC, .ref kD, .ref kE, .ref kF, .ref kX, .ref kY, .int 0, .ref kT, .ref kU, .int u13, .int 0, .int 0]))] _ := hP
      have hD : va_D A [(oJ, .inl (cJ, 1, .inr (.inl u2))), (k0, .inr (9, [.ref kN, .ref kA, .ref kO, .ref kK, .ref kV, .ref kG, .ref kP, .ref kC, .ref kD, .ref kE, .ref kF, .ref kX, .ref kY, .int 0, .ref kT, .ref kU, .int u13, .int 0, .int 0]))] := hD
      obtain ⟨r14, rfl⟩ : ∃ z, z = r := ⟨_, rfl⟩
      rcases hw with ⟨rfl, rfl, hg9⟩ | ⟨rfl, hg9⟩
      · skip
        exact absurd hg9 (hf11)
      · skip
        have hP : va_P (dC, dI) vwCl [(oJ, .inl (cJ, 1, .inr (.inl u2))), (k0, .inr (9, [.ref kN, .ref kA, .ref kO, .ref kK, .ref kV, .ref kG, .ref kP, .ref kC, .ref kD, .ref kE, .ref kF, .ref kX, .ref kY, .int 0, .ref kT, .ref kU, .int 1, .int 0, .int 0]))] _ := hP
        have hD : va_D A [(oJ, .inl (cJ, 1, .inr (.inl u2))), (k0, .inr (9, [.ref kN, .ref kA, .ref kO, .ref kK, .ref kV, .ref kG, .ref kP, .ref kC, .ref kD, .ref kE, .ref kF, .ref kX, .ref kY, .int 0, .ref kT, .ref kU, .int 1, .int 0, .int 0]))] := hD
        refine lv_lstore (lv' := [(7, .long r14), (6, .int 1), (5, .int 0), (4, .ref oD), (3, .ref oJ), (2, .ref k0), (1, .ref h0), (0, .ref b)]) hx hb dL_law_2688 hl (Nat.le_of_ble_eq_true rfl) rfl (fun ls hl => ?_)
        refine lv_aload_n hx hb dL_law_2690 rfl (lv_at hl 5 rfl) ?_
        have hPc := hP.sub (ws' := [(k0, .inr (9, [.ref kN, .ref kA, .ref kO, .ref kK, .ref kV, .ref kG, .ref kP, .ref kC, .ref kD, .ref kE, .ref kF, .ref kX, .ref kY, .int 0, .ref kT, .ref kU, .int 1, .int 0, .int 0]))]) [1] rfl
        have hDc := hD.sub (ws' := [(k0, .inr (9, [.ref kN, .ref kA, .ref kO, .ref kK, .ref kV, .ref kG, .ref kP, .ref kC, .ref kD, .ref kE, .ref kF, .ref kX, .ref kY, .int 0, .ref kT, .ref kU, .int 1, .int 0, .int 0]))]) [1] (by decide) rfl
        have hKc := hK.sub (tys' := []) [] rfl
        have hFc := va_free (wc := [(k0, .inr (9, [.ref kN, .ref kA, .ref kO, .ref kK, .ref kV, .ref kG, .ref kP, .ref kC, .ref kD, .ref kE, .ref kF, .ref kX, .ref kY, .int 0, .ref kT, .ref kU, .int 1, .int 0, .int 0]))]) hD hS hA [1] rfl
        refine va_calli (va_runV (As := []) (rest := []) ⟨hx, hb, hml, hown, hts⟩ (kX6_thrown l dC dI k0 kN kA kO kK kV kG kP kC kD kE kF kX kY kT kU 1 H.size) (cwV 0 hts gL_law_X6_thrown rfl rfl rfl (by decide +kernel) ⟨Nat.le_of_ble_eq_true rfl, Nat.le_of_ble_eq_true rfl⟩) (fPreV hN hZ hS (fun q h => hFc q h) hPc hKc hDc (ci := 9) (q0 := 0) rfl rfl) rfl rfl hl.1 rfl (lv_room (Nat.le_of_ble_eq_true rfl)) dL_law_2691 ⟨Nat.le_of_ble_eq_true rfl, Nat.le_of_ble_eq_true rfl⟩) hS (fun q _ h => hFc q h) hFc (fun r u t H1 locs ht hvm hw hB hz1 hk1 hS => ?_)
        obtain ⟨hP1, hK1, hD1⟩ := hB
        rw [ht] at hP1
        have hK1 := va_K.moved hvm.symm hK1
        obtain ⟨hP, hD⟩ := va_join (wr := [(oJ, .inl (cJ, 1, .inr (.inl u2)))]) (w1 := []) hP hD [1] [0] rfl rfl (by decide) (by decide) hk1 hFc hP1 hD1
        generalize H1 = H at hP hS ⊢
        have hP : va_P (dC, dI) vwCl [(oJ, .inl (cJ, 1, .inr (.inl u2)))] _ := hP
        have hD : va_D A [(oJ, .inl (cJ, 1, .inr (.inl u2)))] := hD
        subst hw
        refine lv_iload hx hb dL_law_2694 (lv_at hl 1 rfl) ?_
        refine lv_icmp_eq (tgt := 2701) hx hb dL_law_2696 (by decide) (fun _ => ?_) (fun h9 => absurd (by decide) h9)
        refine lv_iload hx hb dL_law_2701 (lv_at hl 1 rfl) ?_
        refine lv_if_ne (tgt := 2717) hx hb dL_law_2703 (by decide) (fun _ => ?_) (fun h9 => absurd h9 (by decide))
        refine lv_goto (tgt := 2720) hx hb dL_law_2717 (by decide) ?_
        refine lv_iinc (v := 7) (lv' := [(5, .int 7), (7, .long r14), (6, .int 1), (4, .ref oD), (3, .ref oJ), (2, .ref k0), (1, .ref h0), (0, .ref b)]) hx hb dL_law_2720 hl (k := 2) rfl (by decide) (Nat.le_of_ble_eq_true rfl) rfl (fun ls hl => ?_)
        refine lv_goto (tgt := 28) hx hb dL_law_2723 (by decide) ?_
        refine lv_iload hx hb dL_law_28 (lv_at hl 0 rfl) ?_
        refine lv_aload_n hx hb dL_law_30 rfl (lv_at hl 7 rfl) ?_
        refine va_slen hx hb hX9 hbl hbA hS dL_law_31 ?_
        refine W.eq (g2 := F0 m 32 ls [.int 7, .int 7]) rfl ?_
        refine lv_bipush (v := 7) hx hb dL_law_32 (by decide) ?_
        refine lv_isub hx hb dL_law_34 ?_
        refine lv_topi (fun y15 ey15 => ?_)
        obtain rfl : y15 = 0 := ey15.trans (by decide)
        refine lv_icmp_gt (tgt := 2726) hx hb dL_law_35 (by decide) (fun _ => ?_) (fun h9 => absurd (by decide) h9)
        refine lv_iconst (v := 1) hx hb dL_law_2726 (by decide) ?_
        refine va_forget (fun q hq => hAe _ (hS.2.2 q hq)) ?_
        refine W.widen (k := 600006) (n := 7302048) (Nat.le_of_ble_eq_true rfl) (Nat.le_of_ble_eq_true rfl) ?_
        exact W.base (lw_ret (d0 := s.drawn) (Drawn.sameBut.refl _ _) hx hb hr hlk dL_law_2727)
