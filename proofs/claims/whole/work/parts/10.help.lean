set_option maxRecDepth 20000 in
theorem ggX6_equalShare_X6_colour : GoodIn wsX6_equalShare wsX6_colour := goodIn_ca (goodIn_r _ [9, 10, 11, 12, 3, 4, 13, 14, 15, 16, 17, 18, 19, 20, 21, 22, 23, 24, 25, 26, 27, 28, 29, 30, 31, 32, 33, 34, 35, 36, 37, 38, 39, 40, 41, 42, 43, 44, 45, 46, 47, 48, 49, 50, 51, 52, 53, 54, 55, 56, 57, 58, 59, 60, 61, 62, 63, 64, 65, 8, 66, 67, 68, 69, 70, 71, 72, 73, 74, 75, 76, 77, 78, 79, 80, 81, 82, 83, 84, 85, 86, 87, 88, 89, 90, 91, 92, 93, 94, 95, 96, 97, 98, 99, 100, 101, 102, 103, 104, 105, 106, 107, 108, 109, 110, 111, 112, 113, 114, 115, 116, 117, 118, 119, 120, 121, 122, 123, 124, 125, 126, 127, 128, 129, 130, 131, 132, 133, 134, 135, 136, 137, 138, 139, 140, 141, 142, 144, 145, 146, 147, 148, 149, 150, 151, 152, 155, 156, 157, 158, 159, 160, 161, 162, 163, 164, 165, 166, 167, 168, 169, 170, 171, 172, 173, 174, 175, 153, 154] (by decide +kernel) (by decide +kernel)) (goodIn_sub (fun _ h => List.mem_cons_of_mem _ (List.mem_append_right _ h)) (by decide +kernel))
set_option maxRecDepth 20000 in
theorem gX6_equalShare_X6_colour : GoodIn wsX6_equalShare (wsV RX6 196 RX6 yX6_colour wsX6_colour) := goodIn_app (goodIn_of _ (by decide +kernel)) ggX6_equalShare_X6_colour
set_option maxRecDepth 20000 in
theorem ggX6_equalShare_X1_countClasses : GoodIn wsX6_equalShare wsX1_countClasses := goodIn_r _ [105, 51, 52, 166, 167, 168, 169, 170, 171, 172, 173, 174, 175] (by decide +kernel) (by decide +kernel)
set_option maxRecDepth 20000 in
theorem gX6_equalShare_X1_countClasses : GoodIn wsX6_equalShare (wsV RX6 273 RX1 yX1_countClasses wsX1_countClasses) := goodIn_app (goodIn_of _ (by decide +kernel)) ggX6_equalShare_X1_countClasses
theorem dX6_equalShare_0 : decode cX6_equalShare 0 = .ok (.aload_n 0, 1) := by decide +kernel
theorem dX6_equalShare_1 : decode cX6_equalShare 1 = .ok (.invokevirtual 196, 3) := by decide +kernel
theorem dX6_equalShare_4 : decode cX6_equalShare 4 = .ok (.aload_n 0, 1) := by decide +kernel
theorem dX6_equalShare_5 : decode cX6_equalShare 5 = .ok (.getfield 24, 3) := by decide +kernel
theorem dX6_equalShare_8 : decode cX6_equalShare 8 = .ok (.invokevirtual 273, 3) := by decide +kernel
theorem dX6_equalShare_11 : decode cX6_equalShare 11 = .ok (.istore_n 1, 1) := by decide +kernel
theorem dX6_equalShare_12 : decode cX6_equalShare 12 = .ok (.iload_n 1, 1) := by decide +kernel
theorem dX6_equalShare_13 : decode cX6_equalShare 13 = .ok (.ifCond .ne 14, 3) := by decide +kernel
theorem dX6_equalShare_16 : decode cX6_equalShare 16 = .ok (.new 276, 3) := by decide +kernel
theorem dX6_equalShare_19 : decode cX6_equalShare 19 = .ok (.dup, 1) := by decide +kernel
theorem dX6_equalShare_20 : decode cX6_equalShare 20 = .ok (.ldc_w 278, 3) := by decide +kernel
theorem dX6_equalShare_23 : decode cX6_equalShare 23 = .ok (.invokespecial 280, 3) := by decide +kernel
theorem dX6_equalShare_26 : decode cX6_equalShare 26 = .ok (.athrow, 1) := by decide +kernel
set_option maxRecDepth 20000 in
theorem ggX6_meanDistance_X6_circuitAt : GoodIn wsX6_meanDistance wsX6_circuitAt := goodIn_ca (goodIn_r _ [7, 8, 9, 10, 11, 6, 12, 13, 14, 48, 49, 50, 51, 52, 53, 54, 55, 56] (by decide +kernel) (by decide +kernel)) (goodIn_sub (fun _ h => List.mem_cons_of_mem _ (List.mem_append_right _ h)) (by decide +kernel))
set_option maxRecDepth 20000 in
theorem gX6_meanDistance_X6_circuitAt : GoodIn wsX6_meanDistance (wsV RX6 45 RX6 yX6_circuitAt wsX6_circuitAt) := goodIn_app (goodIn_of _ (by decide +kernel)) ggX6_meanDistance_X6_circuitAt
set_option maxRecDepth 20000 in
theorem ggX6_meanDistance_X0_measure : GoodIn wsX6_meanDistance wsX0_measure := goodIn_ca (goodIn_r _ [19, 20, 21, 22, 23, 24, 25, 26, 27, 28, 29, 30, 31, 32, 33, 18, 34, 35, 36, 37, 38, 39, 40, 41, 42, 43, 44, 45, 46, 47, 57, 58, 59, 60, 61, 62] (by decide +kernel) (by decide +kernel)) (goodIn_sub (fun _ h => List.mem_cons_of_mem _ (List.mem_append_left _ (List.mem_append_left _ (List.mem_append_right _ h)))) (by decide +kernel))
set_option maxRecDepth 20000 in
theorem gX6_meanDistance_X0_measure : GoodIn wsX6_meanDistance (wsV RX6 179 RX0 yX0_measure wsX0_measure) := goodIn_app (goodIn_of _ (by decide +kernel)) ggX6_meanDistance_X0_measure
theorem dX6_meanDistance_0 : decode cX6_meanDistance 0 = .ok (.aload_n 0, 1) := by decide +kernel
theorem dX6_meanDistance_1 : decode cX6_meanDistance 1 = .ok (.iload_n 1, 1) := by decide +kernel
theorem dX6_meanDistance_2 : decode cX6_meanDistance 2 = .ok (.invokevirtual 45, 3) := by decide +kernel
theorem dX6_meanDistance_5 : decode cX6_meanDistance 5 = .ok (.astore_n 2, 1) := by decide +kernel
theorem dX6_meanDistance_6 : decode cX6_meanDistance 6 = .ok (.aload_n 2, 1) := by decide +kernel
theorem dX6_meanDistance_7 : decode cX6_meanDistance 7 = .ok (.invokevirtual 179, 3) := by decide +kernel
theorem dX6_meanDistance_10 : decode cX6_meanDistance 10 = .ok (.iconst 0, 1) := by decide +kernel
theorem dX6_meanDistance_11 : decode cX6_meanDistance 11 = .ok (.istore_n 3, 1) := by decide +kernel
theorem dX6_meanDistance_12 : decode cX6_meanDistance 12 = .ok (.iconst 0, 1) := by decide +kernel
theorem dX6_meanDistance_13 : decode cX6_meanDistance 13 = .ok (.istore 4, 2) := by decide +kernel
theorem dX6_meanDistance_15 : decode cX6_meanDistance 15 = .ok (.iconst 0, 1) := by decide +kernel
theorem dX6_meanDistance_16 : decode cX6_meanDistance 16 = .ok (.istore 5, 2) := by decide +kernel
theorem dX6_meanDistance_18 : decode cX6_meanDistance 18 = .ok (.iload 5, 2) := by decide +kernel
theorem dX6_meanDistance_20 : decode cX6_meanDistance 20 = .ok (.aload_n 2, 1) := by decide +kernel
theorem dX6_meanDistance_21 : decode cX6_meanDistance 21 = .ok (.getfield 49, 3) := by decide +kernel
theorem dX6_meanDistance_24 : decode cX6_meanDistance 24 = .ok (.if_icmp .ge 34, 3) := by decide +kernel
theorem dX6_meanDistance_58 : decode cX6_meanDistance 58 = .ok (.iload 4, 2) := by decide +kernel
theorem dX6_meanDistance_60 : decode cX6_meanDistance 60 = .ok (.ifCond .ne 14, 3) := by decide +kernel
theorem dX6_meanDistance_63 : decode cX6_meanDistance 63 = .ok (.new 276, 3) := by decide +kernel
theorem dX6_meanDistance_66 : decode cX6_meanDistance 66 = .ok (.dup, 1) := by decide +kernel
theorem dX6_meanDistance_67 : decode cX6_meanDistance 67 = .ok (.ldc_w 281, 3) := by decide +kernel
theorem dX6_meanDistance_70 : decode cX6_meanDistance 70 = .ok (.invokespecial 280, 3) := by decide +kernel
theorem dX6_meanDistance_73 : decode cX6_meanDistance 73 = .ok (.athrow, 1) := by decide +kernel
set_option maxRecDepth 20000 in
theorem ggL_addNet_X6_addNet : GoodIn wsL_addNet wsX6_addNet := goodIn_ca (goodIn_ca (goodIn_ca (goodIn_r _ [7, 8, 9, 10, 11, 12, 6, 13, 14, 15, 16, 17, 18, 19, 20, 21, 22, 23, 24, 25, 26, 27, 28, 29, 30, 31, 32, 33, 34, 35, 36, 37, 38, 39, 40, 41, 42, 43, 44, 45, 46, 47, 48] (by decide +kernel) (by decide +kernel)) (goodIn_sub (fun _ h => List.mem_cons_of_mem _ (List.mem_append_left _ (List.mem_append_right _ h))) (by decide +kernel))) (goodIn_sub (fun _ h => List.mem_cons_of_mem _ (List.mem_append_right _ h)) (by decide +kernel))) (goodIn_sub (fun _ h => List.mem_cons_of_mem _ (List.mem_append_left _ (List.mem_append_left _ (List.mem_append_right _ h)))) (by decide +kernel))
set_option maxRecDepth 20000 in
theorem gL_addNet_X6_addNet : GoodIn wsL_addNet (wsV RL 7 RX6 yX6_addNet wsX6_addNet) := goodIn_app (goodIn_of _ (by decide +kernel)) ggL_addNet_X6_addNet
theorem dL_addNet_0 : decode cL_addNet 0 = .ok (.aload_n 2, 1) := by decide +kernel
theorem dL_addNet_1 : decode cL_addNet 1 = .ok (.iconst 0, 1) := by decide +kernel
theorem dL_addNet_2 : decode cL_addNet 2 = .ok (.aload_n 0, 1) := by decide +kernel
theorem dL_addNet_3 : decode cL_addNet 3 = .ok (.iload_n 1, 1) := by decide +kernel
theorem dL_addNet_4 : decode cL_addNet 4 = .ok (.invokevirtual 7, 3) := by decide +kernel
theorem dL_addNet_7 : decode cL_addNet 7 = .ok (.i2l, 1) := by decide +kernel
theorem dL_addNet_8 : decode cL_addNet 8 = .ok (.lastore, 1) := by decide +kernel
theorem dL_addNet_9 : decode cL_addNet 9 = .ok (.goto 9, 3) := by decide +kernel
theorem dL_addNet_12 : decode cL_addNet 12 = .ok (.astore_n 3, 1) := by decide +kernel
theorem dL_addNet_13 : decode cL_addNet 13 = .ok (.iconst 1, 1) := by decide +kernel
theorem dL_addNet_14 : decode cL_addNet 14 = .ok (.ireturn, 1) := by decide +kernel
theorem dL_addNet_18 : decode cL_addNet 18 = .ok (.iconst 0, 1) := by decide +kernel
theorem dL_addNet_19 : decode cL_addNet 19 = .ok (.ireturn, 1) := by decide +kernel
set_option maxRecDepth 20000 in
theorem ggL_setPort_X6_setPort : GoodIn wsL_setPort wsX6_setPort := goodIn_ca (goodIn_ca (goodIn_ca (goodIn_ca (goodIn_r _ [8, 9, 10, 11, 12, 13, 14, 15, 7, 16, 17, 18, 19, 20, 21, 22, 23, 24, 25, 26, 27, 28, 29, 30, 31, 32, 33, 34, 35, 36, 37, 38, 39, 40, 41, 42, 43, 44, 45, 46, 47, 48, 49, 50, 51, 52, 53, 54, 55, 56, 57, 58] (by decide +kernel) (by decide +kernel)) (goodIn_sub (fun _ h => List.mem_cons_of_mem _ (List.mem_append_left _ (List.mem_append_left _ (List.mem_append_right _ h)))) (by decide +kernel))) (goodIn_sub (fun _ h => List.mem_cons_of_mem _ (List.mem_append_left _ (List.mem_append_right _ h))) (by decide +kernel))) (goodIn_sub (fun _ h => List.mem_cons_of_mem _ (List.mem_append_left _ (List.mem_append_left _ (List.mem_append_left _ (List.mem_append_right _ h))))) (by decide +kernel))) (goodIn_sub (fun _ h => List.mem_cons_of_mem _ (List.mem_append_right _ h)) (by decide +kernel))
set_option maxRecDepth 20000 in
theorem gL_setPort_X6_setPort : GoodIn wsL_setPort (wsV RL 17 RX6 yX6_setPort wsX6_setPort) := goodIn_app (goodIn_of _ (by decide +kernel)) ggL_setPort_X6_setPort
theorem dL_setPort_0 : decode cL_setPort 0 = .ok (.aload 4, 2) := by decide +kernel
theorem dL_setPort_2 : decode cL_setPort 2 = .ok (.iconst 0, 1) := by decide +kernel
theorem dL_setPort_3 : decode cL_setPort 3 = .ok (.aload_n 0, 1) := by decide +kernel
theorem dL_setPort_4 : decode cL_setPort 4 = .ok (.iload_n 1, 1) := by decide +kernel
theorem dL_setPort_5 : decode cL_setPort 5 = .ok (.iload_n 2, 1) := by decide +kernel
theorem dL_setPort_6 : decode cL_setPort 6 = .ok (.iload_n 3, 1) := by decide +kernel
theorem dL_setPort_7 : decode cL_setPort 7 = .ok (.invokevirtual 17, 3) := by decide +kernel
theorem dL_setPort_15 : decode cL_setPort 15 = .ok (.astore 5, 2) := by decide +kernel
theorem dL_setPort_17 : decode cL_setPort 17 = .ok (.iconst 1, 1) := by decide +kernel
theorem dL_setPort_18 : decode cL_setPort 18 = .ok (.ireturn, 1) := by decide +kernel
theorem dL_setPort_19 : decode cL_setPort 19 = .ok (.astore 5, 2) := by decide +kernel
theorem dL_setPort_21 : decode cL_setPort 21 = .ok (.iconst 2, 1) := by decide +kernel
theorem dL_setPort_22 : decode cL_setPort 22 = .ok (.ireturn, 1) := by decide +kernel
set_option maxRecDepth 20000 in
theorem ggL_addPart_X6_addPart : GoodIn wsL_addPart wsX6_addPart := goodIn_ca (goodIn_ca (goodIn_ca (goodIn_ca (goodIn_r _ [8, 9, 10, 11, 12, 13, 14, 15, 7, 16, 17, 18, 19, 20, 21, 22, 23, 24, 25, 26, 27, 28, 29, 30, 31, 32, 33, 34, 35, 36, 37, 38, 39, 40, 41, 42, 43, 44, 45, 46, 47, 48, 49, 50, 51, 52, 53, 54, 55, 56, 57, 58, 59, 60, 61, 62, 63, 64, 65, 66, 67, 68, 69, 70, 71, 72, 73, 74] (by decide +kernel) (by decide +kernel)) (goodIn_sub (fun _ h => List.mem_cons_of_mem _ (List.mem_append_left _ (List.mem_append_left _ (List.mem_append_right _ h)))) (by decide +kernel))) (goodIn_sub (fun _ h => List.mem_cons_of_mem _ (List.mem_append_left _ (List.mem_append_right _ h))) (by decide +kernel))) (goodIn_sub (fun _ h => List.mem_cons_of_mem _ (List.mem_append_left _ (List.mem_append_left _ (List.mem_append_left _ (List.mem_append_right _ h))))) (by decide +kernel))) (goodIn_sub (fun _ h => List.mem_cons_of_mem _ (List.mem_append_right _ h)) (by decide +kernel))
set_option maxRecDepth 20000 in
theorem gL_addPart_X6_addPart : GoodIn wsL_addPart (wsV RL 23 RX6 yX6_addPart wsX6_addPart) := goodIn_app (goodIn_of _ (by decide +kernel)) ggL_addPart_X6_addPart
theorem dL_addPart_0 : decode cL_addPart 0 = .ok (.aload 7, 2) := by decide +kernel
theorem dL_addPart_2 : decode cL_addPart 2 = .ok (.iconst 0, 1) := by decide +kernel
theorem dL_addPart_3 : decode cL_addPart 3 = .ok (.aload_n 0, 1) := by decide +kernel
theorem dL_addPart_4 : decode cL_addPart 4 = .ok (.iload_n 1, 1) := by decide +kernel
theorem dL_addPart_5 : decode cL_addPart 5 = .ok (.iload_n 2, 1) := by decide +kernel
theorem dL_addPart_6 : decode cL_addPart 6 = .ok (.iload_n 3, 1) := by decide +kernel
theorem dL_addPart_7 : decode cL_addPart 7 = .ok (.iload 4, 2) := by decide +kernel
theorem dL_addPart_9 : decode cL_addPart 9 = .ok (.iload 5, 2) := by decide +kernel
theorem dL_addPart_11 : decode cL_addPart 11 = .ok (.iload 6, 2) := by decide +kernel
theorem dL_addPart_13 : decode cL_addPart 13 = .ok (.invokevirtual 23, 3) := by decide +kernel
theorem dL_addPart_21 : decode cL_addPart 21 = .ok (.astore 8, 2) := by decide +kernel
theorem dL_addPart_23 : decode cL_addPart 23 = .ok (.iconst 1, 1) := by decide +kernel
theorem dL_addPart_24 : decode cL_addPart 24 = .ok (.ireturn, 1) := by decide +kernel
theorem dL_addPart_25 : decode cL_addPart 25 = .ok (.astore 8, 2) := by decide +kernel
theorem dL_addPart_27 : decode cL_addPart 27 = .ok (.iconst 2, 1) := by decide +kernel
theorem dL_addPart_28 : decode cL_addPart 28 = .ok (.ireturn, 1) := by decide +kernel
set_option maxRecDepth 20000 in
theorem ggL_removePart_X6_removePart : GoodIn wsL_removePart wsX6_removePart := goodIn_ca (goodIn_ca (goodIn_r _ [7, 8, 9, 10, 6, 11, 12, 13, 14, 15, 16, 17, 18, 19, 20, 21, 22, 23, 24, 25, 26, 27, 28, 29, 30, 31, 32, 33, 34, 35, 36, 37, 38, 39, 40, 41, 42, 43, 44, 45, 46, 47, 48, 49, 50, 51, 52, 53, 54, 55, 56, 57, 58, 59, 60, 61, 62, 63, 64, 65, 66, 67] (by decide +kernel) (by decide +kernel)) (goodIn_sub (fun _ h => List.mem_cons_of_mem _ (List.mem_append_left _ (List.mem_append_right _ h))) (by decide +kernel))) (goodIn_sub (fun _ h => List.mem_cons_of_mem _ (List.mem_append_right _ h)) (by decide +kernel))
set_option maxRecDepth 20000 in
theorem gL_removePart_X6_removePart : GoodIn wsL_removePart (wsV RL 27 RX6 yX6_removePart wsX6_removePart) := goodIn_app (goodIn_of _ (by decide +kernel)) ggL_removePart_X6_removePart
theorem dL_removePart_0 : decode cL_removePart 0 = .ok (.aload_n 3, 1) := by decide +kernel
theorem dL_removePart_1 : decode cL_removePart 1 = .ok (.iconst 0, 1) := by decide +kernel
theorem dL_removePart_2 : decode cL_removePart 2 = .ok (.aload_n 0, 1) := by decide +kernel
theorem dL_removePart_3 : decode cL_removePart 3 = .ok (.iload_n 1, 1) := by decide +kernel
theorem dL_removePart_4 : decode cL_removePart 4 = .ok (.iload_n 2, 1) := by decide +kernel
theorem dL_removePart_5 : decode cL_removePart 5 = .ok (.invokevirtual 27, 3) := by decide +kernel
theorem dL_removePart_13 : decode cL_removePart 13 = .ok (.astore 4, 2) := by decide +kernel
theorem dL_removePart_15 : decode cL_removePart 15 = .ok (.iconst 1, 1) := by decide +kernel
theorem dL_removePart_16 : decode cL_removePart 16 = .ok (.ireturn, 1) := by decide +kernel
theorem dL_removePart_17 : decode cL_removePart 17 = .ok (.astore 4, 2) := by decide +kernel
theorem dL_removePart_19 : decode cL_removePart 19 = .ok (.iconst 2, 1) := by decide +kernel
theorem dL_removePart_20 : decode cL_removePart 20 = .ok (.ireturn, 1) := by decide +kernel
set_option maxRecDepth 20000 in
theorem ggL_setValue_X6_setValue : GoodIn wsL_setValue wsX6_setValue := goodIn_ca (goodIn_ca (goodIn_r _ [7, 8, 9, 10, 6, 11, 12, 13, 14, 15, 16, 17, 18, 19, 20, 21, 22, 23, 24, 25, 26, 27, 28, 29, 30, 31, 32, 33, 34, 35, 36, 37, 38, 39, 40, 41, 42, 43, 44, 45, 46, 47, 48, 49, 50, 51, 52, 53, 54, 55, 56, 57, 58, 59, 60, 61, 62, 63, 64, 65, 66] (by decide +kernel) (by decide +kernel)) (goodIn_sub (fun _ h => List.mem_cons_of_mem _ (List.mem_append_left _ (List.mem_append_right _ h))) (by decide +kernel))) (goodIn_sub (fun _ h => List.mem_cons_of_mem _ (List.mem_append_right _ h)) (by decide +kernel))
set_option maxRecDepth 20000 in
theorem gL_setValue_X6_setValue : GoodIn wsL_setValue (wsV RL 31 RX6 yX6_setValue wsX6_setValue) := goodIn_app (goodIn_of _ (by decide +kernel)) ggL_setValue_X6_setValue
theorem dL_setValue_0 : decode cL_setValue 0 = .ok (.aload 4, 2) := by decide +kernel
theorem dL_setValue_2 : decode cL_setValue 2 = .ok (.iconst 0, 1) := by decide +kernel
theorem dL_setValue_3 : decode cL_setValue 3 = .ok (.aload_n 0, 1) := by decide +kernel
theorem dL_setValue_4 : decode cL_setValue 4 = .ok (.iload_n 1, 1) := by decide +kernel
theorem dL_setValue_5 : decode cL_setValue 5 = .ok (.iload_n 2, 1) := by decide +kernel
theorem dL_setValue_6 : decode cL_setValue 6 = .ok (.iload_n 3, 1) := by decide +kernel
theorem dL_setValue_7 : decode cL_setValue 7 = .ok (.invokevirtual 31, 3) := by decide +kernel
theorem dL_setValue_15 : decode cL_setValue 15 = .ok (.astore 5, 2) := by decide +kernel
theorem dL_setValue_17 : decode cL_setValue 17 = .ok (.iconst 1, 1) := by decide +kernel
theorem dL_setValue_18 : decode cL_setValue 18 = .ok (.ireturn, 1) := by decide +kernel
theorem dL_setValue_19 : decode cL_setValue 19 = .ok (.astore 5, 2) := by decide +kernel
theorem dL_setValue_21 : decode cL_setValue 21 = .ok (.iconst 2, 1) := by decide +kernel
theorem dL_setValue_22 : decode cL_setValue 22 = .ok (.ireturn, 1) := by decide +kernel
set_option maxRecDepth 20000 in
theorem ggL_rewire_X6_rewire : GoodIn wsL_rewire wsX6_rewire := goodIn_ca (goodIn_ca (goodIn_ca (goodIn_ca (goodIn_ca (goodIn_r _ [9, 10, 11, 12, 13, 14, 8, 15, 16, 17, 18, 19, 20, 21, 22, 23, 24, 25, 26, 27, 28, 29, 30, 31, 32, 33, 34, 35, 36, 37, 38, 39, 40, 41, 42, 43, 44, 45, 46, 47, 48, 49, 50, 51, 52, 53, 54, 55, 56, 57, 58, 59, 60, 61, 62, 63, 64, 65, 66, 67, 68, 69, 70, 71, 72, 73, 74, 75, 76, 77] (by decide +kernel) (by decide +kernel)) (goodIn_sub (fun _ h => List.mem_cons_of_mem _ (List.mem_append_left _ (List.mem_append_left _ (List.mem_append_left _ (List.mem_append_right _ h))))) (by decide +kernel))) (goodIn_sub (fun _ h => List.mem_cons_of_mem _ (List.mem_append_left _ (List.mem_append_left _ (List.mem_append_left _ (List.mem_append_left _ (List.mem_append_right _ h)))))) (by decide +kernel))) (goodIn_sub (fun _ h => List.mem_cons_of_mem _ (List.mem_append_left _ (List.mem_append_left _ (List.mem_append_right _ h)))) (by decide +kernel))) (goodIn_sub (fun _ h => List.mem_cons_of_mem _ (List.mem_append_left _ (List.mem_append_right _ h))) (by decide +kernel))) (goodIn_sub (fun _ h => List.mem_cons_of_mem _ (List.mem_append_right _ h)) (by decide +kernel))
set_option maxRecDepth 20000 in
theorem gL_rewire_X6_rewire : GoodIn wsL_rewire (wsV RL 35 RX6 yX6_rewire wsX6_rewire) := goodIn_app (goodIn_of _ (by decide +kernel)) ggL_rewire_X6_rewire
theorem dL_rewire_0 : decode cL_rewire 0 = .ok (.aload 5, 2) := by decide +kernel
theorem dL_rewire_2 : decode cL_rewire 2 = .ok (.iconst 0, 1) := by decide +kernel
theorem dL_rewire_3 : decode cL_rewire 3 = .ok (.aload_n 0, 1) := by decide +kernel
theorem dL_rewire_4 : decode cL_rewire 4 = .ok (.iload_n 1, 1) := by decide +kernel
theorem dL_rewire_5 : decode cL_rewire 5 = .ok (.iload_n 2, 1) := by decide +kernel
theorem dL_rewire_6 : decode cL_rewire 6 = .ok (.iload_n 3, 1) := by decide +kernel
theorem dL_rewire_7 : decode cL_rewire 7 = .ok (.iload 4, 2) := by decide +kernel
theorem dL_rewire_9 : decode cL_rewire 9 = .ok (.invokevirtual 35, 3) := by decide +kernel
theorem dL_rewire_17 : decode cL_rewire 17 = .ok (.astore 6, 2) := by decide +kernel
theorem dL_rewire_19 : decode cL_rewire 19 = .ok (.iconst 1, 1) := by decide +kernel
theorem dL_rewire_20 : decode cL_rewire 20 = .ok (.ireturn, 1) := by decide +kernel
theorem dL_rewire_21 : decode cL_rewire 21 = .ok (.astore 6, 2) := by decide +kernel
theorem dL_rewire_23 : decode cL_rewire 23 = .ok (.iconst 2, 1) := by decide +kernel
theorem dL_rewire_24 : decode cL_rewire 24 = .ok (.ireturn, 1) := by decide +kernel
set_option maxRecDepth 20000 in
theorem ggL_swapPins_X6_swapPins : GoodIn wsL_swapPins wsX6_swapPins := goodIn_ca (goodIn_ca (goodIn_ca (goodIn_ca (goodIn_r _ [8, 9, 10, 11, 12, 13, 7, 14, 15, 16, 17, 18, 19, 20, 21, 22, 23, 24, 25, 26, 27, 28, 29, 30, 31, 32, 33, 34, 35, 36, 37, 38, 39, 40, 41, 42, 43, 44, 45, 46, 47, 48, 49, 50, 51, 52, 53, 54, 55, 56, 57, 58, 59, 60, 61, 62, 63, 64, 65, 66, 67, 68, 69, 70, 71, 72, 73, 74, 75, 76, 77] (by decide +kernel) (by decide +kernel)) (goodIn_sub (fun _ h => List.mem_cons_of_mem _ (List.mem_append_left _ (List.mem_append_left _ (List.mem_append_right _ h)))) (by decide +kernel))) (goodIn_sub (fun _ h => List.mem_cons_of_mem _ (List.mem_append_left _ (List.mem_append_right _ h))) (by decide +kernel))) (goodIn_sub (fun _ h => List.mem_cons_of_mem _ (List.mem_append_right _ h)) (by decide +kernel))) (goodIn_sub (fun _ h => List.mem_cons_of_mem _ (List.mem_append_left _ (List.mem_append_left _ (List.mem_append_left _ (List.mem_append_right _ h))))) (by decide +kernel))
set_option maxRecDepth 20000 in
theorem gL_swapPins_X6_swapPins : GoodIn wsL_swapPins (wsV RL 43 RX6 yX6_swapPins wsX6_swapPins) := goodIn_app (goodIn_of _ (by decide +kernel)) ggL_swapPins_X6_swapPins
theorem dL_swapPins_0 : decode cL_swapPins 0 = .ok (.aload_n 3, 1) := by decide +kernel
theorem dL_swapPins_1 : decode cL_swapPins 1 = .ok (.iconst 0, 1) := by decide +kernel
theorem dL_swapPins_2 : decode cL_swapPins 2 = .ok (.aload_n 0, 1) := by decide +kernel
theorem dL_swapPins_3 : decode cL_swapPins 3 = .ok (.iload_n 1, 1) := by decide +kernel
theorem dL_swapPins_4 : decode cL_swapPins 4 = .ok (.iload_n 2, 1) := by decide +kernel
theorem dL_swapPins_5 : decode cL_swapPins 5 = .ok (.invokevirtual 43, 3) := by decide +kernel
theorem dL_swapPins_13 : decode cL_swapPins 13 = .ok (.astore 4, 2) := by decide +kernel
theorem dL_swapPins_15 : decode cL_swapPins 15 = .ok (.iconst 1, 1) := by decide +kernel
theorem dL_swapPins_16 : decode cL_swapPins 16 = .ok (.ireturn, 1) := by decide +kernel
theorem dL_swapPins_17 : decode cL_swapPins 17 = .ok (.astore 4, 2) := by decide +kernel
theorem dL_swapPins_19 : decode cL_swapPins 19 = .ok (.iconst 2, 1) := by decide +kernel
theorem dL_swapPins_20 : decode cL_swapPins 20 = .ok (.ireturn, 1) := by decide +kernel
set_option maxRecDepth 20000 in
theorem ggL_canJoin_X6_canJoin : GoodIn wsL_canJoin wsX6_canJoin := goodIn_ca (goodIn_ca (goodIn_ca (goodIn_r _ [7, 8, 9, 10, 6, 11, 12, 13, 14, 15, 16, 17, 18, 19, 20, 21, 22, 23, 24, 25, 26, 27, 28, 29, 30, 31, 32, 33, 34, 35, 36, 37, 38, 39, 40, 41, 42, 43, 44, 45, 46, 47, 48, 49, 50, 51, 52, 53, 54, 55, 56, 57, 58, 59, 60, 61, 62, 63, 64, 65, 66, 67, 68, 69, 70, 71, 72, 73, 74, 75, 76, 77, 78, 79, 80, 81, 82, 83, 84, 85, 86, 87, 88] (by decide +kernel) (by decide +kernel)) (goodIn_sub (fun _ h => List.mem_cons_of_mem _ (List.mem_append_left _ (List.mem_append_right _ h))) (by decide +kernel))) (goodIn_sub (fun _ h => List.mem_cons_of_mem _ (List.mem_append_right _ h)) (by decide +kernel))) (goodIn_sub (fun _ h => List.mem_cons_of_mem _ (List.mem_append_left _ (List.mem_append_left _ (List.mem_append_right _ h)))) (by decide +kernel))
set_option maxRecDepth 20000 in
theorem gL_canJoin_X6_canJoin : GoodIn wsL_canJoin (wsV RL 46 RX6 yX6_canJoin wsX6_canJoin) := goodIn_app (goodIn_of _ (by decide +kernel)) ggL_canJoin_X6_canJoin
theorem dL_canJoin_0 : decode cL_canJoin 0 = .ok (.aload 4, 2) := by decide +kernel
theorem dL_canJoin_2 : decode cL_canJoin 2 = .ok (.iconst 0, 1) := by decide +kernel
theorem dL_canJoin_3 : decode cL_canJoin 3 = .ok (.aload_n 0, 1) := by decide +kernel
theorem dL_canJoin_4 : decode cL_canJoin 4 = .ok (.iload_n 1, 1) := by decide +kernel
theorem dL_canJoin_5 : decode cL_canJoin 5 = .ok (.iload_n 2, 1) := by decide +kernel
theorem dL_canJoin_6 : decode cL_canJoin 6 = .ok (.iload_n 3, 1) := by decide +kernel
theorem dL_canJoin_7 : decode cL_canJoin 7 = .ok (.invokevirtual 46, 3) := by decide +kernel
theorem dL_canJoin_15 : decode cL_canJoin 15 = .ok (.astore 5, 2) := by decide +kernel
theorem dL_canJoin_17 : decode cL_canJoin 17 = .ok (.iconst 1, 1) := by decide +kernel
theorem dL_canJoin_18 : decode cL_canJoin 18 = .ok (.ireturn, 1) := by decide +kernel
theorem dL_canJoin_19 : decode cL_canJoin 19 = .ok (.astore 5, 2) := by decide +kernel
theorem dL_canJoin_21 : decode cL_canJoin 21 = .ok (.iconst 2, 1) := by decide +kernel
theorem dL_canJoin_22 : decode cL_canJoin 22 = .ok (.ireturn, 1) := by decide +kernel
set_option maxRecDepth 20000 in
theorem ggL_join_X6_join : GoodIn wsL_join wsX6_join := goodIn_ca (goodIn_ca (goodIn_ca (goodIn_ca (goodIn_ca (goodIn_r _ [8, 9, 10, 11, 12, 13, 14, 15, 16, 17, 18, 19, 20, 7, 21, 22, 23, 24, 25, 26, 27, 28, 29, 30, 31, 32, 33, 34, 35, 36, 37, 38, 39, 40, 41, 42, 43, 44, 45, 46, 47, 48, 49, 50, 51, 52, 53, 54, 55, 56, 57, 58, 59, 60, 61, 62, 63, 64, 65, 66, 67, 68, 69, 70, 71, 72, 73, 74, 75, 76, 77, 78, 79, 80, 81, 82, 83, 84, 85, 86, 87, 88, 89, 90, 91, 92, 93, 94, 95, 96, 97, 98, 99, 100, 101, 102, 103, 104, 105, 106, 107, 108, 109, 110, 111, 112, 113, 114] (by decide +kernel) (by decide +kernel)) (goodIn_sub (fun _ h => List.mem_cons_of_mem _ (List.mem_append_left _ (List.mem_append_left _ (List.mem_append_left _ (List.mem_append_right _ h))))) (by decide +kernel))) (goodIn_sub (fun _ h => List.mem_cons_of_mem _ (List.mem_append_left _ (List.mem_append_left _ (List.mem_append_right _ h)))) (by decide +kernel))) (goodIn_sub (fun _ h => List.mem_cons_of_mem _ (List.mem_append_left _ (List.mem_append_right _ h))) (by decide +kernel))) (goodIn_sub (fun _ h => List.mem_cons_of_mem _ (List.mem_append_left _ (List.mem_append_left _ (List.mem_append_left _ (List.mem_append_left _ (List.mem_append_right _ h)))))) (by decide +kernel))) (goodIn_sub (fun _ h => List.mem_cons_of_mem _ (List.mem_append_right _ h)) (by decide +kernel))
set_option maxRecDepth 20000 in
theorem gL_join_X6_join : GoodIn wsL_join (wsV RL 50 RX6 yX6_join wsX6_join) := goodIn_app (goodIn_of _ (by decide +kernel)) ggL_join_X6_join
theorem dL_join_0 : decode cL_join 0 = .ok (.aload 4, 2) := by decide +kernel
theorem dL_join_2 : decode cL_join 2 = .ok (.iconst 0, 1) := by decide +kernel
theorem dL_join_3 : decode cL_join 3 = .ok (.aload_n 0, 1) := by decide +kernel
theorem dL_join_4 : decode cL_join 4 = .ok (.iload_n 1, 1) := by decide +kernel
theorem dL_join_5 : decode cL_join 5 = .ok (.iload_n 2, 1) := by decide +kernel
theorem dL_join_6 : decode cL_join 6 = .ok (.iload_n 3, 1) := by decide +kernel
theorem dL_join_7 : decode cL_join 7 = .ok (.invokevirtual 50, 3) := by decide +kernel
theorem dL_join_15 : decode cL_join 15 = .ok (.astore 5, 2) := by decide +kernel
theorem dL_join_17 : decode cL_join 17 = .ok (.iconst 1, 1) := by decide +kernel
theorem dL_join_18 : decode cL_join 18 = .ok (.ireturn, 1) := by decide +kernel
theorem dL_join_19 : decode cL_join 19 = .ok (.astore 5, 2) := by decide +kernel
theorem dL_join_21 : decode cL_join 21 = .ok (.iconst 2, 1) := by decide +kernel
theorem dL_join_22 : decode cL_join 22 = .ok (.ireturn, 1) := by decide +kernel
set_option maxRecDepth 20000 in
theorem ggL_joinAll_X6_joinAll : GoodIn wsL_joinAll wsX6_joinAll := goodIn_ca (goodIn_ca (goodIn_ca (goodIn_r _ [6, 7, 8, 9, 5, 10, 11, 12, 13, 14, 15, 16, 17, 18, 19, 20, 21, 22, 23, 24, 25, 26, 27, 28, 29, 30, 31, 32, 33, 34, 35, 36, 37, 38, 39, 40, 41, 42, 43, 44, 45, 46, 47, 48, 49, 50, 51, 52, 53, 54, 55, 56, 57, 58, 59, 60, 61, 62, 63, 64, 65, 66, 67, 68, 69, 70, 71, 72, 73, 74, 75, 76, 77, 78, 79, 80, 81, 82, 83, 84, 85, 86, 87, 88, 89, 90, 91, 92, 93, 94, 95, 96, 97, 98, 99, 100, 101, 102, 103, 104, 105, 106, 107, 108, 109, 110, 111] (by decide +kernel) (by decide +kernel)) (goodIn_sub (fun _ h => List.mem_cons_of_mem _ (List.mem_append_left _ (List.mem_append_right _ h))) (by decide +kernel))) (goodIn_sub (fun _ h => List.mem_cons_of_mem _ (List.mem_append_left _ (List.mem_append_left _ (List.mem_append_right _ h)))) (by decide +kernel))) (goodIn_sub (fun _ h => List.mem_cons_of_mem _ (List.mem_append_right _ h)) (by decide +kernel))
set_option maxRecDepth 20000 in
theorem gL_joinAll_X6_joinAll : GoodIn wsL_joinAll (wsV RL 53 RX6 yX6_joinAll wsX6_joinAll) := goodIn_app (goodIn_of _ (by decide +kernel)) ggL_joinAll_X6_joinAll
theorem dL_joinAll_0 : decode cL_joinAll 0 = .ok (.aload_n 2, 1) := by decide +kernel
theorem dL_joinAll_1 : decode cL_joinAll 1 = .ok (.iconst 0, 1) := by decide +kernel
theorem dL_joinAll_2 : decode cL_joinAll 2 = .ok (.aload_n 0, 1) := by decide +kernel
theorem dL_joinAll_3 : decode cL_joinAll 3 = .ok (.iload_n 1, 1) := by decide +kernel
theorem dL_joinAll_4 : decode cL_joinAll 4 = .ok (.invokevirtual 53, 3) := by decide +kernel
theorem dL_joinAll_7 : decode cL_joinAll 7 = .ok (.i2l, 1) := by decide +kernel
theorem dL_joinAll_8 : decode cL_joinAll 8 = .ok (.lastore, 1) := by decide +kernel
theorem dL_joinAll_9 : decode cL_joinAll 9 = .ok (.goto 6, 3) := by decide +kernel
theorem dL_joinAll_12 : decode cL_joinAll 12 = .ok (.astore_n 3, 1) := by decide +kernel
theorem dL_joinAll_13 : decode cL_joinAll 13 = .ok (.iconst 1, 1) := by decide +kernel
theorem dL_joinAll_14 : decode cL_joinAll 14 = .ok (.ireturn, 1) := by decide +kernel
theorem dL_joinAll_15 : decode cL_joinAll 15 = .ok (.iconst 0, 1) := by decide +kernel
theorem dL_joinAll_16 : decode cL_joinAll 16 = .ok (.ireturn, 1) := by decide +kernel
set_option maxRecDepth 20000 in
theorem ggL_nets_X6_nets : GoodIn wsL_nets wsX6_nets := goodIn_ca (goodIn_r _ [6, 7, 8, 9, 5, 10, 11, 12, 13, 14, 15, 16, 17, 18, 19, 20, 21, 22, 23, 24, 25, 26, 27, 28, 29, 30, 31] (by decide +kernel) (by decide +kernel)) (goodIn_sub (fun _ h => List.mem_cons_of_mem _ (List.mem_append_right _ h)) (by decide +kernel))
set_option maxRecDepth 20000 in
theorem gL_nets_X6_nets : GoodIn wsL_nets (wsV RL 56 RX6 yX6_nets wsX6_nets) := goodIn_app (goodIn_of _ (by decide +kernel)) ggL_nets_X6_nets
theorem dL_nets_0 : decode cL_nets 0 = .ok (.aload_n 2, 1) := by decide +kernel
theorem dL_nets_1 : decode cL_nets 1 = .ok (.iconst 0, 1) := by decide +kernel
theorem dL_nets_2 : decode cL_nets 2 = .ok (.aload_n 0, 1) := by decide +kernel
theorem dL_nets_3 : decode cL_nets 3 = .ok (.iload_n 1, 1) := by decide +kernel
theorem dL_nets_4 : decode cL_nets 4 = .ok (.invokevirtual 56, 3) := by decide +kernel
theorem dL_nets_7 : decode cL_nets 7 = .ok (.i2l, 1) := by decide +kernel
theorem dL_nets_8 : decode cL_nets 8 = .ok (.lastore, 1) := by decide +kernel
theorem dL_nets_9 : decode cL_nets 9 = .ok (.goto 6, 3) := by decide +kernel
theorem dL_nets_12 : decode cL_nets 12 = .ok (.astore_n 3, 1) := by decide +kernel
theorem dL_nets_13 : decode cL_nets 13 = .ok (.iconst 1, 1) := by decide +kernel
theorem dL_nets_14 : decode cL_nets 14 = .ok (.ireturn, 1) := by decide +kernel
theorem dL_nets_15 : decode cL_nets 15 = .ok (.iconst 0, 1) := by decide +kernel
theorem dL_nets_16 : decode cL_nets 16 = .ok (.ireturn, 1) := by decide +kernel
set_option maxRecDepth 20000 in
theorem ggL_parts_X6_parts : GoodIn wsL_parts wsX6_parts := goodIn_ca (goodIn_r _ [6, 7, 8, 9, 5, 10, 11, 12, 13, 14, 15, 16, 17, 18, 19, 20, 21, 22, 23, 24, 25, 26, 27, 28, 29, 30, 31, 32, 33, 34, 35, 36, 37, 38, 39, 40, 41, 42, 43, 44, 45, 46, 47, 48, 49, 50] (by decide +kernel) (by decide +kernel)) (goodIn_sub (fun _ h => List.mem_cons_of_mem _ (List.mem_append_right _ h)) (by decide +kernel))
set_option maxRecDepth 20000 in
theorem gL_parts_X6_parts : GoodIn wsL_parts (wsV RL 59 RX6 yX6_parts wsX6_parts) := goodIn_app (goodIn_of _ (by decide +kernel)) ggL_parts_X6_parts
theorem dL_parts_0 : decode cL_parts 0 = .ok (.aload_n 2, 1) := by decide +kernel
theorem dL_parts_1 : decode cL_parts 1 = .ok (.iconst 0, 1) := by decide +kernel
theorem dL_parts_2 : decode cL_parts 2 = .ok (.aload_n 0, 1) := by decide +kernel
theorem dL_parts_3 : decode cL_parts 3 = .ok (.iload_n 1, 1) := by decide +kernel
theorem dL_parts_4 : decode cL_parts 4 = .ok (.invokevirtual 59, 3) := by decide +kernel
theorem dL_parts_7 : decode cL_parts 7 = .ok (.i2l, 1) := by decide +kernel
theorem dL_parts_8 : decode cL_parts 8 = .ok (.lastore, 1) := by decide +kernel
theorem dL_parts_9 : decode cL_parts 9 = .ok (.goto 6, 3) := by decide +kernel
theorem dL_parts_12 : decode cL_parts 12 = .ok (.astore_n 3, 1) := by decide +kernel
theorem dL_parts_13 : decode cL_parts 13 = .ok (.iconst 1, 1) := by decide +kernel
theorem dL_parts_14 : decode cL_parts 14 = .ok (.ireturn, 1) := by decide +kernel
theorem dL_parts_15 : decode cL_parts 15 = .ok (.iconst 0, 1) := by decide +kernel
theorem dL_parts_16 : decode cL_parts 16 = .ok (.ireturn, 1) := by decide +kernel
set_option maxRecDepth 20000 in
theorem ggL_kindOf_X6_kindOf : GoodIn wsL_kindOf wsX6_kindOf := goodIn_ca (goodIn_ca (goodIn_r _ [7, 8, 9, 10, 6, 11, 12, 13, 14, 15, 16, 17, 18, 19, 20, 21, 22, 23, 24, 25, 26, 27, 28, 29, 30, 31, 32, 33, 34, 35, 36, 37, 38, 39, 40, 41, 42, 43, 44, 45, 46, 47, 48, 49, 50, 51, 52, 53, 54, 55, 56] (by decide +kernel) (by decide +kernel)) (goodIn_sub (fun _ h => List.mem_cons_of_mem _ (List.mem_append_left _ (List.mem_append_right _ h))) (by decide +kernel))) (goodIn_sub (fun _ h => List.mem_cons_of_mem _ (List.mem_append_right _ h)) (by decide +kernel))
set_option maxRecDepth 20000 in
theorem gL_kindOf_X6_kindOf : GoodIn wsL_kindOf (wsV RL 62 RX6 yX6_kindOf wsX6_kindOf) := goodIn_app (goodIn_of _ (by decide +kernel)) ggL_kindOf_X6_kindOf
theorem dL_kindOf_0 : decode cL_kindOf 0 = .ok (.aload_n 3, 1) := by decide +kernel
theorem dL_kindOf_1 : decode cL_kindOf 1 = .ok (.iconst 0, 1) := by decide +kernel
theorem dL_kindOf_2 : decode cL_kindOf 2 = .ok (.aload_n 0, 1) := by decide +kernel
theorem dL_kindOf_3 : decode cL_kindOf 3 = .ok (.iload_n 1, 1) := by decide +kernel
theorem dL_kindOf_4 : decode cL_kindOf 4 = .ok (.iload_n 2, 1) := by decide +kernel
theorem dL_kindOf_5 : decode cL_kindOf 5 = .ok (.invokevirtual 62, 3) := by decide +kernel
theorem dL_kindOf_13 : decode cL_kindOf 13 = .ok (.astore 4, 2) := by decide +kernel
theorem dL_kindOf_15 : decode cL_kindOf 15 = .ok (.iconst 1, 1) := by decide +kernel
theorem dL_kindOf_16 : decode cL_kindOf 16 = .ok (.ireturn, 1) := by decide +kernel
theorem dL_kindOf_17 : decode cL_kindOf 17 = .ok (.astore 4, 2) := by decide +kernel
theorem dL_kindOf_19 : decode cL_kindOf 19 = .ok (.iconst 2, 1) := by decide +kernel
theorem dL_kindOf_20 : decode cL_kindOf 20 = .ok (.ireturn, 1) := by decide +kernel
set_option maxRecDepth 20000 in
theorem ggL_valueOf_X6_valueOf : GoodIn wsL_valueOf wsX6_valueOf := goodIn_ca (goodIn_ca (goodIn_r _ [7, 8, 9, 10, 6, 11, 12, 13, 14, 15, 16, 17, 18, 19, 20, 21, 22, 23, 24, 25, 26, 27, 28, 29, 30, 31, 32, 33, 34, 35, 36, 37, 38, 39, 40, 41, 42, 43, 44, 45, 46, 47, 48, 49, 50, 51, 52, 53, 54, 55, 56] (by decide +kernel) (by decide +kernel)) (goodIn_sub (fun _ h => List.mem_cons_of_mem _ (List.mem_append_left _ (List.mem_append_right _ h))) (by decide +kernel))) (goodIn_sub (fun _ h => List.mem_cons_of_mem _ (List.mem_append_right _ h)) (by decide +kernel))
set_option maxRecDepth 20000 in
theorem gL_valueOf_X6_valueOf : GoodIn wsL_valueOf (wsV RL 66 RX6 yX6_valueOf wsX6_valueOf) := goodIn_app (goodIn_of _ (by decide +kernel)) ggL_valueOf_X6_valueOf
theorem dL_valueOf_0 : decode cL_valueOf 0 = .ok (.aload_n 3, 1) := by decide +kernel
theorem dL_valueOf_1 : decode cL_valueOf 1 = .ok (.iconst 0, 1) := by decide +kernel
theorem dL_valueOf_2 : decode cL_valueOf 2 = .ok (.aload_n 0, 1) := by decide +kernel
theorem dL_valueOf_3 : decode cL_valueOf 3 = .ok (.iload_n 1, 1) := by decide +kernel
theorem dL_valueOf_4 : decode cL_valueOf 4 = .ok (.iload_n 2, 1) := by decide +kernel
theorem dL_valueOf_5 : decode cL_valueOf 5 = .ok (.invokevirtual 66, 3) := by decide +kernel
theorem dL_valueOf_13 : decode cL_valueOf 13 = .ok (.astore 4, 2) := by decide +kernel
theorem dL_valueOf_15 : decode cL_valueOf 15 = .ok (.iconst 1, 1) := by decide +kernel
theorem dL_valueOf_16 : decode cL_valueOf 16 = .ok (.ireturn, 1) := by decide +kernel
theorem dL_valueOf_17 : decode cL_valueOf 17 = .ok (.astore 4, 2) := by decide +kernel
theorem dL_valueOf_19 : decode cL_valueOf 19 = .ok (.iconst 2, 1) := by decide +kernel
theorem dL_valueOf_20 : decode cL_valueOf 20 = .ok (.ireturn, 1) := by decide +kernel
set_option maxRecDepth 20000 in
theorem ggL_netOf_X6_netOf : GoodIn wsL_netOf wsX6_netOf := goodIn_ca (goodIn_ca (goodIn_ca (goodIn_ca (goodIn_r _ [8, 9, 10, 11, 7, 12, 13, 14, 15, 16, 17, 18, 19, 20, 21, 22, 23, 24, 25, 26, 27, 28, 29, 30, 31, 32, 33, 34, 35, 36, 37, 38, 39, 40, 41, 42, 43, 44, 45, 46, 47, 48, 49, 50, 51, 52, 53, 54, 55, 56, 57, 58, 59, 60, 61, 62] (by decide +kernel) (by decide +kernel)) (goodIn_sub (fun _ h => List.mem_cons_of_mem _ (List.mem_append_left _ (List.mem_append_left _ (List.mem_append_left _ (List.mem_append_right _ h))))) (by decide +kernel))) (goodIn_sub (fun _ h => List.mem_cons_of_mem _ (List.mem_append_left _ (List.mem_append_left _ (List.mem_append_right _ h)))) (by decide +kernel))) (goodIn_sub (fun _ h => List.mem_cons_of_mem _ (List.mem_append_left _ (List.mem_append_right _ h))) (by decide +kernel))) (goodIn_sub (fun _ h => List.mem_cons_of_mem _ (List.mem_append_right _ h)) (by decide +kernel))
set_option maxRecDepth 20000 in
theorem gL_netOf_X6_netOf : GoodIn wsL_netOf (wsV RL 69 RX6 yX6_netOf wsX6_netOf) := goodIn_app (goodIn_of _ (by decide +kernel)) ggL_netOf_X6_netOf
theorem dL_netOf_0 : decode cL_netOf 0 = .ok (.aload 4, 2) := by decide +kernel
theorem dL_netOf_2 : decode cL_netOf 2 = .ok (.iconst 0, 1) := by decide +kernel
theorem dL_netOf_3 : decode cL_netOf 3 = .ok (.aload_n 0, 1) := by decide +kernel
theorem dL_netOf_4 : decode cL_netOf 4 = .ok (.iload_n 1, 1) := by decide +kernel
theorem dL_netOf_5 : decode cL_netOf 5 = .ok (.iload_n 2, 1) := by decide +kernel
theorem dL_netOf_6 : decode cL_netOf 6 = .ok (.iload_n 3, 1) := by decide +kernel
theorem dL_netOf_7 : decode cL_netOf 7 = .ok (.invokevirtual 69, 3) := by decide +kernel
theorem dL_netOf_15 : decode cL_netOf 15 = .ok (.astore 5, 2) := by decide +kernel
theorem dL_netOf_17 : decode cL_netOf 17 = .ok (.iconst 1, 1) := by decide +kernel
theorem dL_netOf_18 : decode cL_netOf 18 = .ok (.ireturn, 1) := by decide +kernel
theorem dL_netOf_19 : decode cL_netOf 19 = .ok (.astore 5, 2) := by decide +kernel
theorem dL_netOf_21 : decode cL_netOf 21 = .ok (.iconst 2, 1) := by decide +kernel
theorem dL_netOf_22 : decode cL_netOf 22 = .ok (.ireturn, 1) := by decide +kernel
set_option maxRecDepth 20000 in
theorem ggL_pinsOn_X6_pinsOn : GoodIn wsL_pinsOn wsX6_pinsOn := goodIn_ca (goodIn_ca (goodIn_ca (goodIn_r _ [7, 8, 9, 10, 6, 11, 12, 13, 14, 15, 16, 17, 18, 19, 20, 21, 22, 23, 24, 25, 26, 27, 28, 29, 30, 31, 32, 33, 34, 35, 36, 37, 38, 39, 40, 41, 42, 43, 44, 45, 46, 47, 48, 49, 50, 51, 52, 53, 54, 55, 56, 57, 58, 59, 60, 61, 62, 63, 64, 65, 66, 67] (by decide +kernel) (by decide +kernel)) (goodIn_sub (fun _ h => List.mem_cons_of_mem _ (List.mem_append_left _ (List.mem_append_right _ h))) (by decide +kernel))) (goodIn_sub (fun _ h => List.mem_cons_of_mem _ (List.mem_append_right _ h)) (by decide +kernel))) (goodIn_sub (fun _ h => List.mem_cons_of_mem _ (List.mem_append_left _ (List.mem_append_left _ (List.mem_append_right _ h)))) (by decide +kernel))
set_option maxRecDepth 20000 in
theorem gL_pinsOn_X6_pinsOn : GoodIn wsL_pinsOn (wsV RL 72 RX6 yX6_pinsOn wsX6_pinsOn) := goodIn_app (goodIn_of _ (by decide +kernel)) ggL_pinsOn_X6_pinsOn
theorem dL_pinsOn_0 : decode cL_pinsOn 0 = .ok (.aload_n 3, 1) := by decide +kernel
theorem dL_pinsOn_1 : decode cL_pinsOn 1 = .ok (.iconst 0, 1) := by decide +kernel
theorem dL_pinsOn_2 : decode cL_pinsOn 2 = .ok (.aload_n 0, 1) := by decide +kernel
theorem dL_pinsOn_3 : decode cL_pinsOn 3 = .ok (.iload_n 1, 1) := by decide +kernel
theorem dL_pinsOn_4 : decode cL_pinsOn 4 = .ok (.iload_n 2, 1) := by decide +kernel
theorem dL_pinsOn_5 : decode cL_pinsOn 5 = .ok (.invokevirtual 72, 3) := by decide +kernel
theorem dL_pinsOn_13 : decode cL_pinsOn 13 = .ok (.astore 4, 2) := by decide +kernel
theorem dL_pinsOn_15 : decode cL_pinsOn 15 = .ok (.iconst 1, 1) := by decide +kernel
theorem dL_pinsOn_16 : decode cL_pinsOn 16 = .ok (.ireturn, 1) := by decide +kernel
theorem dL_pinsOn_17 : decode cL_pinsOn 17 = .ok (.astore 4, 2) := by decide +kernel
theorem dL_pinsOn_19 : decode cL_pinsOn 19 = .ok (.iconst 2, 1) := by decide +kernel
theorem dL_pinsOn_20 : decode cL_pinsOn 20 = .ok (.ireturn, 1) := by decide +kernel
set_option maxRecDepth 20000 in
theorem ggL_portOf_X6_portOf : GoodIn wsL_portOf wsX6_portOf := goodIn_ca (goodIn_ca (goodIn_ca (goodIn_r _ [7, 8, 9, 10, 6, 11, 12, 13, 14, 15, 16, 17, 18, 19, 20, 21, 22, 23, 24, 25, 26, 27, 28, 29, 30, 31, 32, 33, 34, 35, 36, 37, 38, 39, 40, 41, 42, 43] (by decide +kernel) (by decide +kernel)) (goodIn_sub (fun _ h => List.mem_cons_of_mem _ (List.mem_append_left _ (List.mem_append_left _ (List.mem_append_right _ h)))) (by decide +kernel))) (goodIn_sub (fun _ h => List.mem_cons_of_mem _ (List.mem_append_left _ (List.mem_append_right _ h))) (by decide +kernel))) (goodIn_sub (fun _ h => List.mem_cons_of_mem _ (List.mem_append_right _ h)) (by decide +kernel))
set_option maxRecDepth 20000 in
theorem gL_portOf_X6_portOf : GoodIn wsL_portOf (wsV RL 75 RX6 yX6_portOf wsX6_portOf) := goodIn_app (goodIn_of _ (by decide +kernel)) ggL_portOf_X6_portOf
theorem dL_portOf_0 : decode cL_portOf 0 = .ok (.aload_n 3, 1) := by decide +kernel
theorem dL_portOf_1 : decode cL_portOf 1 = .ok (.iconst 0, 1) := by decide +kernel
theorem dL_portOf_2 : decode cL_portOf 2 = .ok (.aload_n 0, 1) := by decide +kernel
theorem dL_portOf_3 : decode cL_portOf 3 = .ok (.iload_n 1, 1) := by decide +kernel
theorem dL_portOf_4 : decode cL_portOf 4 = .ok (.iload_n 2, 1) := by decide +kernel
theorem dL_portOf_5 : decode cL_portOf 5 = .ok (.invokevirtual 75, 3) := by decide +kernel
theorem dL_portOf_13 : decode cL_portOf 13 = .ok (.astore 4, 2) := by decide +kernel
theorem dL_portOf_15 : decode cL_portOf 15 = .ok (.iconst 1, 1) := by decide +kernel
theorem dL_portOf_16 : decode cL_portOf 16 = .ok (.ireturn, 1) := by decide +kernel
theorem dL_portOf_17 : decode cL_portOf 17 = .ok (.astore 4, 2) := by decide +kernel
theorem dL_portOf_19 : decode cL_portOf 19 = .ok (.iconst 2, 1) := by decide +kernel
theorem dL_portOf_20 : decode cL_portOf 20 = .ok (.ireturn, 1) := by decide +kernel
set_option maxRecDepth 20000 in
theorem ggL_distance_X6_distance : GoodIn wsL_distance wsX6_distance := goodIn_ca (goodIn_ca (goodIn_ca (goodIn_r _ [7, 8, 9, 10, 6, 11, 12, 13, 14, 15, 16, 17, 18, 19, 20, 21, 22, 23, 24, 25, 26, 27, 28, 29, 30, 31, 32, 33, 34, 35, 36, 37, 38, 39, 40, 41, 42, 43, 44, 45, 46, 47, 48, 49, 50, 51, 52, 53, 54, 55, 56, 57, 58, 59, 60, 61, 62, 63, 64, 65, 66, 67, 68, 69, 70, 71, 72, 73, 74, 75] (by decide +kernel) (by decide +kernel)) (goodIn_sub (fun _ h => List.mem_cons_of_mem _ (List.mem_append_left _ (List.mem_append_left _ (List.mem_append_right _ h)))) (by decide +kernel))) (goodIn_sub (fun _ h => List.mem_cons_of_mem _ (List.mem_append_left _ (List.mem_append_right _ h))) (by decide +kernel))) (goodIn_sub (fun _ h => List.mem_cons_of_mem _ (List.mem_append_right _ h)) (by decide +kernel))
set_option maxRecDepth 20000 in
theorem gL_distance_X6_distance : GoodIn wsL_distance (wsV RL 78 RX6 yX6_distance wsX6_distance) := goodIn_app (goodIn_of _ (by decide +kernel)) ggL_distance_X6_distance
theorem dL_distance_0 : decode cL_distance 0 = .ok (.aload_n 3, 1) := by decide +kernel
theorem dL_distance_1 : decode cL_distance 1 = .ok (.iconst 0, 1) := by decide +kernel
theorem dL_distance_2 : decode cL_distance 2 = .ok (.aload_n 0, 1) := by decide +kernel
theorem dL_distance_3 : decode cL_distance 3 = .ok (.iload_n 1, 1) := by decide +kernel
theorem dL_distance_4 : decode cL_distance 4 = .ok (.iload_n 2, 1) := by decide +kernel
theorem dL_distance_5 : decode cL_distance 5 = .ok (.invokevirtual 78, 3) := by decide +kernel
theorem dL_distance_13 : decode cL_distance 13 = .ok (.astore 4, 2) := by decide +kernel
theorem dL_distance_15 : decode cL_distance 15 = .ok (.iconst 1, 1) := by decide +kernel
theorem dL_distance_16 : decode cL_distance 16 = .ok (.ireturn, 1) := by decide +kernel
theorem dL_distance_17 : decode cL_distance 17 = .ok (.astore 4, 2) := by decide +kernel
theorem dL_distance_19 : decode cL_distance 19 = .ok (.iconst 2, 1) := by decide +kernel
theorem dL_distance_20 : decode cL_distance 20 = .ok (.ireturn, 1) := by decide +kernel
set_option maxRecDepth 20000 in
theorem ggL_labelLength_X6_labelLength : GoodIn wsL_labelLength wsX6_labelLength := goodIn_ca (goodIn_ca (goodIn_ca (goodIn_r _ [7, 8, 9, 10, 6, 11, 12, 13, 14, 15, 16, 17, 18, 19, 20, 21, 22, 23, 24, 25, 26, 27, 28, 29, 30, 31, 32, 33, 34, 35, 36, 37, 38, 39, 40, 41, 42, 43, 44, 45, 46, 47, 48, 49, 50, 51, 52, 53, 54, 55, 56, 57, 58, 59, 60, 61, 62, 63, 64, 65, 66, 67] (by decide +kernel) (by decide +kernel)) (goodIn_sub (fun _ h => List.mem_cons_of_mem _ (List.mem_append_left _ (List.mem_append_right _ h))) (by decide +kernel))) (goodIn_sub (fun _ h => List.mem_cons_of_mem _ (List.mem_append_right _ h)) (by decide +kernel))) (goodIn_sub (fun _ h => List.mem_cons_of_mem _ (List.mem_append_left _ (List.mem_append_left _ (List.mem_append_right _ h)))) (by decide +kernel))
set_option maxRecDepth 20000 in
theorem gL_labelLength_X6_labelLength : GoodIn wsL_labelLength (wsV RL 81 RX6 yX6_labelLength wsX6_labelLength) := goodIn_app (goodIn_of _ (by decide +kernel)) ggL_labelLength_X6_labelLength
theorem dL_labelLength_0 : decode cL_labelLength 0 = .ok (.aload_n 3, 1) := by decide +kernel
theorem dL_labelLength_1 : decode cL_labelLength 1 = .ok (.iconst 0, 1) := by decide +kernel
theorem dL_labelLength_2 : decode cL_labelLength 2 = .ok (.aload_n 0, 1) := by decide +kernel
theorem dL_labelLength_3 : decode cL_labelLength 3 = .ok (.iload_n 1, 1) := by decide +kernel
theorem dL_labelLength_4 : decode cL_labelLength 4 = .ok (.iload_n 2, 1) := by decide +kernel
theorem dL_labelLength_5 : decode cL_labelLength 5 = .ok (.invokevirtual 81, 3) := by decide +kernel
theorem dL_labelLength_13 : decode cL_labelLength 13 = .ok (.astore 4, 2) := by decide +kernel
theorem dL_labelLength_15 : decode cL_labelLength 15 = .ok (.iconst 1, 1) := by decide +kernel
theorem dL_labelLength_16 : decode cL_labelLength 16 = .ok (.ireturn, 1) := by decide +kernel
theorem dL_labelLength_17 : decode cL_labelLength 17 = .ok (.astore 4, 2) := by decide +kernel
theorem dL_labelLength_19 : decode cL_labelLength 19 = .ok (.iconst 2, 1) := by decide +kernel
theorem dL_labelLength_20 : decode cL_labelLength 20 = .ok (.ireturn, 1) := by decide +kernel
set_option maxRecDepth 20000 in
theorem ggL_labelAt_X6_labelAt : GoodIn wsL_labelAt wsX6_labelAt := goodIn_ca (goodIn_ca (goodIn_ca (goodIn_ca (goodIn_r _ [8, 9, 10, 11, 12, 13, 7, 14, 15, 16, 17, 18, 19, 20, 21, 22, 23, 24, 25, 26, 27, 28, 29, 30, 31, 32, 33, 34, 35, 36, 37, 38, 39, 40, 41, 42, 43, 44, 45, 46, 47, 48, 49, 50, 51, 52, 53, 54, 55, 56, 57, 58, 59, 60, 61, 62, 63, 64, 65, 66, 67, 68, 69, 70] (by decide +kernel) (by decide +kernel)) (goodIn_sub (fun _ h => List.mem_cons_of_mem _ (List.mem_append_left _ (List.mem_append_left _ (List.mem_append_right _ h)))) (by decide +kernel))) (goodIn_sub (fun _ h => List.mem_cons_of_mem _ (List.mem_append_left _ (List.mem_append_left _ (List.mem_append_left _ (List.mem_append_right _ h))))) (by decide +kernel))) (goodIn_sub (fun _ h => List.mem_cons_of_mem _ (List.mem_append_left _ (List.mem_append_right _ h))) (by decide +kernel))) (goodIn_sub (fun _ h => List.mem_cons_of_mem _ (List.mem_append_right _ h)) (by decide +kernel))
set_option maxRecDepth 20000 in
theorem gL_labelAt_X6_labelAt : GoodIn wsL_labelAt (wsV RL 84 RX6 yX6_labelAt wsX6_labelAt) := goodIn_app (goodIn_of _ (by decide +kernel)) ggL_labelAt_X6_labelAt
theorem dL_labelAt_0 : decode cL_labelAt 0 = .ok (.aload 4, 2) := by decide +kernel
theorem dL_labelAt_2 : decode cL_labelAt 2 = .ok (.iconst 0, 1) := by decide +kernel
theorem dL_labelAt_3 : decode cL_labelAt 3 = .ok (.aload_n 0, 1) := by decide +kernel
theorem dL_labelAt_4 : decode cL_labelAt 4 = .ok (.iload_n 1, 1) := by decide +kernel
theorem dL_labelAt_5 : decode cL_labelAt 5 = .ok (.iload_n 2, 1) := by decide +kernel
theorem dL_labelAt_6 : decode cL_labelAt 6 = .ok (.iload_n 3, 1) := by decide +kernel
theorem dL_labelAt_7 : decode cL_labelAt 7 = .ok (.invokevirtual 84, 3) := by decide +kernel
theorem dL_labelAt_15 : decode cL_labelAt 15 = .ok (.astore 5, 2) := by decide +kernel
theorem dL_labelAt_17 : decode cL_labelAt 17 = .ok (.iconst 1, 1) := by decide +kernel
theorem dL_labelAt_18 : decode cL_labelAt 18 = .ok (.ireturn, 1) := by decide +kernel
theorem dL_labelAt_19 : decode cL_labelAt 19 = .ok (.astore 5, 2) := by decide +kernel
theorem dL_labelAt_21 : decode cL_labelAt 21 = .ok (.iconst 2, 1) := by decide +kernel
theorem dL_labelAt_22 : decode cL_labelAt 22 = .ok (.ireturn, 1) := by decide +kernel
set_option maxRecDepth 20000 in
theorem ggL_netsLike_X6_netsLike : GoodIn wsL_netsLike wsX6_netsLike := goodIn_ca (goodIn_ca (goodIn_ca (goodIn_r _ [7, 8, 9, 10, 11, 6, 12, 13, 14, 15, 16, 17, 18, 19, 20, 21, 22, 23, 24, 25, 26, 27, 28, 29, 30, 31, 32, 33, 34, 35, 36, 37, 38, 39, 40, 41, 42, 43, 44, 45, 46, 47, 48, 49, 50, 51, 52, 53, 54, 55, 56, 57, 58, 59, 60, 61, 62, 63, 64, 65, 66, 67, 68, 69, 70, 71, 72, 73, 74, 75, 76, 77, 78, 79, 80, 81, 82, 83, 84, 85, 86, 87, 88, 89, 90, 91, 92, 93, 94, 95, 96, 97, 98, 99, 100, 101, 102, 103, 104, 105, 106, 107, 108, 109, 110, 111, 112, 113, 114, 115, 116, 117, 118, 119, 120, 121, 122, 123, 124, 125, 126, 127, 128, 129, 130, 131, 132, 133, 134, 135, 136, 137, 138, 139, 140, 141, 142, 143, 144, 145, 146, 147, 148, 149, 150, 151, 152, 153, 154, 155, 156, 157, 158, 159, 160, 161, 162, 163, 164, 165, 166, 167, 168, 169, 170, 171, 172, 173, 174, 175, 176, 177, 178, 179, 180, 181, 182, 183, 184, 185, 186, 187, 188, 189, 190, 191, 192, 193, 194, 195, 196, 197, 198] (by decide +kernel) (by decide +kernel)) (goodIn_sub (fun _ h => List.mem_cons_of_mem _ (List.mem_append_left _ (List.mem_append_left _ (List.mem_append_right _ h)))) (by decide +kernel))) (goodIn_sub (fun _ h => List.mem_cons_of_mem _ (List.mem_append_left _ (List.mem_append_right _ h))) (by decide +kernel))) (goodIn_sub (fun _ h => List.mem_cons_of_mem _ (List.mem_append_right _ h)) (by decide +kernel))
set_option maxRecDepth 20000 in
theorem gL_netsLike_X6_netsLike : GoodIn wsL_netsLike (wsV RL 87 RX6 yX6_netsLike wsX6_netsLike) := goodIn_app (goodIn_of _ (by decide +kernel)) ggL_netsLike_X6_netsLike
theorem dL_netsLike_0 : decode cL_netsLike 0 = .ok (.aload 4, 2) := by decide +kernel
theorem dL_netsLike_2 : decode cL_netsLike 2 = .ok (.iconst 0, 1) := by decide +kernel
theorem dL_netsLike_3 : decode cL_netsLike 3 = .ok (.aload_n 0, 1) := by decide +kernel
theorem dL_netsLike_4 : decode cL_netsLike 4 = .ok (.iload_n 1, 1) := by decide +kernel
theorem dL_netsLike_5 : decode cL_netsLike 5 = .ok (.iload_n 2, 1) := by decide +kernel
theorem dL_netsLike_6 : decode cL_netsLike 6 = .ok (.iload_n 3, 1) := by decide +kernel
theorem dL_netsLike_7 : decode cL_netsLike 7 = .ok (.invokevirtual 87, 3) := by decide +kernel
theorem dL_netsLike_15 : decode cL_netsLike 15 = .ok (.astore 5, 2) := by decide +kernel
theorem dL_netsLike_17 : decode cL_netsLike 17 = .ok (.iconst 1, 1) := by decide +kernel
theorem dL_netsLike_18 : decode cL_netsLike 18 = .ok (.ireturn, 1) := by decide +kernel
theorem dL_netsLike_19 : decode cL_netsLike 19 = .ok (.astore 5, 2) := by decide +kernel
theorem dL_netsLike_21 : decode cL_netsLike 21 = .ok (.iconst 2, 1) := by decide +kernel
theorem dL_netsLike_22 : decode cL_netsLike 22 = .ok (.ireturn, 1) := by decide +kernel
set_option maxRecDepth 20000 in
theorem ggL_partsLike_X6_partsLike : GoodIn wsL_partsLike wsX6_partsLike := goodIn_ca (goodIn_ca (goodIn_ca (goodIn_r _ [7, 8, 9, 10, 11, 6, 12, 13, 14, 15, 16, 17, 18, 19, 20, 21, 22, 23, 24, 25, 26, 27, 28, 29, 30, 31, 32, 33, 34, 35, 36, 37, 38, 39, 40, 41, 42, 43, 44, 45, 46, 47, 48, 49, 50, 51, 52, 53, 54, 55, 56, 57, 58, 59, 60, 61, 62, 63, 64, 65, 66, 67, 68, 69, 70, 71, 72, 73, 74, 75, 76, 77, 78, 79, 80, 81, 82, 83, 84, 85, 86, 87, 88, 89, 90, 91, 92, 93, 94, 95, 96, 97, 98, 99, 100, 101, 102, 103, 104, 105, 106, 107, 108, 109, 110, 111, 112, 113, 114, 115, 116, 117, 118, 119, 120, 121, 122, 123, 124, 125, 126, 127, 128, 129, 130, 131, 132, 133, 134, 135, 136, 137, 138, 139, 140, 141, 142, 143, 144, 145, 146, 147, 148, 149, 150, 151, 152, 153, 154, 155, 156, 157, 158, 159, 160, 161, 162, 163, 164, 165, 166, 167, 168, 169, 170, 171, 172, 173, 174, 175, 176, 177, 178, 179, 180, 181, 182, 183, 184, 185, 186, 187, 188, 189, 190, 191, 192, 193, 194, 195, 196, 197, 198] (by decide +kernel) (by decide +kernel)) (goodIn_sub (fun _ h => List.mem_cons_of_mem _ (List.mem_append_left _ (List.mem_append_left _ (List.mem_append_right _ h)))) (by decide +kernel))) (goodIn_sub (fun _ h => List.mem_cons_of_mem _ (List.mem_append_left _ (List.mem_append_right _ h))) (by decide +kernel))) (goodIn_sub (fun _ h => List.mem_cons_of_mem _ (List.mem_append_right _ h)) (by decide +kernel))
set_option maxRecDepth 20000 in
theorem gL_partsLike_X6_partsLike : GoodIn wsL_partsLike (wsV RL 90 RX6 yX6_partsLike wsX6_partsLike) := goodIn_app (goodIn_of _ (by decide +kernel)) ggL_partsLike_X6_partsLike
theorem dL_partsLike_0 : decode cL_partsLike 0 = .ok (.aload 4, 2) := by decide +kernel
theorem dL_partsLike_2 : decode cL_partsLike 2 = .ok (.iconst 0, 1) := by decide +kernel
theorem dL_partsLike_3 : decode cL_partsLike 3 = .ok (.aload_n 0, 1) := by decide +kernel
theorem dL_partsLike_4 : decode cL_partsLike 4 = .ok (.iload_n 1, 1) := by decide +kernel
theorem dL_partsLike_5 : decode cL_partsLike 5 = .ok (.iload_n 2, 1) := by decide +kernel
theorem dL_partsLike_6 : decode cL_partsLike 6 = .ok (.iload_n 3, 1) := by decide +kernel
theorem dL_partsLike_7 : decode cL_partsLike 7 = .ok (.invokevirtual 90, 3) := by decide +kernel
theorem dL_partsLike_15 : decode cL_partsLike 15 = .ok (.astore 5, 2) := by decide +kernel
theorem dL_partsLike_17 : decode cL_partsLike 17 = .ok (.iconst 1, 1) := by decide +kernel
theorem dL_partsLike_18 : decode cL_partsLike 18 = .ok (.ireturn, 1) := by decide +kernel
theorem dL_partsLike_19 : decode cL_partsLike 19 = .ok (.astore 5, 2) := by decide +kernel
theorem dL_partsLike_21 : decode cL_partsLike 21 = .ok (.iconst 2, 1) := by decide +kernel
theorem dL_partsLike_22 : decode cL_partsLike 22 = .ok (.ireturn, 1) := by decide +kernel
set_option maxRecDepth 20000 in
theorem ggL_areAlike_X6_areAlike : GoodIn wsL_areAlike wsX6_areAlike := goodIn_ca (goodIn_ca (goodIn_r _ [6, 7, 8, 9, 10, 11, 5, 12, 13, 14, 15, 16, 17, 18, 19, 20, 21, 22, 23, 24, 25, 26, 27, 28, 29, 30, 31, 32, 33, 34, 35, 36, 37, 38, 39, 40, 41, 42, 43, 44, 45, 46, 47, 48, 49, 50, 51, 52, 53, 54, 55, 56, 57, 58, 59, 60, 61, 62, 63, 64, 65, 66, 67, 68, 69, 70, 71, 72, 73, 74, 75, 76, 77, 78, 79, 80, 81, 82, 83, 84, 85, 86, 87, 88, 89, 90, 91, 92, 93, 94, 95, 96, 97, 98, 99, 100, 101, 102, 103, 104, 105, 106, 107, 108, 109, 110, 111, 112, 113, 114, 115, 116, 117, 118, 119, 120, 121, 122, 123, 124, 125, 126, 127, 128, 129, 130, 131, 132, 133, 134, 135, 136, 137, 138, 139, 140, 141, 142, 143, 144, 145, 146, 147, 148, 149, 150, 151, 152, 153, 154, 155, 156, 157, 158, 159, 160, 161, 162, 163, 164, 165, 166, 167, 168, 169, 170, 171, 172, 173, 174, 175, 176, 177, 178, 179, 180, 181, 182, 183, 184, 185, 186, 187, 188, 189, 190] (by decide +kernel) (by decide +kernel)) (goodIn_sub (fun _ h => List.mem_cons_of_mem _ (List.mem_append_right _ h)) (by decide +kernel))) (goodIn_sub (fun _ h => List.mem_cons_of_mem _ (List.mem_append_left _ (List.mem_append_right _ h))) (by decide +kernel))
set_option maxRecDepth 20000 in
theorem gL_areAlike_X6_areAlike : GoodIn wsL_areAlike (wsV RL 93 RX6 yX6_areAlike wsX6_areAlike) := goodIn_app (goodIn_of _ (by decide +kernel)) ggL_areAlike_X6_areAlike
theorem dL_areAlike_0 : decode cL_areAlike 0 = .ok (.aload_n 3, 1) := by decide +kernel
theorem dL_areAlike_1 : decode cL_areAlike 1 = .ok (.iconst 0, 1) := by decide +kernel
theorem dL_areAlike_2 : decode cL_areAlike 2 = .ok (.aload_n 0, 1) := by decide +kernel
theorem dL_areAlike_3 : decode cL_areAlike 3 = .ok (.iload_n 1, 1) := by decide +kernel
theorem dL_areAlike_4 : decode cL_areAlike 4 = .ok (.iload_n 2, 1) := by decide +kernel
theorem dL_areAlike_5 : decode cL_areAlike 5 = .ok (.invokevirtual 93, 3) := by decide +kernel
theorem dL_areAlike_20 : decode cL_areAlike 20 = .ok (.astore 4, 2) := by decide +kernel
theorem dL_areAlike_22 : decode cL_areAlike 22 = .ok (.iconst 1, 1) := by decide +kernel
theorem dL_areAlike_23 : decode cL_areAlike 23 = .ok (.ireturn, 1) := by decide +kernel
set_option maxRecDepth 20000 in
theorem ggL_isMatchedByTrying_X6_isMatchedByTrying : GoodIn wsL_isMatchedByTrying wsX6_isMatchedByTrying := goodIn_ca (goodIn_ca (goodIn_r _ [6, 7, 8, 9, 10, 5, 11, 12, 13, 14, 15, 16, 17, 18, 19, 20, 21, 22, 23, 24, 25, 26, 27, 28, 29, 30, 31, 32, 33, 34, 35, 36, 37, 38, 39, 40, 41, 42, 43, 44, 45, 46, 47, 48, 49, 50, 51, 52, 53, 54, 55, 56, 57, 58, 59, 60, 61, 62, 63, 64, 65, 66, 67, 68, 69, 70, 71, 72, 73, 74, 75, 76, 77, 78, 79, 80, 81, 82, 83, 84, 85, 86, 87, 88, 89, 90, 91, 92, 93, 94, 95, 96, 97, 98, 99, 100, 101, 102, 103, 104, 105, 106, 107] (by decide +kernel) (by decide +kernel)) (goodIn_sub (fun _ h => List.mem_cons_of_mem _ (List.mem_append_right _ h)) (by decide +kernel))) (goodIn_sub (fun _ h => List.mem_cons_of_mem _ (List.mem_append_left _ (List.mem_append_right _ h))) (by decide +kernel))
set_option maxRecDepth 20000 in
theorem gL_isMatchedByTrying_X6_isMatchedByTrying : GoodIn wsL_isMatchedByTrying (wsV RL 97 RX6 yX6_isMatchedByTrying wsX6_isMatchedByTrying) := goodIn_app (goodIn_of _ (by decide +kernel)) ggL_isMatchedByTrying_X6_isMatchedByTrying
theorem dL_isMatchedByTrying_0 : decode cL_isMatchedByTrying 0 = .ok (.aload_n 1, 1) := by decide +kernel
theorem dL_isMatchedByTrying_1 : decode cL_isMatchedByTrying 1 = .ok (.iconst 0, 1) := by decide +kernel
theorem dL_isMatchedByTrying_2 : decode cL_isMatchedByTrying 2 = .ok (.aload_n 0, 1) := by decide +kernel
theorem dL_isMatchedByTrying_3 : decode cL_isMatchedByTrying 3 = .ok (.invokevirtual 97, 3) := by decide +kernel
theorem dL_isMatchedByTrying_6 : decode cL_isMatchedByTrying 6 = .ok (.ifCond .eq 7, 3) := by decide +kernel
theorem dL_isMatchedByTrying_9 : decode cL_isMatchedByTrying 9 = .ok (.lconst 1, 1) := by decide +kernel
theorem dL_isMatchedByTrying_10 : decode cL_isMatchedByTrying 10 = .ok (.goto 4, 3) := by decide +kernel
theorem dL_isMatchedByTrying_14 : decode cL_isMatchedByTrying 14 = .ok (.lastore, 1) := by decide +kernel
theorem dL_isMatchedByTrying_15 : decode cL_isMatchedByTrying 15 = .ok (.goto 6, 3) := by decide +kernel
theorem dL_isMatchedByTrying_21 : decode cL_isMatchedByTrying 21 = .ok (.iconst 0, 1) := by decide +kernel
theorem dL_isMatchedByTrying_22 : decode cL_isMatchedByTrying 22 = .ok (.ireturn, 1) := by decide +kernel
set_option maxRecDepth 20000 in
theorem ggL_matchedNet_X6_matchedNet : GoodIn wsL_matchedNet wsX6_matchedNet := goodIn_ca (goodIn_ca (goodIn_ca (goodIn_r _ [7, 8, 9, 10, 11, 6, 12, 13, 14, 15, 16, 17, 18, 19, 20, 21, 22, 23, 24, 25, 26, 27, 28, 29, 30, 31, 32, 33, 34, 35, 36, 37, 38, 39, 40, 41, 42, 43, 44, 45, 46, 47, 48, 49, 50, 51, 52, 53, 54, 55, 56, 57, 58, 59, 60, 61, 62, 63, 64, 65, 66, 67, 68, 69, 70, 71, 72, 73, 74, 75, 76, 77, 78, 79, 80, 81, 82, 83, 84, 85, 86, 87, 88, 89, 90, 91, 92, 93, 94, 95, 96, 97, 98, 99, 100, 101, 102, 103, 104, 105, 106, 107, 108, 109, 110, 111, 112, 113, 114, 115, 116, 117, 118, 119, 120, 121, 122, 123, 124, 125, 126, 127, 128, 129, 130, 131, 132, 133, 134, 135, 136, 137, 138, 139, 140, 141, 142, 143, 144, 145, 146, 147, 148, 149, 150, 151, 152, 153, 154, 155, 156, 157, 158, 159, 160, 161, 162, 163, 164, 165, 166, 167, 168, 169, 170, 171, 172, 173, 174, 175, 176, 177, 178, 179, 180, 181, 182, 183, 184, 185, 186, 187, 188, 189, 190, 191, 192, 193, 194, 195, 196, 197, 198, 199, 200, 201, 202, 203, 204, 205, 206, 207, 208, 209, 210, 211, 212, 213, 214, 215, 216, 217, 218, 219, 220, 221, 222, 223, 224, 225, 226, 227, 228, 229, 230, 231, 232, 233, 234, 235, 236, 237, 238, 239, 240, 241, 242, 243, 244, 245, 246, 247, 248, 249, 250, 251, 252] (by decide +kernel) (by decide +kernel)) (goodIn_sub (fun _ h => List.mem_cons_of_mem _ (List.mem_append_left _ (List.mem_append_left _ (List.mem_append_right _ h)))) (by decide +kernel))) (goodIn_sub (fun _ h => List.mem_cons_of_mem _ (List.mem_append_left _ (List.mem_append_right _ h))) (by decide +kernel))) (goodIn_sub (fun _ h => List.mem_cons_of_mem _ (List.mem_append_right _ h)) (by decide +kernel))
set_option maxRecDepth 20000 in
theorem gL_matchedNet_X6_matchedNet : GoodIn wsL_matchedNet (wsV RL 101 RX6 yX6_matchedNet wsX6_matchedNet) := goodIn_app (goodIn_of _ (by decide +kernel)) ggL_matchedNet_X6_matchedNet
theorem dL_matchedNet_0 : decode cL_matchedNet 0 = .ok (.aload_n 2, 1) := by decide +kernel
theorem dL_matchedNet_1 : decode cL_matchedNet 1 = .ok (.iconst 0, 1) := by decide +kernel
theorem dL_matchedNet_2 : decode cL_matchedNet 2 = .ok (.aload_n 0, 1) := by decide +kernel
theorem dL_matchedNet_3 : decode cL_matchedNet 3 = .ok (.iload_n 1, 1) := by decide +kernel
theorem dL_matchedNet_4 : decode cL_matchedNet 4 = .ok (.invokevirtual 101, 3) := by decide +kernel
theorem dL_matchedNet_12 : decode cL_matchedNet 12 = .ok (.astore_n 3, 1) := by decide +kernel
theorem dL_matchedNet_13 : decode cL_matchedNet 13 = .ok (.iconst 1, 1) := by decide +kernel
theorem dL_matchedNet_14 : decode cL_matchedNet 14 = .ok (.ireturn, 1) := by decide +kernel
set_option maxRecDepth 20000 in
theorem ggL_netByTrying_X6_netByTrying : GoodIn wsL_netByTrying wsX6_netByTrying := goodIn_ca (goodIn_ca (goodIn_ca (goodIn_ca (goodIn_r _ [8, 9, 10, 11, 12, 7, 13, 14, 15, 16, 17, 18, 19, 20, 21, 22, 23, 24, 25, 26, 27, 28, 29, 30, 31, 32, 33, 34, 35, 36, 37, 38, 39, 40, 41, 42, 43, 44, 45, 46, 47, 48, 49, 50, 51, 52, 53, 54, 55, 56, 57, 58, 59, 60, 61, 62, 63, 64, 65, 66, 67, 68, 69, 70, 71, 72, 73, 74, 75, 76, 77, 78, 79, 80, 81, 82, 83, 84, 85, 86, 87, 88, 89, 90, 91, 92, 93, 94, 95, 96, 97, 98, 99, 100, 101, 102, 103, 104, 105, 106, 107, 108, 109, 110, 111, 112, 113, 114, 115, 116, 117, 118, 119, 120, 121, 122, 123, 124] (by decide +kernel) (by decide +kernel)) (goodIn_sub (fun _ h => List.mem_cons_of_mem _ (List.mem_append_left _ (List.mem_append_left _ (List.mem_append_left _ (List.mem_append_right _ h))))) (by decide +kernel))) (goodIn_sub (fun _ h => List.mem_cons_of_mem _ (List.mem_append_left _ (List.mem_append_left _ (List.mem_append_right _ h)))) (by decide +kernel))) (goodIn_sub (fun _ h => List.mem_cons_of_mem _ (List.mem_append_left _ (List.mem_append_right _ h))) (by decide +kernel))) (goodIn_sub (fun _ h => List.mem_cons_of_mem _ (List.mem_append_right _ h)) (by decide +kernel))
set_option maxRecDepth 20000 in
theorem gL_netByTrying_X6_netByTrying : GoodIn wsL_netByTrying (wsV RL 104 RX6 yX6_netByTrying wsX6_netByTrying) := goodIn_app (goodIn_of _ (by decide +kernel)) ggL_netByTrying_X6_netByTrying
theorem dL_netByTrying_0 : decode cL_netByTrying 0 = .ok (.aload_n 2, 1) := by decide +kernel
theorem dL_netByTrying_1 : decode cL_netByTrying 1 = .ok (.iconst 0, 1) := by decide +kernel
theorem dL_netByTrying_2 : decode cL_netByTrying 2 = .ok (.aload_n 0, 1) := by decide +kernel
theorem dL_netByTrying_3 : decode cL_netByTrying 3 = .ok (.iload_n 1, 1) := by decide +kernel
theorem dL_netByTrying_4 : decode cL_netByTrying 4 = .ok (.invokevirtual 104, 3) := by decide +kernel
theorem dL_netByTrying_12 : decode cL_netByTrying 12 = .ok (.astore_n 3, 1) := by decide +kernel
theorem dL_netByTrying_13 : decode cL_netByTrying 13 = .ok (.iconst 1, 1) := by decide +kernel
theorem dL_netByTrying_14 : decode cL_netByTrying 14 = .ok (.ireturn, 1) := by decide +kernel
set_option maxRecDepth 20000 in
theorem ggL_matchedPart_X6_matchedPart : GoodIn wsL_matchedPart wsX6_matchedPart := goodIn_ca (goodIn_ca (goodIn_ca (goodIn_r _ [7, 8, 9, 10, 11, 6, 12, 13, 14, 15, 16, 17, 18, 19, 20, 21, 22, 23, 24, 25, 26, 27, 28, 29, 30, 31, 32, 33, 34, 35, 36, 37, 38, 39, 40, 41, 42, 43, 44, 45, 46, 47, 48, 49, 50, 51, 52, 53, 54, 55, 56, 57, 58, 59, 60, 61, 62, 63, 64, 65, 66, 67, 68, 69, 70, 71, 72, 73, 74, 75, 76, 77, 78, 79, 80, 81, 82, 83, 84, 85, 86, 87, 88, 89, 90, 91, 92, 93, 94, 95, 96, 97, 98, 99, 100, 101, 102, 103, 104, 105, 106, 107, 108, 109, 110, 111, 112, 113, 114, 115, 116, 117, 118, 119, 120, 121, 122, 123, 124, 125, 126, 127, 128, 129, 130, 131, 132, 133, 134, 135, 136, 137, 138, 139, 140, 141, 142, 143, 144, 145, 146, 147, 148, 149, 150, 151, 152, 153, 154, 155, 156, 157, 158, 159, 160, 161, 162, 163, 164, 165, 166, 167, 168, 169, 170, 171, 172, 173, 174, 175, 176, 177, 178, 179, 180, 181, 182, 183, 184, 185, 186, 187, 188, 189, 190, 191, 192, 193, 194, 195, 196, 197, 198, 199, 200, 201, 202, 203, 204, 205, 206, 207, 208, 209, 210, 211, 212, 213, 214, 215, 216, 217, 218, 219, 220, 221, 222, 223, 224, 225, 226, 227, 228, 229, 230, 231, 232, 233, 234, 235, 236, 237, 238, 239, 240, 241, 242, 243, 244, 245, 246, 247, 248, 249, 250, 251, 252] (by decide +kernel) (by decide +kernel)) (goodIn_sub (fun _ h => List.mem_cons_of_mem _ (List.mem_append_left _ (List.mem_append_left _ (List.mem_append_right _ h)))) (by decide +kernel))) (goodIn_sub (fun _ h => List.mem_cons_of_mem _ (List.mem_append_left _ (List.mem_append_right _ h))) (by decide +kernel))) (goodIn_sub (fun _ h => List.mem_cons_of_mem _ (List.mem_append_right _ h)) (by decide +kernel))
set_option maxRecDepth 20000 in
theorem gL_matchedPart_X6_matchedPart : GoodIn wsL_matchedPart (wsV RL 107 RX6 yX6_matchedPart wsX6_matchedPart) := goodIn_app (goodIn_of _ (by decide +kernel)) ggL_matchedPart_X6_matchedPart
theorem dL_matchedPart_0 : decode cL_matchedPart 0 = .ok (.aload_n 2, 1) := by decide +kernel
theorem dL_matchedPart_1 : decode cL_matchedPart 1 = .ok (.iconst 0, 1) := by decide +kernel
theorem dL_matchedPart_2 : decode cL_matchedPart 2 = .ok (.aload_n 0, 1) := by decide +kernel
theorem dL_matchedPart_3 : decode cL_matchedPart 3 = .ok (.iload_n 1, 1) := by decide +kernel
theorem dL_matchedPart_4 : decode cL_matchedPart 4 = .ok (.invokevirtual 107, 3) := by decide +kernel
theorem dL_matchedPart_12 : decode cL_matchedPart 12 = .ok (.astore_n 3, 1) := by decide +kernel
theorem dL_matchedPart_13 : decode cL_matchedPart 13 = .ok (.iconst 1, 1) := by decide +kernel
theorem dL_matchedPart_14 : decode cL_matchedPart 14 = .ok (.ireturn, 1) := by decide +kernel
set_option maxRecDepth 20000 in
theorem ggL_matchedPin_X6_matchedPin : GoodIn wsL_matchedPin wsX6_matchedPin := goodIn_ca (goodIn_ca (goodIn_ca (goodIn_ca (goodIn_r _ [8, 9, 10, 11, 12, 7, 13, 14, 15, 16, 17, 18, 19, 20, 21, 22, 23, 24, 25, 26, 27, 28, 29, 30, 31, 32, 33, 34, 35, 36, 37, 38, 39, 40, 41, 42, 43, 44, 45, 46, 47, 48, 49, 50, 51, 52, 53, 54, 55, 56, 57, 58, 59, 60, 61, 62, 63, 64, 65, 66, 67, 68, 69, 70, 71, 72, 73, 74, 75, 76, 77, 78, 79, 80, 81, 82, 83, 84, 85, 86, 87, 88, 89, 90, 91, 92, 93, 94, 95, 96, 97, 98, 99, 100, 101, 102, 103, 104, 105, 106, 107, 108, 109, 110, 111, 112, 113, 114, 115, 116, 117, 118, 119, 120, 121, 122, 123, 124, 125, 126, 127, 128, 129, 130, 131, 132, 133, 134, 135, 136, 137, 138, 139, 140, 141, 142, 143, 144, 145, 146, 147, 148, 149, 150, 151, 152, 153, 154, 155, 156, 157, 158, 159, 160, 161, 162, 163, 164, 165, 166, 167, 168, 169, 170, 171, 172, 173, 174, 175, 176, 177, 178, 179, 180, 181, 182, 183, 184, 185, 186, 187, 188, 189, 190, 191, 192, 193, 194, 195, 196, 197, 198, 199, 200, 201, 202, 203, 204, 205, 206, 207, 208, 209, 210, 211, 212, 213, 214, 215, 216, 217, 218, 219, 220, 221, 222, 223, 224, 225, 226, 227, 228, 229, 230, 231, 232, 233, 234, 235, 236, 237, 238, 239, 240, 241, 242, 243, 244, 245, 246, 247, 248, 249, 250, 251, 252, 253, 254, 255, 256, 257, 258, 259, 260, 261, 262] (by decide +kernel) (by decide +kernel)) (goodIn_sub (fun _ h => List.mem_cons_of_mem _ (List.mem_append_left _ (List.mem_append_left _ (List.mem_append_right _ h)))) (by decide +kernel))) (goodIn_sub (fun _ h => List.mem_cons_of_mem _ (List.mem_append_left _ (List.mem_append_right _ h))) (by decide +kernel))) (goodIn_sub (fun _ h => List.mem_cons_of_mem _ (List.mem_append_left _ (List.mem_append_left _ (List.mem_append_left _ (List.mem_append_right _ h))))) (by decide +kernel))) (goodIn_sub (fun _ h => List.mem_cons_of_mem _ (List.mem_append_right _ h)) (by decide +kernel))
set_option maxRecDepth 20000 in
theorem gL_matchedPin_X6_matchedPin : GoodIn wsL_matchedPin (wsV RL 110 RX6 yX6_matchedPin wsX6_matchedPin) := goodIn_app (goodIn_of _ (by decide +kernel)) ggL_matchedPin_X6_matchedPin
theorem dL_matchedPin_0 : decode cL_matchedPin 0 = .ok (.aload_n 3, 1) := by decide +kernel
theorem dL_matchedPin_1 : decode cL_matchedPin 1 = .ok (.iconst 0, 1) := by decide +kernel
theorem dL_matchedPin_2 : decode cL_matchedPin 2 = .ok (.aload_n 0, 1) := by decide +kernel
theorem dL_matchedPin_3 : decode cL_matchedPin 3 = .ok (.iload_n 1, 1) := by decide +kernel
theorem dL_matchedPin_4 : decode cL_matchedPin 4 = .ok (.iload_n 2, 1) := by decide +kernel
theorem dL_matchedPin_5 : decode cL_matchedPin 5 = .ok (.invokevirtual 110, 3) := by decide +kernel
theorem dL_matchedPin_13 : decode cL_matchedPin 13 = .ok (.astore 4, 2) := by decide +kernel
theorem dL_matchedPin_15 : decode cL_matchedPin 15 = .ok (.iconst 1, 1) := by decide +kernel
theorem dL_matchedPin_16 : decode cL_matchedPin 16 = .ok (.ireturn, 1) := by decide +kernel
set_option maxRecDepth 20000 in
theorem ggL_differenceKind_X6_differenceKind : GoodIn wsL_differenceKind wsX6_differenceKind := goodIn_ca (goodIn_ca (goodIn_r _ [6, 7, 8, 9, 10, 5, 11, 12, 13, 14, 15, 16, 17, 18, 19, 20, 21, 22, 23, 24, 25, 26, 27, 28, 29, 30, 31, 32, 33, 34, 35, 36, 37, 38, 39, 40, 41, 42, 43, 44, 45, 46, 47, 48, 49, 50, 51, 52, 53, 54, 55, 56, 57, 58, 59, 60, 61, 62, 63, 64, 65, 66, 67, 68, 69, 70, 71, 72, 73, 74, 75, 76, 77, 78, 79, 80, 81, 82, 83, 84, 85, 86, 87, 88, 89, 90, 91, 92, 93, 94, 95, 96, 97, 98, 99, 100, 101, 102, 103, 104, 105, 106, 107, 108, 109, 110, 111, 112, 113, 114, 115, 116, 117, 118, 119, 120, 121, 122, 123, 124, 125, 126, 127, 128, 129, 130, 131, 132, 133, 134, 135, 136, 137, 138, 139, 140, 141, 142, 143, 144, 145, 146, 147, 148, 149, 150, 151, 152, 153, 154, 155, 156, 157, 158, 159, 160, 161, 162, 163, 164, 165, 166, 167, 168, 169, 170, 171, 172, 173, 174, 175, 176, 177, 178, 179, 180, 181, 182, 183, 184, 185, 186, 187] (by decide +kernel) (by decide +kernel)) (goodIn_sub (fun _ h => List.mem_cons_of_mem _ (List.mem_append_right _ h)) (by decide +kernel))) (goodIn_sub (fun _ h => List.mem_cons_of_mem _ (List.mem_append_left _ (List.mem_append_right _ h))) (by decide +kernel))
set_option maxRecDepth 20000 in
theorem gL_differenceKind_X6_differenceKind : GoodIn wsL_differenceKind (wsV RL 113 RX6 yX6_differenceKind wsX6_differenceKind) := goodIn_app (goodIn_of _ (by decide +kernel)) ggL_differenceKind_X6_differenceKind
theorem dL_differenceKind_0 : decode cL_differenceKind 0 = .ok (.aload_n 2, 1) := by decide +kernel
theorem dL_differenceKind_1 : decode cL_differenceKind 1 = .ok (.iconst 0, 1) := by decide +kernel
theorem dL_differenceKind_2 : decode cL_differenceKind 2 = .ok (.aload_n 0, 1) := by decide +kernel
theorem dL_differenceKind_3 : decode cL_differenceKind 3 = .ok (.iload_n 1, 1) := by decide +kernel
theorem dL_differenceKind_4 : decode cL_differenceKind 4 = .ok (.invokevirtual 113, 3) := by decide +kernel
theorem dL_differenceKind_12 : decode cL_differenceKind 12 = .ok (.astore_n 3, 1) := by decide +kernel
theorem dL_differenceKind_13 : decode cL_differenceKind 13 = .ok (.iconst 1, 1) := by decide +kernel
theorem dL_differenceKind_14 : decode cL_differenceKind 14 = .ok (.ireturn, 1) := by decide +kernel
set_option maxRecDepth 20000 in
theorem ggL_differenceMember_X6_differenceMember : GoodIn wsL_differenceMember wsX6_differenceMember := goodIn_ca (goodIn_ca (goodIn_r _ [6, 7, 8, 9, 10, 5, 11, 12, 13, 14, 15, 16, 17, 18, 19, 20, 21, 22, 23, 24, 25, 26, 27, 28, 29, 30, 31, 32, 33, 34, 35, 36, 37, 38, 39, 40, 41, 42, 43, 44, 45, 46, 47, 48, 49, 50, 51, 52, 53, 54, 55, 56, 57, 58, 59, 60, 61, 62, 63, 64, 65, 66, 67, 68, 69, 70, 71, 72, 73, 74, 75, 76, 77, 78, 79, 80, 81, 82, 83, 84, 85, 86, 87, 88, 89, 90, 91, 92, 93, 94, 95, 96, 97, 98, 99, 100, 101, 102, 103, 104, 105, 106, 107, 108, 109, 110, 111, 112, 113, 114, 115, 116, 117, 118, 119, 120, 121, 122, 123, 124, 125, 126, 127, 128, 129, 130, 131, 132, 133, 134, 135, 136, 137, 138, 139, 140, 141, 142, 143, 144, 145, 146, 147, 148, 149, 150, 151, 152, 153, 154, 155, 156, 157, 158, 159, 160, 161, 162, 163, 164, 165, 166, 167, 168, 169, 170, 171, 172, 173, 174, 175, 176, 177, 178, 179, 180, 181, 182, 183, 184, 185, 186, 187] (by decide +kernel) (by decide +kernel)) (goodIn_sub (fun _ h => List.mem_cons_of_mem _ (List.mem_append_right _ h)) (by decide +kernel))) (goodIn_sub (fun _ h => List.mem_cons_of_mem _ (List.mem_append_left _ (List.mem_append_right _ h))) (by decide +kernel))
set_option maxRecDepth 20000 in
theorem gL_differenceMember_X6_differenceMember : GoodIn wsL_differenceMember (wsV RL 117 RX6 yX6_differenceMember wsX6_differenceMember) := goodIn_app (goodIn_of _ (by decide +kernel)) ggL_differenceMember_X6_differenceMember
theorem dL_differenceMember_0 : decode cL_differenceMember 0 = .ok (.aload_n 2, 1) := by decide +kernel
theorem dL_differenceMember_1 : decode cL_differenceMember 1 = .ok (.iconst 0, 1) := by decide +kernel
theorem dL_differenceMember_2 : decode cL_differenceMember 2 = .ok (.aload_n 0, 1) := by decide +kernel
theorem dL_differenceMember_3 : decode cL_differenceMember 3 = .ok (.iload_n 1, 1) := by decide +kernel
theorem dL_differenceMember_4 : decode cL_differenceMember 4 = .ok (.invokevirtual 117, 3) := by decide +kernel
theorem dL_differenceMember_12 : decode cL_differenceMember 12 = .ok (.astore_n 3, 1) := by decide +kernel
theorem dL_differenceMember_13 : decode cL_differenceMember 13 = .ok (.iconst 1, 1) := by decide +kernel
theorem dL_differenceMember_14 : decode cL_differenceMember 14 = .ok (.ireturn, 1) := by decide +kernel
set_option maxRecDepth 20000 in
theorem ggL_differenceDistance_X6_differenceDistance : GoodIn wsL_differenceDistance wsX6_differenceDistance := goodIn_ca (goodIn_ca (goodIn_r _ [6, 7, 8, 9, 10, 5, 11, 12, 13, 14, 15, 16, 17, 18, 19, 20, 21, 22, 23, 24, 25, 26, 27, 28, 29, 30, 31, 32, 33, 34, 35, 36, 37, 38, 39, 40, 41, 42, 43, 44, 45, 46, 47, 48, 49, 50, 51, 52, 53, 54, 55, 56, 57, 58, 59, 60, 61, 62, 63, 64, 65, 66, 67, 68, 69, 70, 71, 72, 73, 74, 75, 76, 77, 78, 79, 80, 81, 82, 83, 84, 85, 86, 87, 88, 89, 90, 91, 92, 93, 94, 95, 96, 97, 98, 99, 100, 101, 102, 103, 104, 105, 106, 107, 108, 109, 110, 111, 112, 113, 114, 115, 116, 117, 118, 119, 120, 121, 122, 123, 124, 125, 126, 127, 128, 129, 130, 131, 132, 133, 134, 135, 136, 137, 138, 139, 140, 141, 142, 143, 144, 145, 146, 147, 148, 149, 150, 151, 152, 153, 154, 155, 156, 157, 158, 159, 160, 161, 162, 163, 164, 165, 166, 167, 168, 169, 170, 171, 172, 173, 174, 175, 176, 177, 178, 179, 180, 181, 182, 183, 184, 185, 186, 187] (by decide +kernel) (by decide +kernel)) (goodIn_sub (fun _ h => List.mem_cons_of_mem _ (List.mem_append_right _ h)) (by decide +kernel))) (goodIn_sub (fun _ h => List.mem_cons_of_mem _ (List.mem_append_left _ (List.mem_append_right _ h))) (by decide +kernel))
set_option maxRecDepth 20000 in
theorem gL_differenceDistance_X6_differenceDistance : GoodIn wsL_differenceDistance (wsV RL 120 RX6 yX6_differenceDistance wsX6_differenceDistance) := goodIn_app (goodIn_of _ (by decide +kernel)) ggL_differenceDistance_X6_differenceDistance
theorem dL_differenceDistance_0 : decode cL_differenceDistance 0 = .ok (.aload_n 2, 1) := by decide +kernel
theorem dL_differenceDistance_1 : decode cL_differenceDistance 1 = .ok (.iconst 0, 1) := by decide +kernel
theorem dL_differenceDistance_2 : decode cL_differenceDistance 2 = .ok (.aload_n 0, 1) := by decide +kernel
theorem dL_differenceDistance_3 : decode cL_differenceDistance 3 = .ok (.iload_n 1, 1) := by decide +kernel
theorem dL_differenceDistance_4 : decode cL_differenceDistance 4 = .ok (.invokevirtual 120, 3) := by decide +kernel
theorem dL_differenceDistance_12 : decode cL_differenceDistance 12 = .ok (.astore_n 3, 1) := by decide +kernel
theorem dL_differenceDistance_13 : decode cL_differenceDistance 13 = .ok (.iconst 1, 1) := by decide +kernel
theorem dL_differenceDistance_14 : decode cL_differenceDistance 14 = .ok (.ireturn, 1) := by decide +kernel
set_option maxRecDepth 20000 in
theorem ggL_differenceSize_X6_differenceSize : GoodIn wsL_differenceSize wsX6_differenceSize := goodIn_ca (goodIn_ca (goodIn_ca (goodIn_r _ [7, 8, 9, 10, 11, 12, 6, 13, 14, 15, 16, 17, 18, 19, 20, 21, 22, 23, 24, 25, 26, 27, 28, 29, 30, 31, 32, 33, 34, 35, 36, 37, 38, 39, 40, 41, 42, 43, 44, 45, 46, 47, 48, 49, 50, 51, 52, 53, 54, 55, 56, 57, 58, 59, 60, 61, 62, 63, 64, 65, 66, 67, 68, 69, 70, 71, 72, 73, 74, 75, 76, 77, 78, 79, 80, 81, 82, 83, 84, 85, 86, 87, 88, 89, 90, 91, 92, 93, 94, 95, 96, 97, 98, 99, 100, 101, 102, 103, 104, 105, 106, 107, 108, 109, 110, 111, 112, 113, 114, 115, 116, 117, 118, 119, 120, 121, 122, 123, 124, 125, 126, 127, 128, 129, 130, 131, 132, 133, 134, 135, 136, 137, 138, 139, 140, 141, 142, 143, 144, 145, 146, 147, 148, 149, 150, 151, 152, 153, 154, 155, 156, 157, 158, 159, 160, 161, 162, 163, 164, 165, 166, 167, 168, 169, 170, 171, 172, 173, 174, 175, 176, 177, 178, 179, 180, 181, 182, 183, 184, 185, 186, 187, 188, 189, 190, 191, 192, 193, 194, 195, 196, 197, 198, 199, 200, 201] (by decide +kernel) (by decide +kernel)) (goodIn_sub (fun _ h => List.mem_cons_of_mem _ (List.mem_append_left _ (List.mem_append_right _ h))) (by decide +kernel))) (goodIn_sub (fun _ h => List.mem_cons_of_mem _ (List.mem_append_left _ (List.mem_append_left _ (List.mem_append_right _ h)))) (by decide +kernel))) (goodIn_sub (fun _ h => List.mem_cons_of_mem _ (List.mem_append_right _ h)) (by decide +kernel))
set_option maxRecDepth 20000 in
theorem gL_differenceSize_X6_differenceSize : GoodIn wsL_differenceSize (wsV RL 123 RX6 yX6_differenceSize wsX6_differenceSize) := goodIn_app (goodIn_of _ (by decide +kernel)) ggL_differenceSize_X6_differenceSize
theorem dL_differenceSize_0 : decode cL_differenceSize 0 = .ok (.aload_n 3, 1) := by decide +kernel
theorem dL_differenceSize_1 : decode cL_differenceSize 1 = .ok (.iconst 0, 1) := by decide +kernel
theorem dL_differenceSize_2 : decode cL_differenceSize 2 = .ok (.aload_n 0, 1) := by decide +kernel
theorem dL_differenceSize_3 : decode cL_differenceSize 3 = .ok (.iload_n 1, 1) := by decide +kernel
theorem dL_differenceSize_4 : decode cL_differenceSize 4 = .ok (.iload_n 2, 1) := by decide +kernel
theorem dL_differenceSize_5 : decode cL_differenceSize 5 = .ok (.invokevirtual 123, 3) := by decide +kernel
theorem dL_differenceSize_13 : decode cL_differenceSize 13 = .ok (.astore 4, 2) := by decide +kernel
theorem dL_differenceSize_15 : decode cL_differenceSize 15 = .ok (.iconst 1, 1) := by decide +kernel
theorem dL_differenceSize_16 : decode cL_differenceSize 16 = .ok (.ireturn, 1) := by decide +kernel
set_option maxRecDepth 20000 in
theorem ggL_equalShare_X6_equalShare : GoodIn wsL_equalShare wsX6_equalShare := goodIn_ca (goodIn_ca (goodIn_r _ [6, 7, 8, 9, 10, 11, 12, 13, 5, 14, 15, 16, 17, 18, 19, 20, 21, 22, 23, 24, 25, 26, 27, 28, 29, 30, 31, 32, 33, 34, 35, 36, 37, 38, 39, 40, 41, 42, 43, 44, 45, 46, 47, 48, 49, 50, 51, 52, 53, 54, 55, 56, 57, 58, 59, 60, 61, 62, 63, 64, 65, 66, 67, 68, 69, 70, 71, 72, 73, 74, 75, 76, 77, 78, 79, 80, 81, 82, 83, 84, 85, 86, 87, 88, 89, 90, 91, 92, 93, 94, 95, 96, 97, 98, 99, 100, 101, 102, 103, 104, 105, 106, 107, 108, 109, 110, 111, 112, 113, 114, 115, 116, 117, 118, 119, 120, 121, 122, 123, 124, 125, 126, 127, 128, 129, 130, 131, 132, 133, 134, 135, 136, 137, 138, 139, 140, 141, 142, 143, 144, 145, 146, 147, 148, 149, 150, 151, 152, 153, 154, 155, 156, 157, 158, 159, 160, 161, 162, 163, 164, 165, 166, 167, 168, 169, 170, 171, 172, 173, 174, 175, 176, 177, 178, 179, 180] (by decide +kernel) (by decide +kernel)) (goodIn_sub (fun _ h => List.mem_cons_of_mem _ (List.mem_append_right _ h)) (by decide +kernel))) (goodIn_sub (fun _ h => List.mem_cons_of_mem _ (List.mem_append_left _ (List.mem_append_right _ h))) (by decide +kernel))
set_option maxRecDepth 20000 in
theorem gL_equalShare_X6_equalShare : GoodIn wsL_equalShare (wsV RL 126 RX6 yX6_equalShare wsX6_equalShare) := goodIn_app (goodIn_of _ (by decide +kernel)) ggL_equalShare_X6_equalShare
theorem dL_equalShare_0 : decode cL_equalShare 0 = .ok (.aload_n 1, 1) := by decide +kernel
theorem dL_equalShare_1 : decode cL_equalShare 1 = .ok (.iconst 0, 1) := by decide +kernel
theorem dL_equalShare_2 : decode cL_equalShare 2 = .ok (.aload_n 0, 1) := by decide +kernel
theorem dL_equalShare_3 : decode cL_equalShare 3 = .ok (.invokevirtual 126, 3) := by decide +kernel
theorem dL_equalShare_11 : decode cL_equalShare 11 = .ok (.astore_n 2, 1) := by decide +kernel
theorem dL_equalShare_12 : decode cL_equalShare 12 = .ok (.iconst 1, 1) := by decide +kernel
theorem dL_equalShare_13 : decode cL_equalShare 13 = .ok (.ireturn, 1) := by decide +kernel
set_option maxRecDepth 20000 in
theorem ggL_meanDistance_X6_meanDistance : GoodIn wsL_meanDistance wsX6_meanDistance := goodIn_ca (goodIn_ca (goodIn_ca (goodIn_r _ [7, 8, 9, 10, 11, 12, 6, 13, 14, 15, 16, 17, 18, 19, 20, 21, 22, 23, 24, 25, 26, 27, 28, 29, 30, 31, 32, 33, 34, 35, 36, 37, 38, 39, 40, 41, 42, 43, 44, 45, 46, 47, 48, 49, 50, 51, 52, 53, 54, 55, 56, 57, 58, 59, 60, 61, 62, 63, 64, 65, 66, 67, 68] (by decide +kernel) (by decide +kernel)) (goodIn_sub (fun _ h => List.mem_cons_of_mem _ (List.mem_append_left _ (List.mem_append_left _ (List.mem_append_right _ h)))) (by decide +kernel))) (goodIn_sub (fun _ h => List.mem_cons_of_mem _ (List.mem_append_left _ (List.mem_append_right _ h))) (by decide +kernel))) (goodIn_sub (fun _ h => List.mem_cons_of_mem _ (List.mem_append_right _ h)) (by decide +kernel))
set_option maxRecDepth 20000 in
theorem gL_meanDistance_X6_meanDistance : GoodIn wsL_meanDistance (wsV RL 132 RX6 yX6_meanDistance wsX6_meanDistance) := goodIn_app (goodIn_of _ (by decide +kernel)) ggL_meanDistance_X6_meanDistance
theorem dL_meanDistance_0 : decode cL_meanDistance 0 = .ok (.aload_n 2, 1) := by decide +kernel
theorem dL_meanDistance_1 : decode cL_meanDistance 1 = .ok (.iconst 0, 1) := by decide +kernel
theorem dL_meanDistance_2 : decode cL_meanDistance 2 = .ok (.aload_n 0, 1) := by decide +kernel
theorem dL_meanDistance_3 : decode cL_meanDistance 3 = .ok (.iload_n 1, 1) := by decide +kernel
theorem dL_meanDistance_4 : decode cL_meanDistance 4 = .ok (.invokevirtual 132, 3) := by decide +kernel
theorem dL_meanDistance_11 : decode cL_meanDistance 11 = .ok (.astore_n 3, 1) := by decide +kernel
theorem dL_meanDistance_12 : decode cL_meanDistance 12 = .ok (.iconst 1, 1) := by decide +kernel
theorem dL_meanDistance_13 : decode cL_meanDistance 13 = .ok (.ireturn, 1) := by decide +kernel
theorem dL_meanDistance_14 : decode cL_meanDistance 14 = .ok (.astore_n 3, 1) := by decide +kernel
theorem dL_meanDistance_15 : decode cL_meanDistance 15 = .ok (.iconst 2, 1) := by decide +kernel
theorem dL_meanDistance_16 : decode cL_meanDistance 16 = .ok (.ireturn, 1) := by decide +kernel
set_option maxRecDepth 20000 in
theorem ggL_valueSum_X6_valueSum : GoodIn wsL_valueSum wsX6_valueSum := goodIn_ca (goodIn_r _ [6, 7, 8, 9, 5, 10, 11, 12, 13, 14, 15, 16, 17, 18, 19, 20, 21, 22, 23, 24, 25, 26, 27, 28, 29, 30, 31, 32, 33, 34, 35, 36, 37] (by decide +kernel) (by decide +kernel)) (goodIn_sub (fun _ h => List.mem_cons_of_mem _ (List.mem_append_right _ h)) (by decide +kernel))
set_option maxRecDepth 20000 in
theorem gL_valueSum_X6_valueSum : GoodIn wsL_valueSum (wsV RL 136 RX6 yX6_valueSum wsX6_valueSum) := goodIn_app (goodIn_of _ (by decide +kernel)) ggL_valueSum_X6_valueSum
theorem dL_valueSum_0 : decode cL_valueSum 0 = .ok (.aload_n 2, 1) := by decide +kernel
theorem dL_valueSum_1 : decode cL_valueSum 1 = .ok (.iconst 0, 1) := by decide +kernel
theorem dL_valueSum_2 : decode cL_valueSum 2 = .ok (.aload_n 0, 1) := by decide +kernel
theorem dL_valueSum_3 : decode cL_valueSum 3 = .ok (.iload_n 1, 1) := by decide +kernel
theorem dL_valueSum_4 : decode cL_valueSum 4 = .ok (.invokevirtual 136, 3) := by decide +kernel
theorem dL_valueSum_7 : decode cL_valueSum 7 = .ok (.lastore, 1) := by decide +kernel
theorem dL_valueSum_8 : decode cL_valueSum 8 = .ok (.goto 6, 3) := by decide +kernel
theorem dL_valueSum_11 : decode cL_valueSum 11 = .ok (.astore_n 3, 1) := by decide +kernel
theorem dL_valueSum_12 : decode cL_valueSum 12 = .ok (.iconst 1, 1) := by decide +kernel
theorem dL_valueSum_13 : decode cL_valueSum 13 = .ok (.ireturn, 1) := by decide +kernel
theorem dL_valueSum_14 : decode cL_valueSum 14 = .ok (.iconst 0, 1) := by decide +kernel
theorem dL_valueSum_15 : decode cL_valueSum 15 = .ok (.ireturn, 1) := by decide +kernel
set_option maxHeartbeats 4000000 in
set_option maxRecDepth 100000 in
/-- equalShare on a fresh object -/
theorem kX6_equalShare (l : Launch) (hfl : l.stackTraces = false) (dC : Nat → ClassId) (dI : Nat → Nat → Nat) (h0 ma tm un unK co : Nat) (w wL wP wS d dL dP dS : Nat) (on onR onL onC onD op opR opL opC opD : Nat) (cI : ClassId) (gn gp : Nat → Int32) (sz : Nat) : fXf l yX6_equalShare wsX6_equalShare ({ frames := 6, cells := 1, slots := 6, locals := 85 } : Room) dC dI [.ref h0] [(h0, .inr (9, [.ref w, .ref d, .ref co, .ref un, .ref ma, .ref tm, .int 0, .int 0, .int 0])), (co, .inr (4, [.ref w, .ref d, .ref on, .ref op, .int 0])), (w, .inr (3, [.int 0, .int 0, .ref wL, .ref wP, .ref wS])), (d, .inr (3, [.int 0, .int 0, .ref dL, .ref dP, .ref dS])), (on, .inr (7, [.ref onR, .ref onL, .ref onC, .ref onD, .int 0])), (onL, .inl (cI, 20, .inl (fun _ => 0))), (onC, .inl (cI, 20, .inl gn)), (op, .inr (7, [.ref opR, .ref opL, .ref opC, .ref opD, .int 0])), (opL, .inl (cI, 20, .inl (fun _ => 0))), (opC, .inl (cI, 20, .inl gp)), (un, .inr (5, [.ref unK, .int 0]))] [(cI, .int)] sz (fun E : String => E = "java/lang/ArithmeticException") (fun (r : UInt32) (u : Unit) => False) (fun u => []) (fun u => []) := by
  refine oX_f hfl (y := yX6_equalShare) (cc := cX6_equalShare) (maxL := 2) (by decide) rfl (Nat.le_of_ble_eq_true rfl) ?_
  intro p e s m args below meth c ls A Q hx hb hr hml hown hts hN hZ hA hin hlk hP hK hD hl ret thr thn
  have hS : va_S A s.heap s.heap [] := va_S.rf
  have hl : lv_has ls 2 [(0, .ref h0)] := hl
  have hP : va_P (dC, dI) vwCl [(h0, .inr (9, [.ref w, .ref d, .ref co, .ref un, .ref ma, .ref tm, .int 0, .int 0, .int 0])), (co, .inr (4, [.ref w, .ref d, .ref on, .ref op, .int 0])), (w, .inr (3, [.int 0, .int 0, .ref wL, .ref wP, .ref wS])), (d, .inr (3, [.int 0, .int 0, .ref dL, .ref dP, .ref dS])), (on, .inr (7, [.ref onR, .ref onL, .ref onC, .ref onD, .int 0])), (onL, .inl (cI, 20, .inl (fun _ => 0))), (onC, .inl (cI, 20, .inl gn)), (op, .inr (7, [.ref opR, .ref opL, .ref opC, .ref opD, .int 0])), (opL, .inl (cI, 20, .inl (fun _ => 0))), (opC, .inl (cI, 20, .inl gp)), (un, .inr (5, [.ref unK, .int 0]))] _ := hP
  have hD : va_D A [(h0, .inr (9, [.ref w, .ref d, .ref co, .ref un, .ref ma, .ref tm, .int 0, .int 0, .int 0])), (co, .inr (4, [.ref w, .ref d, .ref on, .ref op, .int 0])), (w, .inr (3, [.int 0, .int 0, .ref wL, .ref wP, .ref wS])), (d, .inr (3, [.int 0, .int 0, .ref dL, .ref dP, .ref dS])), (on, .inr (7, [.ref onR, .ref onL, .ref onC, .ref onD, .int 0])), (onL, .inl (cI, 20, .inl (fun _ => 0))), (onC, .inl (cI, 20, .inl gn)), (op, .inr (7, [.ref opR, .ref opL, .ref opC, .ref opD, .int 0])), (opL, .inl (cI, 20, .inl (fun _ => 0))), (opC, .inl (cI, 20, .inl gp)), (un, .inr (5, [.ref unK, .int 0]))] := hD
  refine lv_aload_n hx hb dX6_equalShare_0 rfl (lv_at hl 0 rfl) ?_
  have hPc := hP.sub (ws' := [(h0, .inr (9, [.ref w, .ref d, .ref co, .ref un, .ref ma, .ref tm, .int 0, .int 0, .int 0])), (co, .inr (4, [.ref w, .ref d, .ref on, .ref op, .int 0])), (w, .inr (3, [.int 0, .int 0, .ref wL, .ref wP, .ref wS])), (d, .inr (3, [.int 0, .int 0, .ref dL, .ref dP, .ref dS])), (on, .inr (7, [.ref onR, .ref onL, .ref onC, .ref onD, .int 0])), (onL, .inl (cI, 20, .inl (fun _ => 0))), (onC, .inl (cI, 20, .inl gn)), (op, .inr (7, [.ref opR, .ref opL, .ref opC, .ref opD, .int 0])), (opL, .inl (cI, 20, .inl (fun _ => 0))), (opC, .inl (cI, 20, .inl gp)), (un, .inr (5, [.ref unK, .int 0]))]) [0, 1, 2, 3, 4, 5, 6, 7, 8, 9, 10] rfl
  have hDc := hD.sub (ws' := [(h0, .inr (9, [.ref w, .ref d, .ref co, .ref un, .ref ma, .ref tm, .int 0, .int 0, .int 0])), (co, .inr (4, [.ref w, .ref d, .ref on, .ref op, .int 0])), (w, .inr (3, [.int 0, .int 0, .ref wL, .ref wP, .ref wS])), (d, .inr (3, [.int 0, .int 0, .ref dL, .ref dP, .ref dS])), (on, .inr (7, [.ref onR, .ref onL, .ref onC, .ref onD, .int 0])), (onL, .inl (cI, 20, .inl (fun _ => 0))), (onC, .inl (cI, 20, .inl gn)), (op, .inr (7, [.ref opR, .ref opL, .ref opC, .ref opD, .int 0])), (opL, .inl (cI, 20, .inl (fun _ => 0))), (opC, .inl (cI, 20, .inl gp)), (un, .inr (5, [.ref unK, .int 0]))]) [0, 1, 2, 3, 4, 5, 6, 7, 8, 9, 10] (by decide) rfl
  have hKc := hK.sub (tys' := [(cI, .int)]) [0] rfl
  have hFc := va_free (wc := [(h0, .inr (9, [.ref w, .ref d, .ref co, .ref un, .ref ma, .ref tm, .int 0, .int 0, .int 0])), (co, .inr (4, [.ref w, .ref d, .ref on, .ref op, .int 0])), (w, .inr (3, [.int 0, .int 0, .ref wL, .ref wP, .ref wS])), (d, .inr (3, [.int 0, .int 0, .ref dL, .ref dP, .ref dS])), (on, .inr (7, [.ref onR, .ref onL, .ref onC, .ref onD, .int 0])), (onL, .inl (cI, 20, .inl (fun _ => 0))), (onC, .inl (cI, 20, .inl gn)), (op, .inr (7, [.ref opR, .ref opL, .ref opC, .ref opD, .int 0])), (opL, .inl (cI, 20, .inl (fun _ => 0))), (opC, .inl (cI, 20, .inl gp)), (un, .inr (5, [.ref unK, .int 0]))]) hD hS hA [0, 1, 2, 3, 4, 5, 6, 7, 8, 9, 10] rfl
  refine va_callv (va_runV (As := []) (rest := []) ⟨hx, hb, hml, hown, hts⟩ (kX6_colour l dC dI h0 ma tm un unK co w wL wP wS d dL dP dS on onR onL onC onD op opR opL opC opD cI gn gp s.heap.size) (cwV 0 hts gX6_equalShare_X6_colour rfl rfl rfl (by decide +kernel) ⟨Nat.le_of_ble_eq_true rfl, Nat.le_of_ble_eq_true rfl⟩) (fPreV hN hZ hS (fun q h => hFc q h) hPc hKc hDc (ci := 9) (q0 := 0) rfl rfl) rfl rfl hl.1 rfl (lv_room (Nat.le_of_ble_eq_true rfl)) dX6_equalShare_1 ⟨Nat.le_of_ble_eq_true rfl, Nat.le_of_ble_eq_true rfl⟩) hS (fun q _ h => hFc q h) hFc (fun u t H1 locs ht hvm hw hB hz1 hk1 hS => ?_)
  obtain ⟨hP1, hK1, hD1⟩ := hB
  rw [ht] at hP1
  have hK1 := va_K.moved hvm.symm hK1
  obtain ⟨u1, u2⟩ := u
  obtain ⟨hP, hD⟩ := va_join (wr := []) (w1 := [(h0, .inr (9, [.ref w, .ref d, .ref co, .ref un, .ref ma, .ref tm, .int 1, .int 0, .int 0])), (co, .inr (4, [.ref w, .ref d, .ref on, .ref op, .int 0])), (w, .inr (3, [.int 0, .int 0, .ref wL, .ref wP, .ref wS])), (d, .inr (3, [.int 0, .int 0, .ref dL, .ref dP, .ref dS])), (on, .inr (7, [.ref onR, .ref onL, .ref onC, .ref onD, .int 0])), (onL, .inl (cI, 20, .inl (fun _ => 0))), (onC, .inl (cI, 20, .inl u1)), (op, .inr (7, [.ref opR, .ref opL, .ref opC, .ref opD, .int 0])), (opL, .inl (cI, 20, .inl (fun _ => 0))), (opC, .inl (cI, 20, .inl u2)), (un, .inr (5, [.ref unK, .int 0]))]) hP hD [0, 1, 2, 3, 4, 5, 6, 7, 8, 9, 10] [] rfl rfl (by decide) (by decide) hk1 hFc hP1 hD1
  generalize H1 = H at hP hS ⊢
  have hP : va_P (dC, dI) vwCl [(h0, .inr (9, [.ref w, .ref d, .ref co, .ref un, .ref ma, .ref tm, .int 1, .int 0, .int 0])), (co, .inr (4, [.ref w, .ref d, .ref on, .ref op, .int 0])), (w, .inr (3, [.int 0, .int 0, .ref wL, .ref wP, .ref wS])), (d, .inr (3, [.int 0, .int 0, .ref dL, .ref dP, .ref dS])), (on, .inr (7, [.ref onR, .ref onL, .ref onC, .ref onD, .int 0])), (onL, .inl (cI, 20, .inl (fun _ => 0))), (onC, .inl (cI, 20, .inl u1)), (op, .inr (7, [.ref opR, .ref opL, .ref opC, .ref opD, .int 0])), (opL, .inl (cI, 20, .inl (fun _ => 0))), (opC, .inl (cI, 20, .inl u2)), (un, .inr (5, [.ref unK, .int 0]))] _ := hP
  have hD : va_D A [(h0, .inr (9, [.ref w, .ref d, .ref co, .ref un, .ref ma, .ref tm, .int 1, .int 0, .int 0])), (co, .inr (4, [.ref w, .ref d, .ref on, .ref op, .int 0])), (w, .inr (3, [.int 0, .int 0, .ref wL, .ref wP, .ref wS])), (d, .inr (3, [.int 0, .int 0, .ref dL, .ref dP, .ref dS])), (on, .inr (7, [.ref onR, .ref onL, .ref onC, .ref onD, .int 0])), (onL, .inl (cI, 20, .inl (fun _ => 0))), (onC, .inl (cI, 20, .inl u1)), (op, .inr (7, [.ref opR, .ref opL, .ref opC, .ref opD, .int 0])), (opL, .inl (cI, 20, .inl (fun _ => 0))), (opC, .inl (cI, 20, .inl u2)), (un, .inr (5, [.ref unK, .int 0]))] := hD
  refine lv_aload_n hx hb dX6_equalShare_4 rfl (lv_at hl 0 rfl) ?_
  refine va_get (D := (dC, dI)) (ci := 9) (v := .ref co) (C := RX6) (T := TX6) (N := 9) hx hb hts (fun w h => List.mem_cons_of_mem _ (List.mem_append_left _ (List.mem_append_left _ (List.mem_append_left _ (List.mem_append_left _ (List.mem_append_left _ (List.mem_append_left _ (List.mem_append_left _ (List.mem_append_right _ (h)))))))))) hown hK hP 0 rfl rfl 2 (by decide) (hts (.fieldLink RX6 24 "Netcompare" "colours" "LNetcompare$Colours;") (List.mem_cons_of_mem _ (List.mem_append_left _ (List.mem_append_left _ (List.mem_append_left _ (List.mem_append_left _ (List.mem_append_left _ (List.mem_append_left _ (List.mem_append_left _ (List.mem_append_left _ (List.mem_append_left _ (List.mem_of_getElem? (i := 2) rfl)))))))))))) (fun _ h9 => h9) rfl dX6_equalShare_5 ?_
  have hPc := hP.sub (ws' := [(co, .inr (4, [.ref w, .ref d, .ref on, .ref op, .int 0])), (on, .inr (7, [.ref onR, .ref onL, .ref onC, .ref onD, .int 0])), (op, .inr (7, [.ref opR, .ref opL, .ref opC, .ref opD, .int 0]))]) [1, 4, 7] rfl
  have hDc := hD.sub (ws' := [(co, .inr (4, [.ref w, .ref d, .ref on, .ref op, .int 0])), (on, .inr (7, [.ref onR, .ref onL, .ref onC, .ref onD, .int 0])), (op, .inr (7, [.ref opR, .ref opL, .ref opC, .ref opD, .int 0]))]) [1, 4, 7] (by decide) rfl
  have hKc := hK.sub (tys' := []) [] rfl
  have hFc := va_free (wc := [(co, .inr (4, [.ref w, .ref d, .ref on, .ref op, .int 0])), (on, .inr (7, [.ref onR, .ref onL, .ref onC, .ref onD, .int 0])), (op, .inr (7, [.ref opR, .ref opL, .ref opC, .ref opD, .int 0]))]) hD hS hA [1, 4, 7] rfl
  refine va_calli (va_runV (As := []) (rest := []) ⟨hx, hb, hml, hown, hts⟩ (kX1_countClasses l dC dI co w d on op onR onL onC onD opR opL opC opD H.size) (cwV 0 hts gX6_equalShare_X1_countClasses rfl rfl rfl (by decide +kernel) ⟨Nat.le_of_ble_eq_true rfl, Nat.le_of_ble_eq_true rfl⟩) (fPreV hN hZ hS (fun q h => hFc q h) hPc hKc hDc (ci := 4) (q0 := 0) rfl rfl) rfl rfl hl.1 rfl (lv_room (Nat.le_of_ble_eq_true rfl)) dX6_equalShare_8 ⟨Nat.le_of_ble_eq_true rfl, Nat.le_of_ble_eq_true rfl⟩) hS (fun q _ h => hFc q h) hFc (fun r u t H1 locs ht hvm hw hB hz1 hk1 hS => ?_)
  obtain ⟨hP1, hK1, hD1⟩ := hB
  rw [ht] at hP1
  have hK1 := va_K.moved hvm.symm hK1
  obtain ⟨hP, hD⟩ := va_join (wr := [(h0, .inr (9, [.ref w, .ref d, .ref co, .ref un, .ref ma, .ref tm, .int 1, .int 0, .int 0])), (w, .inr (3, [.int 0, .int 0, .ref wL, .ref wP, .ref wS])), (d, .inr (3, [.int 0, .int 0, .ref dL, .ref dP, .ref dS])), (onL, .inl (cI, 20, .inl (fun _ => 0))), (onC, .inl (cI, 20, .inl u1)), (opL, .inl (cI, 20, .inl (fun _ => 0))), (opC, .inl (cI, 20, .inl u2)), (un, .inr (5, [.ref unK, .int 0]))]) (w1 := [(co, .inr (4, [.ref w, .ref d, .ref on, .ref op, .int 0])), (on, .inr (7, [.ref onR, .ref onL, .ref onC, .ref onD, .int 0])), (op, .inr (7, [.ref opR, .ref opL, .ref opC, .ref opD, .int 0]))]) hP hD [1, 4, 7] [0, 2, 3, 5, 6, 8, 9, 10] rfl rfl (by decide) (by decide) hk1 hFc hP1 hD1
  generalize H1 = H at hP hS ⊢
  have hP : va_P (dC, dI) vwCl [(h0, .inr (9, [.ref w, .ref d, .ref co, .ref un, .ref ma, .ref tm, .int 1, .int 0, .int 0])), (w, .inr (3, [.int 0, .int 0, .ref wL, .ref wP, .ref wS])), (d, .inr (3, [.int 0, .int 0, .ref dL, .ref dP, .ref dS])), (onL, .inl (cI, 20, .inl (fun _ => 0))), (onC, .inl (cI, 20, .inl u1)), (opL, .inl (cI, 20, .inl (fun _ => 0))), (opC, .inl (cI, 20, .inl u2)), (un, .inr (5, [.ref unK, .int 0])), (co, .inr (4, [.ref w, .ref d, .ref on, .ref op, .int 0])), (on, .inr (7, [.ref onR, .ref onL, .ref onC, .ref onD, .int 0])), (op, .inr (7, [.ref opR, .ref opL, .ref opC, .ref opD, .int 0]))] _ := hP
  have hD : va_D A [(h0, .inr (9, [.ref w, .ref d, .ref co, .ref un, .ref ma, .ref tm, .int 1, .int 0, .int 0])), (w, .inr (3, [.int 0, .int 0, .ref wL, .ref wP, .ref wS])), (d, .inr (3, [.int 0, .int 0, .ref dL, .ref dP, .ref dS])), (onL, .inl (cI, 20, .inl (fun _ => 0))), (onC, .inl (cI, 20, .inl u1)), (opL, .inl (cI, 20, .inl (fun _ => 0))), (opC, .inl (cI, 20, .inl u2)), (un, .inr (5, [.ref unK, .int 0])), (co, .inr (4, [.ref w, .ref d, .ref on, .ref op, .int 0])), (on, .inr (7, [.ref onR, .ref onL, .ref onC, .ref onD, .int 0])), (op, .inr (7, [.ref opR, .ref opL, .ref opC, .ref opD, .int 0]))] := hD
  subst hw
  refine lv_istore_n (lv' := [(1, .int 0), (0, .ref h0)]) hx hb dX6_equalShare_11 rfl hl (Nat.le_of_ble_eq_true rfl) rfl (fun ls hl => ?_)
  refine lv_iload_n hx hb dX6_equalShare_12 rfl (lv_at hl 0 rfl) ?_
  refine lv_if_ne (tgt := 27) hx hb dX6_equalShare_13 (by decide) (fun h9 => absurd (by decide) h9) (fun _ => ?_)
  exact thn "java/lang/ArithmeticException" _ ["java/lang/RuntimeException", "java/lang/Exception"] 276 278 280 _ _ _ _ 16 _ (rfl) (by decide +kernel) (by decide +kernel) (hts (.classLink RX6 276 "java/lang/ArithmeticException") (List.mem_cons_of_mem _ (List.mem_append_left _ (List.mem_append_left _ (List.mem_append_left _ (List.mem_append_left _ (List.mem_append_left _ (List.mem_append_left _ (List.mem_append_left _ (List.mem_append_left _ (List.mem_append_left _ (List.mem_of_getElem? (i := 0) rfl)))))))))))) (hts (.initialized "java/lang/ArithmeticException") (List.mem_cons_of_mem _ (List.mem_append_left _ (List.mem_append_left _ (List.mem_append_left _ (List.mem_append_left _ (List.mem_append_left _ (List.mem_append_left _ (List.mem_append_left _ (List.mem_append_left _ (List.mem_append_left _ (List.mem_of_getElem? (i := 1) rfl)))))))))))) (hN.2 _ (List.mem_of_getElem? (i := 17) rfl)) (vx_hat (fun w h => hts w ((fun w h => List.mem_cons_of_mem _ (List.mem_append_left _ (List.mem_append_right _ (h)))) w h)) (B := [.castable "java/lang/ArithmeticException" "java/lang/ArithmeticException", .declares ⟨"java/lang/RuntimeException", "<init>", "(Ljava/lang/String;)V"⟩, .declares ⟨"java/lang/Exception", "<init>", "(Ljava/lang/String;)V"⟩, .declares ⟨"java/lang/Throwable", "<init>", "(Ljava/lang/String;)V"⟩]) (by decide +kernel) (vx_c (va_Nw.use rfl (hN.1 _ (List.mem_of_getElem? (i := 61) rfl))) (vx_c (va_Nw.use rfl (hN.1 _ (List.mem_of_getElem? (i := 51) rfl))) (vx_c (va_Nw.use rfl (hN.1 _ (List.mem_of_getElem? (i := 52) rfl))) (vx_c (va_Nw.use rfl (hN.1 _ (List.mem_of_getElem? (i := 53) rfl))) vx_n))))) (by decide +kernel) hS hl.1 (Nat.le_of_ble_eq_true rfl) (Nat.le_of_ble_eq_true rfl) (Nat.le_of_ble_eq_true rfl) (Nat.le_of_ble_eq_true rfl) dX6_equalShare_16 dX6_equalShare_19 (Or.inr ⟨dX6_equalShare_20, dX6_equalShare_23, dX6_equalShare_26⟩)

set_option maxHeartbeats 4000000 in
set_option maxRecDepth 100000 in
/-- meanDistance on a fresh object -/
theorem kX6_meanDistance (l : Launch) (hfl : l.stackTraces = false) (dC : Nat → ClassId) (dI : Nat → Nat → Nat) (h0 w d co un ma tm : Nat) (wL wP wS dL dP dS : Nat) (p0 : Int32) (sz : Nat) : fXd l yX6_meanDistance wsX6_meanDistance ({ frames := 8, cells := 2, slots := 12, locals := 123 } : Room) dC dI [.ref h0, .int p0] [(h0, .inr (9, [.ref w, .ref d, .ref co, .ref un, .ref ma, .ref tm, .int 0, .int 0, .int 0])), (w, .inr (3, [.int 0, .int 0, .ref wL, .ref wP, .ref wS])), (d, .inr (3, [.int 0, .int 0, .ref dL, .ref dP, .ref dS]))] [] sz (fun E : String => E = "java/lang/IllegalArgumentException" ∧ (¬ ((p0 = 0) ∨ (p0 = 1))) ∨ E = "java/lang/ArithmeticException" ∧ ((p0 = 0) ∨ (p0 = 1))) (fun (r : UInt64) (u : Unit) => False) (fun u => []) (fun u => []) := by
  refine oX_d hfl (y := yX6_meanDistance) (cc := cX6_meanDistance) (maxL := 6) (by decide) rfl (Nat.le_of_ble_eq_true rfl) ?_
  intro p e s m args below meth c ls A Q hx hb hr hml hown hts hN hZ hA hin hlk hP hK hD hl ret thr thn
  have hS : va_S A s.heap s.heap [] := va_S.rf
  have hl : lv_has ls 6 [(0, .ref h0), (1, .int p0)] := hl
  have hP : va_P (dC, dI) vwCl [(h0, .inr (9, [.ref w, .ref d, .ref co, .ref un, .ref ma, .ref tm, .int 0, .int 0, .int 0])), (w, .inr (3, [.int 0, .int 0, .ref wL, .ref wP, .ref wS])), (d, .inr (3, [.int 0, .int 0, .ref dL, .ref dP, .ref dS]))] _ := hP
  have hD : va_D A [(h0, .inr (9, [.ref w, .ref d, .ref co, .ref un, .ref ma, .ref tm, .int 0, .int 0, .int 0])), (w, .inr (3, [.int 0, .int 0, .ref wL, .ref wP, .ref wS])), (d, .inr (3, [.int 0, .int 0, .ref dL, .ref dP, .ref dS]))] := hD
  refine lv_aload_n hx hb dX6_meanDistance_0 rfl (lv_at hl 0 rfl) ?_
  refine lv_iload_n hx hb dX6_meanDistance_1 rfl (lv_at hl 1 rfl) ?_
  have hPc := hP.sub (ws' := [(h0, .inr (9, [.ref w, .ref d, .ref co, .ref un, .ref ma, .ref tm, .int 0, .int 0, .int 0]))]) [0] rfl
  have hDc := hD.sub (ws' := [(h0, .inr (9, [.ref w, .ref d, .ref co, .ref un, .ref ma, .ref tm, .int 0, .int 0, .int 0]))]) [0] (by decide) rfl
  have hKc := hK.sub (tys' := []) [] rfl
  have hFc := va_free (wc := [(h0, .inr (9, [.ref w, .ref d, .ref co, .ref un, .ref ma, .ref tm, .int 0, .int 0, .int 0]))]) hD hS hA [0] rfl
  refine vx_callq (vx_runV (As := [.int p0]) (rest := []) ⟨hx, hb, hml, hown, hts⟩ (kX6_circuitAt l hfl dC dI h0 w d co un ma tm p0 s.heap.size) (cwV 1 hts gX6_meanDistance_X6_circuitAt rfl rfl rfl (by decide +kernel) ⟨Nat.le_of_ble_eq_true rfl, Nat.le_of_ble_eq_true rfl⟩) (fPreV hN hZ hS (fun q h => hFc q h) hPc hKc hDc (ci := 9) (q0 := 0) rfl rfl) rfl rfl hl.1 rfl (lv_room (Nat.le_of_ble_eq_true rfl)) dX6_meanDistance_2 ⟨Nat.le_of_ble_eq_true rfl, Nat.le_of_ble_eq_true rfl⟩) hS (fun q _ h => hFc q h) hFc (fun q _ h => hFc q h) (fun E ce q9 u t H locs ht hvm hpx hE hz1 hk1 hS hq9 hv9 hc9 => ?_) (fun r u t H1 locs ht hvm hw hB hz1 hk1 hS => ?_)
  · skip
    exact thr E ce q9 _ _ _ _ _ _ _ (Or.inl (⟨hE.1, hE.2⟩)) hq9 hv9 hc9 hS (Nat.le_of_ble_eq_true rfl) (Nat.le_of_ble_eq_true rfl)
  · skip
    obtain ⟨hP1, hK1, hD1⟩ := hB
    rw [ht] at hP1
    have hK1 := va_K.moved hvm.symm hK1
    obtain ⟨hP, hD⟩ := va_join (wr := [(w, .inr (3, [.int 0, .int 0, .ref wL, .ref wP, .ref wS])), (d, .inr (3, [.int 0, .int 0, .ref dL, .ref dP, .ref dS]))]) (w1 := [(h0, .inr (9, [.ref w, .ref d, .ref co, .ref un, .ref ma, .ref tm, .int 0, .int 0, .int 0]))]) hP hD [0] [1, 2] rfl rfl (by decide) (by decide) hk1 hFc hP1 hD1
    generalize H1 = H at hP hS ⊢
    have hP : va_P (dC, dI) vwCl [(w, .inr (3, [.int 0, .int 0, .ref wL, .ref wP, .ref wS])), (d, .inr (3, [.int 0, .int 0, .ref dL, .ref dP, .ref dS])), (h0, .inr (9, [.ref w, .ref d, .ref co, .ref un, .ref ma, .ref tm, .int 0, .int 0, .int 0]))] _ := hP
    have hD : va_D A [(w, .inr (3, [.int 0, .int 0, .ref wL, .ref wP, .ref wS])), (d, .inr (3, [.int 0, .int 0, .ref dL, .ref dP, .ref dS])), (h0, .inr (9, [.ref w, .ref d, .ref co, .ref un, .ref ma, .ref tm, .int 0, .int 0, .int 0]))] := hD
    refine W.widen (k := 1) (n := 6) (Nat.le_of_ble_eq_true rfl) (Nat.le_of_ble_eq_true rfl) ?_
    rcases hw with ⟨hc0, rfl⟩ | ⟨hc1, rfl⟩
    · skip
      refine W.eq (g2 := F0 m 5 ls [.ref w]) rfl ?_
      refine lv_astore_n (lv' := [(2, .ref w), (0, .ref h0), (1, .int p0)]) hx hb dX6_meanDistance_5 rfl hl (Nat.le_of_ble_eq_true rfl) rfl (fun ls hl => ?_)
      refine lv_aload_n hx hb dX6_meanDistance_6 rfl (lv_at hl 0 rfl) ?_
      have hPc := hP.sub (ws' := [(w, .inr (3, [.int 0, .int 0, .ref wL, .ref wP, .ref wS]))]) [0] rfl
      have hDc := hD.sub (ws' := [(w, .inr (3, [.int 0, .int 0, .ref wL, .ref wP, .ref wS]))]) [0] (by decide) rfl
      have hKc := hK.sub (tys' := []) [] rfl
      have hFc := va_free (wc := [(w, .inr (3, [.int 0, .int 0, .ref wL, .ref wP, .ref wS]))]) hD hS hA [0] rfl
      refine va_callv (va_runV (As := []) (rest := []) ⟨hx, hb, hml, hown, hts⟩ (kX0_measure l dC dI w wL wP wS H.size) (cwV 0 hts gX6_meanDistance_X0_measure rfl rfl rfl (by decide +kernel) ⟨Nat.le_of_ble_eq_true rfl, Nat.le_of_ble_eq_true rfl⟩) (fPreV hN hZ hS (fun q h => hFc q h) hPc hKc hDc (ci := 3) (q0 := 0) rfl rfl) rfl rfl hl.1 rfl (lv_room (Nat.le_of_ble_eq_true rfl)) dX6_meanDistance_7 ⟨Nat.le_of_ble_eq_true rfl, Nat.le_of_ble_eq_true rfl⟩) hS (fun q _ h => hFc q h) hFc (fun u t H1 locs ht hvm hw hB hz1 hk1 hS => ?_)
      obtain ⟨hP1, hK1, hD1⟩ := hB
      rw [ht] at hP1
      have hK1 := va_K.moved hvm.symm hK1
      obtain ⟨hP, hD⟩ := va_join (wr := [(d, .inr (3, [.int 0, .int 0, .ref dL, .ref dP, .ref dS])), (h0, .inr (9, [.ref w, .ref d, .ref co, .ref un, .ref ma, .ref tm, .int 0, .int 0, .int 0]))]) (w1 := [(w, .inr (3, [.int 0, .int 0, .ref wL, .ref wP, .ref wS]))]) hP hD [0] [1, 2] rfl rfl (by decide) (by decide) hk1 hFc hP1 hD1
      generalize H1 = H at hP hS ⊢
      have hP : va_P (dC, dI) vwCl [(d, .inr (3, [.int 0, .int 0, .ref dL, .ref dP, .ref dS])), (h0, .inr (9, [.ref w, .ref d, .ref co, .ref un, .ref ma, .ref tm, .int 0, .int 0, .int 0])), (w, .inr (3, [.int 0, .int 0, .ref wL, .ref wP, .ref wS]))] _ := hP
      have hD : va_D A [(d, .inr (3, [.int 0, .int 0, .ref dL, .ref dP, .ref dS])), (h0, .inr (9, [.ref w, .ref d, .ref co, .ref un, .ref ma, .ref tm, .int 0, .int 0, .int 0])), (w, .inr (3, [.int 0, .int 0, .ref wL, .ref wP, .ref wS]))] := hD
      refine lv_iconst (v := 0) hx hb dX6_meanDistance_10 (by decide) ?_
      refine lv_istore_n (lv' := [(3, .int 0), (2, .ref w), (0, .ref h0), (1, .int p0)]) hx hb dX6_meanDistance_11 rfl hl (Nat.le_of_ble_eq_true rfl) rfl (fun ls hl => ?_)
      refine lv_iconst (v := 0) hx hb dX6_meanDistance_12 (by decide) ?_
      refine lv_istore (lv' := [(4, .int 0), (3, .int 0), (2, .ref w), (0, .ref h0), (1, .int p0)]) hx hb dX6_meanDistance_13 hl (Nat.le_of_ble_eq_true rfl) rfl (fun ls hl => ?_)
      refine lv_iconst (v := 0) hx hb dX6_meanDistance_15 (by decide) ?_
      refine lv_istore (lv' := [(5, .int 0), (4, .int 0), (3, .int 0), (2, .ref w), (0, .ref h0), (1, .int p0)]) hx hb dX6_meanDistance_16 hl (Nat.le_of_ble_eq_true rfl) rfl (fun ls hl => ?_)
      refine lv_iload hx hb dX6_meanDistance_18 (lv_at hl 0 rfl) ?_
      refine lv_aload_n hx hb dX6_meanDistance_20 rfl (lv_at hl 3 rfl) ?_
      refine va_getN (D := (dC, dI)) (ci := 3) (v := .int 0) (C := RX0) (T := TX0) (N := 5) hx hb hts (fun w h => List.mem_cons_of_mem _ (List.mem_append_left _ (List.mem_append_left _ (List.mem_append_left _ (List.mem_append_left _ (List.mem_append_left _ (List.mem_append_right _ (h)))))))) hown hK hP 2 rfl rfl 0 (by decide) (va_Nw.use rfl (hN.1 _ (List.mem_of_getElem? (i := 18) rfl))) (fun _ h9 => h9) rfl dX6_meanDistance_21 ?_
      refine lv_icmp_ge (tgt := 58) hx hb dX6_meanDistance_24 (by decide) (fun _ => ?_) (fun h9 => absurd (by decide) h9)
      refine lv_iload hx hb dX6_meanDistance_58 (lv_at hl 1 rfl) ?_
      refine lv_if_ne (tgt := 74) hx hb dX6_meanDistance_60 (by decide) (fun h9 => absurd (by decide) h9) (fun _ => ?_)
      exact thn "java/lang/ArithmeticException" _ ["java/lang/RuntimeException", "java/lang/Exception"] 276 281 280 _ _ _ _ 63 _ (Or.inr (⟨rfl, Or.inl (hc0)⟩)) (by decide +kernel) (by decide +kernel) (hts (.classLink RX6 276 "java/lang/ArithmeticException") (List.mem_cons_of_mem _ (List.mem_append_left _ (List.mem_append_left _ (List.mem_append_left _ (List.mem_append_left _ (List.mem_append_left _ (List.mem_append_left _ (List.mem_append_left _ (List.mem_of_getElem? (i := 0) rfl)))))))))) (hts (.initialized "java/lang/ArithmeticException") (List.mem_cons_of_mem _ (List.mem_append_left _ (List.mem_append_left _ (List.mem_append_left _ (List.mem_append_left _ (List.mem_append_left _ (List.mem_append_left _ (List.mem_append_left _ (List.mem_of_getElem? (i := 1) rfl)))))))))) (hN.2 _ (List.mem_of_getElem? (i := 18) rfl)) (vx_hat (fun w h => hts w ((fun w h => List.mem_cons_of_mem _ (List.mem_append_left _ (List.mem_append_right _ (h)))) w h)) (B := [.castable "java/lang/ArithmeticException" "java/lang/ArithmeticException", .declares ⟨"java/lang/RuntimeException", "<init>", "(Ljava/lang/String;)V"⟩, .declares ⟨"java/lang/Exception", "<init>", "(Ljava/lang/String;)V"⟩, .declares ⟨"java/lang/Throwable", "<init>", "(Ljava/lang/String;)V"⟩]) (by decide +kernel) (vx_c (va_Nw.use rfl (hN.1 _ (List.mem_of_getElem? (i := 61) rfl))) (vx_c (va_Nw.use rfl (hN.1 _ (List.mem_of_getElem? (i := 51) rfl))) (vx_c (va_Nw.use rfl (hN.1 _ (List.mem_of_getElem? (i := 52) rfl))) (vx_c (va_Nw.use rfl (hN.1 _ (List.mem_of_getElem? (i := 53) rfl))) vx_n))))) (by decide +kernel) hS hl.1 (Nat.le_of_ble_eq_true rfl) (Nat.le_of_ble_eq_true rfl) (Nat.le_of_ble_eq_true rfl) (Nat.le_of_ble_eq_true rfl) dX6_meanDistance_63 dX6_meanDistance_66 (Or.inr ⟨dX6_meanDistance_67, dX6_meanDistance_70, dX6_meanDistance_73⟩)
    · skip
      refine W.eq (g2 := F0 m 5 ls [.ref d]) rfl ?_
      refine lv_astore_n (lv' := [(2, .ref d), (0, .ref h0), (1, .int p0)]) hx hb dX6_meanDistance_5 rfl hl (Nat.le_of_ble_eq_true rfl) rfl (fun ls hl => ?_)
      refine lv_aload_n hx hb dX6_meanDistance_6 rfl (lv_at hl 0 rfl) ?_
      have hPc := hP.sub (ws' := [(d, .inr (3, [.int 0, .int 0, .ref dL, .ref dP, .ref dS]))]) [1] rfl
      have hDc := hD.sub (ws' := [(d, .inr (3, [.int 0, .int 0, .ref dL, .ref dP, .ref dS]))]) [1] (by decide) rfl
      have hKc := hK.sub (tys' := []) [] rfl
      have hFc := va_free (wc := [(d, .inr (3, [.int 0, .int 0, .ref dL, .ref dP, .ref dS]))]) hD hS hA [1] rfl
      refine va_callv (va_runV (As := []) (rest := []) ⟨hx, hb, hml, hown, hts⟩ (kX0_measure l dC dI d dL dP dS H.size) (cwV 0 hts gX6_meanDistance_X0_measure rfl rfl rfl (by decide +kernel) ⟨Nat.le_of_ble_eq_true rfl, Nat.le_of_ble_eq_true rfl⟩) (fPreV hN hZ hS (fun q h => hFc q h) hPc hKc hDc (ci := 3) (q0 := 0) rfl rfl) rfl rfl hl.1 rfl (lv_room (Nat.le_of_ble_eq_true rfl)) dX6_meanDistance_7 ⟨Nat.le_of_ble_eq_true rfl, Nat.le_of_ble_eq_true rfl⟩) hS (fun q _ h => hFc q h) hFc (fun u t H1 locs ht hvm hw hB hz1 hk1 hS => ?_)
      obtain ⟨hP1, hK1, hD1⟩ := hB
      rw [ht] at hP1
      have hK1 := va_K.moved hvm.symm hK1
      obtain ⟨hP, hD⟩ := va_join (wr := [(w, .inr (3, [.int 0, .int 0, .ref wL, .ref wP, .ref wS])), (h0, .inr (9, [.ref w, .ref d, .ref co, .ref un, .ref ma, .ref tm, .int 0, .int 0, .int 0]))]) (w1 := [(d, .inr (3, [.int 0, .int 0, .ref dL, .ref dP, .ref dS]))]) hP hD [1] [0, 2] rfl rfl (by decide) (by decide) hk1 hFc hP1 hD1
      generalize H1 = H at hP hS ⊢
      have hP : va_P (dC, dI) vwCl [(w, .inr (3, [.int 0, .int 0, .ref wL, .ref wP, .ref wS])), (h0, .inr (9, [.ref w, .ref d, .ref co, .ref un, .ref ma, .ref tm, .int 0, .int 0, .int 0])), (d, .inr (3, [.int 0, .int 0, .ref dL, .ref dP, .ref dS]))] _ := hP
      have hD : va_D A [(w, .inr (3, [.int 0, .int 0, .ref wL, .ref wP, .ref wS])), (h0, .inr (9, [.ref w, .ref d, .ref co, .ref un, .ref ma, .ref tm, .int 0, .int 0, .int 0])), (d, .inr (3, [.int 0, .int 0, .ref dL, .ref dP, .ref dS]))] := hD
      refine lv_iconst (v := 0) hx hb dX6_meanDistance_10 (by decide) ?_
      refine lv_istore_n (lv' := [(3, .int 0), (2, .ref d), (0, .ref h0), (1, .int p0)]) hx hb dX6_meanDistance_11 rfl hl (Nat.le_of_ble_eq_true rfl) rfl (fun ls hl => ?_)
      refine lv_iconst (v := 0) hx hb dX6_meanDistance_12 (by decide) ?_
      refine lv_istore (lv' := [(4, .int 0), (3, .int 0), (2, .ref d), (0, .ref h0), (1, .int p0)]) hx hb dX6_meanDistance_13 hl (Nat.le_of_ble_eq_true rfl) rfl (fun ls hl => ?_)
      refine lv_iconst (v := 0) hx hb dX6_meanDistance_15 (by decide) ?_
      refine lv_istore (lv' := [(5, .int 0), (4, .int 0), (3, .int 0), (2, .ref d), (0, .ref h0), (1, .int p0)]) hx hb dX6_meanDistance_16 hl (Nat.le_of_ble_eq_true rfl) rfl (fun ls hl => ?_)
      refine lv_iload hx hb dX6_meanDistance_18 (lv_at hl 0 rfl) ?_
      refine lv_aload_n hx hb dX6_meanDistance_20 rfl (lv_at hl 3 rfl) ?_
      refine va_getN (D := (dC, dI)) (ci := 3) (v := .int 0) (C := RX0) (T := TX0) (N := 5) hx hb hts (fun w h => List.mem_cons_of_mem _ (List.mem_append_left _ (List.mem_append_left _ (List.mem_append_left _ (List.mem_append_left _ (List.mem_append_left _ (List.mem_append_right _ (h)))))))) hown hK hP 2 rfl rfl 0 (by decide) (va_Nw.use rfl (hN.1 _ (List.mem_of_getElem? (i := 18) rfl))) (fun _ h9 => h9) rfl dX6_meanDistance_21 ?_
      refine lv_icmp_ge (tgt := 58) hx hb dX6_meanDistance_24 (by decide) (fun _ => ?_) (fun h9 => absurd (by decide) h9)
      refine lv_iload hx hb dX6_meanDistance_58 (lv_at hl 1 rfl) ?_
      refine lv_if_ne (tgt := 74) hx hb dX6_meanDistance_60 (by decide) (fun h9 => absurd (by decide) h9) (fun _ => ?_)
      exact thn "java/lang/ArithmeticException" _ ["java/lang/RuntimeException", "java/lang/Exception"] 276 281 280 _ _ _ _ 63 _ (Or.inr (⟨rfl, Or.inr (hc1)⟩)) (by decide +kernel) (by decide +kernel) (hts (.classLink RX6 276 "java/lang/ArithmeticException") (List.mem_cons_of_mem _ (List.mem_append_left _ (List.mem_append_left _ (List.mem_append_left _ (List.mem_append_left _ (List.mem_append_left _ (List.mem_append_left _ (List.mem_append_left _ (List.mem_of_getElem? (i := 0) rfl)))))))))) (hts (.initialized "java/lang/ArithmeticException") (List.mem_cons_of_mem _ (List.mem_append_left _ (List.mem_append_left _ (List.mem_append_left _ (List.mem_append_left _ (List.mem_append_left _ (List.mem_append_left _ (List.mem_append_left _ (List.mem_of_getElem? (i := 1) rfl)))))))))) (hN.2 _ (List.mem_of_getElem? (i := 18) rfl)) (vx_hat (fun w h => hts w ((fun w h => List.mem_cons_of_mem _ (List.mem_append_left _ (List.mem_append_right _ (h)))) w h)) (B := [.castable "java/lang/ArithmeticException" "java/lang/ArithmeticException", .declares ⟨"java/lang/RuntimeException", "<init>", "(Ljava/lang/String;)V"⟩, .declares ⟨"java/lang/Exception", "<init>", "(Ljava/lang/String;)V"⟩, .declares ⟨"java/lang/Throwable", "<init>", "(Ljava/lang/String;)V"⟩]) (by decide +kernel) (vx_c (va_Nw.use rfl (hN.1 _ (List.mem_of_getElem? (i := 61) rfl))) (vx_c (va_Nw.use rfl (hN.1 _ (List.mem_of_getElem? (i := 51) rfl))) (vx_c (va_Nw.use rfl (hN.1 _ (List.mem_of_getElem? (i := 52) rfl))) (vx_c (va_Nw.use rfl (hN.1 _ (List.mem_of_getElem? (i := 53) rfl))) vx_n))))) (by decide +kernel) hS hl.1 (Nat.le_of_ble_eq_true rfl) (Nat.le_of_ble_eq_true rfl) (Nat.le_of_ble_eq_true rfl) (Nat.le_of_ble_eq_true rfl) dX6_meanDistance_63 dX6_meanDistance_66 (Or.inr ⟨dX6_meanDistance_67, dX6_meanDistance_70, dX6_meanDistance_73⟩)

set_option maxHeartbeats 4000000 in
set_option maxRecDepth 100000 in
/-- the law: addNet on a fresh object -/
theorem kL_addNet (l : Launch) (hfl : l.stackTraces = false) (dC : Nat → ClassId) (dI : Nat → Nat → Nat) (h0 w d co un ma tm : Nat) (wL wP wS dL dP dS : Nat) (cC : ClassId) (o0 : Nat) (cJ : ClassId) (p0 : Int32) (sz : Nat) : gHi l yL_addNet wsL_addNet ({ frames := 9, cells := 1, slots := 6, locals := 145 } : Room) dC dI [.ref h0, .int p0, .ref o0] [(h0, .inr (9, [.ref w, .ref d, .ref co, .ref un, .ref ma, .ref tm, .int 0, .int 0, .int 0])), (w, .inr (3, [.int 0, .int 0, .ref wL, .ref wP, .ref wS])), (d, .inr (3, [.int 0, .int 0, .ref dL, .ref dP, .ref dS])), (wL, .inl (cC, 10, .inl (fun _ => 0))), (dL, .inl (cC, 10, .inl (fun _ => 0))), (o0, .inl (cJ, 1, .inr (.inl (fun _ => 0))))] [(cC, .char), (cJ, .long)] sz (fun (r : Int32) (u : Nat → Int64) => r = 0 ∧ u 0 = 0 ∧ ((p0 = 0) ∨ (p0 = 1)) ∨ r = 1 ∧ (¬ ((p0 = 0) ∨ (p0 = 1)))) (fun u => [(o0, .inl (cJ, 1, .inr (.inl u)))]) (fun u => [(cJ, .long)]) := by
  refine oH_i (y := yL_addNet) (cc := cL_addNet) (maxL := 4) (by decide) rfl (Nat.le_of_ble_eq_true rfl) ?_
  intro p e s m args below meth c ls A Q hx hb hr hml hown hts hN hZ hA hin hlk hP hK hD hl hX htab ret
  have hS : va_S A s.heap s.heap [] := va_S.rf
  have hl : lv_has ls 4 [(0, .ref h0), (1, .int p0), (2, .ref o0)] := hl
  have hP : va_P (dC, dI) vwCl [(h0, .inr (9, [.ref w, .ref d, .ref co, .ref un, .ref ma, .ref tm, .int 0, .int 0, .int 0])), (w, .inr (3, [.int 0, .int 0, .ref wL, .ref wP, .ref wS])), (d, .inr (3, [.int 0, .int 0, .ref dL, .ref dP, .ref dS])), (wL, .inl (cC, 10, .inl (fun _ => 0))), (dL, .inl (cC, 10, .inl (fun _ => 0))), (o0, .inl (cJ, 1, .inr (.inl (fun _ => 0))))] _ := hP
  have hD : va_D A [(h0, .inr (9, [.ref w, .ref d, .ref co, .ref un, .ref ma, .ref tm, .int 0, .int 0, .int 0])), (w, .inr (3, [.int 0, .int 0, .ref wL, .ref wP, .ref wS])), (d, .inr (3, [.int 0, .int 0, .ref dL, .ref dP, .ref dS])), (wL, .inl (cC, 10, .inl (fun _ => 0))), (dL, .inl (cC, 10, .inl (fun _ => 0))), (o0, .inl (cJ, 1, .inr (.inl (fun _ => 0))))] := hD
  refine lv_aload_n hx hb dL_addNet_0 rfl (lv_at hl 2 rfl) ?_
  refine lv_iconst (v := 0) hx hb dL_addNet_1 (by decide) ?_
  refine lv_aload_n hx hb dL_addNet_2 rfl (lv_at hl 0 rfl) ?_
  refine lv_iload_n hx hb dL_addNet_3 rfl (lv_at hl 1 rfl) ?_
  have hPc := hP.sub (ws' := [(h0, .inr (9, [.ref w, .ref d, .ref co, .ref un, .ref ma, .ref tm, .int 0, .int 0, .int 0])), (w, .inr (3, [.int 0, .int 0, .ref wL, .ref wP, .ref wS])), (d, .inr (3, [.int 0, .int 0, .ref dL, .ref dP, .ref dS])), (wL, .inl (cC, 10, .inl (fun _ => 0))), (dL, .inl (cC, 10, .inl (fun _ => 0)))]) [0, 1, 2, 3, 4] rfl
  have hDc := hD.sub (ws' := [(h0, .inr (9, [.ref w, .ref d, .ref co, .ref un, .ref ma, .ref tm, .int 0, .int 0, .int 0])), (w, .inr (3, [.int 0, .int 0, .ref wL, .ref wP, .ref wS])), (d, .inr (3, [.int 0, .int 0, .ref dL, .ref dP, .ref dS])), (wL, .inl (cC, 10, .inl (fun _ => 0))), (dL, .inl (cC, 10, .inl (fun _ => 0)))]) [0, 1, 2, 3, 4] (by decide) rfl
  have hKc := hK.sub (tys' := [(cC, .char)]) [0] rfl
  have hFc := va_free (wc := [(h0, .inr (9, [.ref w, .ref d, .ref co, .ref un, .ref ma, .ref tm, .int 0, .int 0, .int 0])), (w, .inr (3, [.int 0, .int 0, .ref wL, .ref wP, .ref wS])), (d, .inr (3, [.int 0, .int 0, .ref dL, .ref dP, .ref dS])), (wL, .inl (cC, 10, .inl (fun _ => 0))), (dL, .inl (cC, 10, .inl (fun _ => 0)))]) hD hS hA [0, 1, 2, 3, 4] rfl
  refine vx_calli (vx_runV (As := [.int p0]) (rest := [.int 0, .ref o0]) ⟨hx, hb, hml, hown, hts⟩ (kX6_addNet l hfl dC dI h0 w d co un ma tm wL wP wS dL dP dS cC p0 s.heap.size) (cwV 1 hts gL_addNet_X6_addNet rfl rfl rfl (by decide +kernel) ⟨Nat.le_of_ble_eq_true rfl, Nat.le_of_ble_eq_true rfl⟩) (fPreV hN hZ hS (fun q h => hFc q h) hPc hKc hDc (ci := 9) (q0 := 0) rfl rfl) rfl rfl hl.1 rfl (lv_room (Nat.le_of_ble_eq_true rfl)) dL_addNet_4 ⟨Nat.le_of_ble_eq_true rfl, Nat.le_of_ble_eq_true rfl⟩) hS (fun q _ h => hFc q h) hFc (fun q _ h => hFc q h) (fun E ce q9 u t H locs ht hvm hpx hE hz1 hk1 hS hq9 hv9 hc9 => ?_) (fun r u t H1 locs ht hvm hw hB hz1 hk1 hS => ?_)
  · skip
    obtain ⟨hP, hD⟩ := va_join (wr := [(o0, .inl (cJ, 1, .inr (.inl (fun _ => 0))))]) (w1 := []) hP hD [0, 1, 2, 3, 4] [5] rfl rfl (by decide) (by decide) hk1 hFc (fun k q h => by simp at h) ⟨fun i j p q h => by simp at h, fun k q h => by simp at h⟩
    have hP : va_P (dC, dI) vwCl [(o0, .inl (cJ, 1, .inr (.inl (fun _ => 0))))] _ := hP
    have hD : va_D A [(o0, .inl (cJ, 1, .inr (.inl (fun _ => 0))))] := hD
    obtain ⟨hE9, hq9f⟩ := hE
    subst hE9
    have hf1 := hq9f
    refine vx_catch (name := "java/lang/IllegalArgumentException") hown [] { startPc := 0, endPc := 9, handlerPc := 12, catchType := 13 } [{ startPc := 0, endPc := 9, handlerPc := 15, catchType := 15 }] (by rw [htab]; rfl) (fun z hz => by simp at hz) rfl (by decide) (hts (.classLink RL 13 "java/lang/IllegalArgumentException") (List.mem_cons_of_mem _ (List.mem_append_left _ (List.mem_append_left _ (List.mem_append_left _ (List.mem_append_left _ (List.mem_append_left _ (List.mem_append_left _ (List.mem_of_getElem? (i := 0) rfl))))))))) (va_Nw.use rfl (hN.1 _ (List.mem_of_getElem? (i := 50) rfl))) hq9 hv9 hc9 ?_
    refine lv_astore_n (lv' := [(3, .ref q9), (0, .ref h0), (1, .int p0), (2, .ref o0)]) hx hb dL_addNet_12 rfl hl (Nat.le_of_ble_eq_true rfl) rfl (fun ls hl => ?_)
    refine lv_iconst (v := 1) hx hb dL_addNet_13 (by decide) ?_
    exact ret _ (fun _ => 0) _ _ _ _ _ _ (Or.inr (⟨rfl, hf1⟩)) (hP.sub [0] rfl) (hK.sub [1] rfl) (hD.sub [0] (by decide) rfl) hS (Nat.le_of_ble_eq_true rfl) (Nat.le_of_ble_eq_true rfl) dL_addNet_14
  · skip
    obtain ⟨hP1, hK1, hD1⟩ := hB
    rw [ht] at hP1
    have hK1 := va_K.moved hvm.symm hK1
    obtain ⟨hP, hD⟩ := va_join (wr := [(o0, .inl (cJ, 1, .inr (.inl (fun _ => 0))))]) (w1 := []) hP hD [0, 1, 2, 3, 4] [5] rfl rfl (by decide) (by decide) hk1 hFc hP1 hD1
    generalize H1 = H at hP hS ⊢
    have hP : va_P (dC, dI) vwCl [(o0, .inl (cJ, 1, .inr (.inl (fun _ => 0))))] _ := hP
    have hD : va_D A [(o0, .inl (cJ, 1, .inr (.inl (fun _ => 0))))] := hD
    refine W.widen (k := 1) (n := 6) (Nat.le_of_ble_eq_true rfl) (Nat.le_of_ble_eq_true rfl) ?_
    obtain ⟨rfl, hr2⟩ := hw
    refine lv_i2l (v := 0) hx hb dL_addNet_7 (by decide) ?_
    refine va_last hx hb hK hP hD hS 0 1 rfl rfl (show ¬ (_ ∨ _) by decide) dL_addNet_8 (fun H locs hP hD hS => ?_)
    have hP : va_P (dC, dI) vwCl [(o0, .inl (cJ, 1, .inr (.inl (vp_updL (fun _ => 0) 0 0))))] _ := hP
    have hD : va_D A [(o0, .inl (cJ, 1, .inr (.inl (vp_updL (fun _ => 0) 0 0))))] := hD
    refine lv_goto (tgt := 18) hx hb dL_addNet_9 (by decide) ?_
    refine lv_iconst (v := 0) hx hb dL_addNet_18 (by decide) ?_
    exact ret _ (vp_updL (fun _ => 0) 0 0) _ _ _ _ _ _ (Or.inl (⟨rfl, rfl, hr2⟩)) (hP.sub [0] rfl) (hK.sub [1] rfl) (hD.sub [0] (by decide) rfl) hS (Nat.le_of_ble_eq_true rfl) (Nat.le_of_ble_eq_true rfl) dL_addNet_19

set_option maxHeartbeats 4000000 in
set_option maxRecDepth 100000 in
/-- the law: setPort on a fresh object -/
theorem kL_setPort (l : Launch) (hfl : l.stackTraces = false) (dC : Nat → ClassId) (dI : Nat → Nat → Nat) (h0 w d co un ma tm : Nat) (wL wP wS dL dP dS : Nat) (o0 : Nat) (cJ : ClassId) (p0 p1 p2 : Int32) (sz : Nat) : gHi l yL_setPort wsL_setPort ({ frames := 9, cells := 2, slots := 12, locals := 148 } : Room) dC dI [.ref h0, .int p0, .int p1, .int p2, .ref o0] [(h0, .inr (9, [.ref w, .ref d, .ref co, .ref un, .ref ma, .ref tm, .int 0, .int 0, .int 0])), (w, .inr (3, [.int 0, .int 0, .ref wL, .ref wP, .ref wS])), (d, .inr (3, [.int 0, .int 0, .ref dL, .ref dP, .ref dS])), (o0, .inl (cJ, 1, .inr (.inl (fun _ => 0))))] [(cJ, .long)] sz (fun (r : Int32) (u : Nat → Int64) => r = 1 ∧ ((¬ ((p0 = 0) ∨ (p0 = 1))) ∨ (¬ ((p2 = 45) ∨ ((¬ (p2 < 97)) ∧ (¬ (102 < p2)))))) ∨ r = 2 ∧ (¬ ((¬ ((p0 = 0) ∨ (p0 = 1))) ∨ (¬ ((p2 = 45) ∨ ((¬ (p2 < 97)) ∧ (¬ (102 < p2)))))))) (fun u => [(o0, .inl (cJ, 1, .inr (.inl u)))]) (fun u => [(cJ, .long)]) := by
  refine oH_i (y := yL_setPort) (cc := cL_setPort) (maxL := 6) (by decide) rfl (Nat.le_of_ble_eq_true rfl) ?_
  intro p e s m args below meth c ls A Q hx hb hr hml hown hts hN hZ hA hin hlk hP hK hD hl hX htab ret
  have hS : va_S A s.heap s.heap [] := va_S.rf
  have hl : lv_has ls 6 [(0, .ref h0), (1, .int p0), (2, .int p1), (3, .int p2), (4, .ref o0)] := hl
  have hP : va_P (dC, dI) vwCl [(h0, .inr (9, [.ref w, .ref d, .ref co, .ref un, .ref ma, .ref tm, .int 0, .int 0, .int 0])), (w, .inr (3, [.int 0, .int 0, .ref wL, .ref wP, .ref wS])), (d, .inr (3, [.int 0, .int 0, .ref dL, .ref dP, .ref dS])), (o0, .inl (cJ, 1, .inr (.inl (fun _ => 0))))] _ := hP
  have hD : va_D A [(h0, .inr (9, [.ref w, .ref d, .ref co, .ref un, .ref ma, .ref tm, .int 0, .int 0, .int 0])), (w, .inr (3, [.int 0, .int 0, .ref wL, .ref wP, .ref wS])), (d, .inr (3, [.int 0, .int 0, .ref dL, .ref dP, .ref dS])), (o0, .inl (cJ, 1, .inr (.inl (fun _ => 0))))] := hD
  refine lv_aload hx hb dL_setPort_0 (lv_at hl 4 rfl) ?_
  refine lv_iconst (v := 0) hx hb dL_setPort_2 (by decide) ?_
  refine lv_aload_n hx hb dL_setPort_3 rfl (lv_at hl 0 rfl) ?_
  refine lv_iload_n hx hb dL_setPort_4 rfl (lv_at hl 1 rfl) ?_
  refine lv_iload_n hx hb dL_setPort_5 rfl (lv_at hl 2 rfl) ?_
  refine lv_iload_n hx hb dL_setPort_6 rfl (lv_at hl 3 rfl) ?_
  have hPc := hP.sub (ws' := [(h0, .inr (9, [.ref w, .ref d, .ref co, .ref un, .ref ma, .ref tm, .int 0, .int 0, .int 0])), (w, .inr (3, [.int 0, .int 0, .ref wL, .ref wP, .ref wS])), (d, .inr (3, [.int 0, .int 0, .ref dL, .ref dP, .ref dS]))]) [0, 1, 2] rfl
  have hDc := hD.sub (ws' := [(h0, .inr (9, [.ref w, .ref d, .ref co, .ref un, .ref ma, .ref tm, .int 0, .int 0, .int 0])), (w, .inr (3, [.int 0, .int 0, .ref wL, .ref wP, .ref wS])), (d, .inr (3, [.int 0, .int 0, .ref dL, .ref dP, .ref dS]))]) [0, 1, 2] (by decide) rfl
  have hKc := hK.sub (tys' := []) [] rfl
  have hFc := va_free (wc := [(h0, .inr (9, [.ref w, .ref d, .ref co, .ref un, .ref ma, .ref tm, .int 0, .int 0, .int 0])), (w, .inr (3, [.int 0, .int 0, .ref wL, .ref wP, .ref wS])), (d, .inr (3, [.int 0, .int 0, .ref dL, .ref dP, .ref dS]))]) hD hS hA [0, 1, 2] rfl
  refine vx_calli (vx_runV (As := [.int p0, .int p1, .int p2]) (rest := [.int 0, .ref o0]) ⟨hx, hb, hml, hown, hts⟩ (kX6_setPort l hfl dC dI h0 w d co un ma tm wL wP wS dL dP dS p0 p1 p2 s.heap.size) (cwV 3 hts gL_setPort_X6_setPort rfl rfl rfl (by decide +kernel) ⟨Nat.le_of_ble_eq_true rfl, Nat.le_of_ble_eq_true rfl⟩) (fPreV hN hZ hS (fun q h => hFc q h) hPc hKc hDc (ci := 9) (q0 := 0) rfl rfl) rfl rfl hl.1 rfl (lv_room (Nat.le_of_ble_eq_true rfl)) dL_setPort_7 ⟨Nat.le_of_ble_eq_true rfl, Nat.le_of_ble_eq_true rfl⟩) hS (fun q _ h => hFc q h) hFc (fun q _ h => hFc q h) (fun E ce q9 u t H locs ht hvm hpx hE hz1 hk1 hS hq9 hv9 hc9 => ?_) (fun r u t H1 locs ht hvm hw hB hz1 hk1 hS => ?_)
  · skip
    obtain ⟨hP, hD⟩ := va_join (wr := [(o0, .inl (cJ, 1, .inr (.inl (fun _ => 0))))]) (w1 := []) hP hD [0, 1, 2] [3] rfl rfl (by decide) (by decide) hk1 hFc (fun k q h => by simp at h) ⟨fun i j p q h => by simp at h, fun k q h => by simp at h⟩
    have hP : va_P (dC, dI) vwCl [(o0, .inl (cJ, 1, .inr (.inl (fun _ => 0))))] _ := hP
    have hD : va_D A [(o0, .inl (cJ, 1, .inr (.inl (fun _ => 0))))] := hD
    rcases hE with ⟨hE9, hq9f⟩ | ⟨hE9, hq9f⟩
    · skip
      subst hE9
      have hf1 := hq9f
      refine vx_catch (name := "java/lang/IllegalArgumentException") hown [] { startPc := 0, endPc := 12, handlerPc := 15, catchType := 13 } [{ startPc := 0, endPc := 12, handlerPc := 19, catchType := 21 }, { startPc := 0, endPc := 12, handlerPc := 23, catchType := 15 }] (by rw [htab]; rfl) (fun z hz => by simp at hz) rfl (by decide) (hts (.classLink RL 13 "java/lang/IllegalArgumentException") (List.mem_cons_of_mem _ (List.mem_append_left _ (List.mem_append_left _ (List.mem_append_left _ (List.mem_append_left _ (List.mem_append_left _ (List.mem_append_left _ (List.mem_append_left _ (List.mem_of_getElem? (i := 0) rfl)))))))))) (va_Nw.use rfl (hN.1 _ (List.mem_of_getElem? (i := 50) rfl))) hq9 hv9 hc9 ?_
      refine lv_astore (lv' := [(5, .ref q9), (0, .ref h0), (1, .int p0), (2, .int p1), (3, .int p2), (4, .ref o0)]) hx hb dL_setPort_15 hl (Nat.le_of_ble_eq_true rfl) rfl (fun ls hl => ?_)
      refine lv_iconst (v := 1) hx hb dL_setPort_17 (by decide) ?_
      exact ret _ (fun _ => 0) _ _ _ _ _ _ (Or.inl (⟨rfl, hf1⟩)) (hP.sub [0] rfl) (hK.sub [0] rfl) (hD.sub [0] (by decide) rfl) hS (Nat.le_of_ble_eq_true rfl) (Nat.le_of_ble_eq_true rfl) dL_setPort_18
    · skip
      subst hE9
      have hf2 := hq9f
      refine vx_catch (name := "java/util/NoSuchElementException") hown [{ startPc := 0, endPc := 12, handlerPc := 15, catchType := 13 }] { startPc := 0, endPc := 12, handlerPc := 19, catchType := 21 } [{ startPc := 0, endPc := 12, handlerPc := 23, catchType := 15 }] (by rw [htab]; rfl) (fun z hz => by rw [List.mem_singleton.mp hz]; exact Or.inr ⟨by decide, "java/lang/IllegalArgumentException", hts (.classLink RL 13 "java/lang/IllegalArgumentException") (List.mem_cons_of_mem _ (List.mem_append_left _ (List.mem_append_left _ (List.mem_append_left _ (List.mem_append_left _ (List.mem_append_left _ (List.mem_append_left _ (List.mem_append_left _ (List.mem_of_getElem? (i := 0) rfl))))))))), hX.2.1⟩) rfl (by decide) (hts (.classLink RL 21 "java/util/NoSuchElementException") (List.mem_cons_of_mem _ (List.mem_append_left _ (List.mem_append_left _ (List.mem_append_left _ (List.mem_append_left _ (List.mem_append_left _ (List.mem_append_left _ (List.mem_append_left _ (List.mem_of_getElem? (i := 1) rfl)))))))))) (va_Nw.use rfl (hN.1 _ (List.mem_of_getElem? (i := 55) rfl))) hq9 hv9 hc9 ?_
      refine lv_astore (lv' := [(5, .ref q9), (0, .ref h0), (1, .int p0), (2, .int p1), (3, .int p2), (4, .ref o0)]) hx hb dL_setPort_19 hl (Nat.le_of_ble_eq_true rfl) rfl (fun ls hl => ?_)
      refine lv_iconst (v := 2) hx hb dL_setPort_21 (by decide) ?_
      exact ret _ (fun _ => 0) _ _ _ _ _ _ (Or.inr (⟨rfl, hf2⟩)) (hP.sub [0] rfl) (hK.sub [0] rfl) (hD.sub [0] (by decide) rfl) hS (Nat.le_of_ble_eq_true rfl) (Nat.le_of_ble_eq_true rfl) dL_setPort_22
  · skip
    exact hw.elim

set_option maxHeartbeats 4000000 in
set_option maxRecDepth 100000 in
/-- the law: addPart on a fresh object -/
theorem kL_addPart (l : Launch) (hfl : l.stackTraces = false) (dC : Nat → ClassId) (dI : Nat → Nat → Nat) (h0 w d co un ma tm : Nat) (wL wP wS dL dP dS : Nat) (o0 : Nat) (cJ : ClassId) (p0 p1 p2 p3 p4 p5 : Int32) (sz : Nat) : gHi l yL_addPart wsL_addPart ({ frames := 9, cells := 4, slots := 24, locals := 152 } : Room) dC dI [.ref h0, .int p0, .int p1, .int p2, .int p3, .int p4, .int p5, .ref o0] [(h0, .inr (9, [.ref w, .ref d, .ref co, .ref un, .ref ma, .ref tm, .int 0, .int 0, .int 0])), (w, .inr (3, [.int 0, .int 0, .ref wL, .ref wP, .ref wS])), (d, .inr (3, [.int 0, .int 0, .ref dL, .ref dP, .ref dS])), (o0, .inl (cJ, 1, .inr (.inl (fun _ => 0))))] [(cJ, .long)] sz (fun (r : Int32) (u : Nat → Int64) => r = 1 ∧ ((¬ ((p0 = 0) ∨ (p0 = 1))) ∨ ((¬ ((p1 = 114) ∨ ((p1 = 99) ∨ ((p1 = 100) ∨ (p1 = 116))))) ∨ ((¬ ((¬ (p2 < 1)) ∧ (¬ (999 < p2)))) ∨ ((¬ (p1 = 116)) ∧ (¬ (p5 = (-1))))))) ∨ r = 2 ∧ (¬ ((¬ ((p0 = 0) ∨ (p0 = 1))) ∨ ((¬ ((p1 = 114) ∨ ((p1 = 99) ∨ ((p1 = 100) ∨ (p1 = 116))))) ∨ ((¬ ((¬ (p2 < 1)) ∧ (¬ (999 < p2)))) ∨ ((¬ (p1 = 116)) ∧ (¬ (p5 = (-1))))))))) (fun u => [(o0, .inl (cJ, 1, .inr (.inl u)))]) (fun u => [(cJ, .long)]) := by
  refine oH_i (y := yL_addPart) (cc := cL_addPart) (maxL := 9) (by decide) rfl (Nat.le_of_ble_eq_true rfl) ?_
  intro p e s m args below meth c ls A Q hx hb hr hml hown hts hN hZ hA hin hlk hP hK hD hl hX htab ret
  have hS : va_S A s.heap s.heap [] := va_S.rf
  have hl : lv_has ls 9 [(0, .ref h0), (1, .int p0), (2, .int p1), (3, .int p2), (4, .int p3), (5, .int p4), (6, .int p5), (7, .ref o0)] := hl
  have hP : va_P (dC, dI) vwCl [(h0, .inr (9, [.ref w, .ref d, .ref co, .ref un, .ref ma, .ref tm, .int 0, .int 0, .int 0])), (w, .inr (3, [.int 0, .int 0, .ref wL, .ref wP, .ref wS])), (d, .inr (3, [.int 0, .int 0, .ref dL, .ref dP, .ref dS])), (o0, .inl (cJ, 1, .inr (.inl (fun _ => 0))))] _ := hP
  have hD : va_D A [(h0, .inr (9, [.ref w, .ref d, .ref co, .ref un, .ref ma, .ref tm, .int 0, .int 0, .int 0])), (w, .inr (3, [.int 0, .int 0, .ref wL, .ref wP, .ref wS])), (d, .inr (3, [.int 0, .int 0, .ref dL, .ref dP, .ref dS])), (o0, .inl (cJ, 1, .inr (.inl (fun _ => 0))))] := hD
  refine lv_aload hx hb dL_addPart_0 (lv_at hl 7 rfl) ?_
  refine lv_iconst (v := 0) hx hb dL_addPart_2 (by decide) ?_
  refine lv_aload_n hx hb dL_addPart_3 rfl (lv_at hl 0 rfl) ?_
  refine lv_iload_n hx hb dL_addPart_4 rfl (lv_at hl 1 rfl) ?_
  refine lv_iload_n hx hb dL_addPart_5 rfl (lv_at hl 2 rfl) ?_
  refine lv_iload_n hx hb dL_addPart_6 rfl (lv_at hl 3 rfl) ?_
  refine lv_iload hx hb dL_addPart_7 (lv_at hl 4 rfl) ?_
  refine lv_iload hx hb dL_addPart_9 (lv_at hl 5 rfl) ?_
  refine lv_iload hx hb dL_addPart_11 (lv_at hl 6 rfl) ?_
  have hPc := hP.sub (ws' := [(h0, .inr (9, [.ref w, .ref d, .ref co, .ref un, .ref ma, .ref tm, .int 0, .int 0, .int 0])), (w, .inr (3, [.int 0, .int 0, .ref wL, .ref wP, .ref wS])), (d, .inr (3, [.int 0, .int 0, .ref dL, .ref dP, .ref dS]))]) [0, 1, 2] rfl
  have hDc := hD.sub (ws' := [(h0, .inr (9, [.ref w, .ref d, .ref co, .ref un, .ref ma, .ref tm, .int 0, .int 0, .int 0])), (w, .inr (3, [.int 0, .int 0, .ref wL, .ref wP, .ref wS])), (d, .inr (3, [.int 0, .int 0, .ref dL, .ref dP, .ref dS]))]) [0, 1, 2] (by decide) rfl
  have hKc := hK.sub (tys' := []) [] rfl
  have hFc := va_free (wc := [(h0, .inr (9, [.ref w, .ref d, .ref co, .ref un, .ref ma, .ref tm, .int 0, .int 0, .int 0])), (w, .inr (3, [.int 0, .int 0, .ref wL, .ref wP, .ref wS])), (d, .inr (3, [.int 0, .int 0, .ref dL, .ref dP, .ref dS]))]) hD hS hA [0, 1, 2] rfl
  refine vx_calli (vx_runV (As := [.int p0, .int p1, .int p2, .int p3, .int p4, .int p5]) (rest := [.int 0, .ref o0]) ⟨hx, hb, hml, hown, hts⟩ (kX6_addPart l hfl dC dI h0 w d co un ma tm wL wP wS dL dP dS p0 p1 p2 p3 p4 p5 s.heap.size) (cwV 6 hts gL_addPart_X6_addPart rfl rfl rfl (by decide +kernel) ⟨Nat.le_of_ble_eq_true rfl, Nat.le_of_ble_eq_true rfl⟩) (fPreV hN hZ hS (fun q h => hFc q h) hPc hKc hDc (ci := 9) (q0 := 0) rfl rfl) rfl rfl hl.1 rfl (lv_room (Nat.le_of_ble_eq_true rfl)) dL_addPart_13 ⟨Nat.le_of_ble_eq_true rfl, Nat.le_of_ble_eq_true rfl⟩) hS (fun q _ h => hFc q h) hFc (fun q _ h => hFc q h) (fun E ce q9 u t H locs ht hvm hpx hE hz1 hk1 hS hq9 hv9 hc9 => ?_) (fun r u t H1 locs ht hvm hw hB hz1 hk1 hS => ?_)
  · skip
    obtain ⟨hP, hD⟩ := va_join (wr := [(o0, .inl (cJ, 1, .inr (.inl (fun _ => 0))))]) (w1 := []) hP hD [0, 1, 2] [3] rfl rfl (by decide) (by decide) hk1 hFc (fun k q h => by simp at h) ⟨fun i j p q h => by simp at h, fun k q h => by simp at h⟩
    have hP : va_P (dC, dI) vwCl [(o0, .inl (cJ, 1, .inr (.inl (fun _ => 0))))] _ := hP
    have hD : va_D A [(o0, .inl (cJ, 1, .inr (.inl (fun _ => 0))))] := hD
    rcases hE with ⟨hE9, hq9f⟩ | ⟨hE9, hq9f⟩
    · skip
      subst hE9
      have hf1 := hq9f
      refine vx_catch (name := "java/lang/IllegalArgumentException") hown [] { startPc := 0, endPc := 18, handlerPc := 21, catchType := 13 } [{ startPc := 0, endPc := 18, handlerPc := 25, catchType := 21 }, { startPc := 0, endPc := 18, handlerPc := 29, catchType := 15 }] (by rw [htab]; rfl) (fun z hz => by simp at hz) rfl (by decide) (hts (.classLink RL 13 "java/lang/IllegalArgumentException") (List.mem_cons_of_mem _ (List.mem_append_left _ (List.mem_append_left _ (List.mem_append_left _ (List.mem_append_left _ (List.mem_append_left _ (List.mem_append_left _ (List.mem_append_left _ (List.mem_append_left _ (List.mem_of_getElem? (i := 0) rfl))))))))))) (va_Nw.use rfl (hN.1 _ (List.mem_of_getElem? (i := 50) rfl))) hq9 hv9 hc9 ?_
      refine lv_astore (lv' := [(8, .ref q9), (0, .ref h0), (1, .int p0), (2, .int p1), (3, .int p2), (4, .int p3), (5, .int p4), (6, .int p5), (7, .ref o0)]) hx hb dL_addPart_21 hl (Nat.le_of_ble_eq_true rfl) rfl (fun ls hl => ?_)
      refine lv_iconst (v := 1) hx hb dL_addPart_23 (by decide) ?_
      exact ret _ (fun _ => 0) _ _ _ _ _ _ (Or.inl (⟨rfl, hf1⟩)) (hP.sub [0] rfl) (hK.sub [0] rfl) (hD.sub [0] (by decide) rfl) hS (Nat.le_of_ble_eq_true rfl) (Nat.le_of_ble_eq_true rfl) dL_addPart_24
    · skip
      subst hE9
      have hf2 := hq9f
      refine vx_catch (name := "java/util/NoSuchElementException") hown [{ startPc := 0, endPc := 18, handlerPc := 21, catchType := 13 }] { startPc := 0, endPc := 18, handlerPc := 25, catchType := 21 } [{ startPc := 0, endPc := 18, handlerPc := 29, catchType := 15 }] (by rw [htab]; rfl) (fun z hz => by rw [List.mem_singleton.mp hz]; exact Or.inr ⟨by decide, "java/lang/IllegalArgumentException", hts (.classLink RL 13 "java/lang/IllegalArgumentException") (List.mem_cons_of_mem _ (List.mem_append_left _ (List.mem_append_left _ (List.mem_append_left _ (List.mem_append_left _ (List.mem_append_left _ (List.mem_append_left _ (List.mem_append_left _ (List.mem_append_left _ (List.mem_of_getElem? (i := 0) rfl)))))))))), hX.2.1⟩) rfl (by decide) (hts (.classLink RL 21 "java/util/NoSuchElementException") (List.mem_cons_of_mem _ (List.mem_append_left _ (List.mem_append_left _ (List.mem_append_left _ (List.mem_append_left _ (List.mem_append_left _ (List.mem_append_left _ (List.mem_append_left _ (List.mem_append_left _ (List.mem_of_getElem? (i := 1) rfl))))))))))) (va_Nw.use rfl (hN.1 _ (List.mem_of_getElem? (i := 55) rfl))) hq9 hv9 hc9 ?_
      refine lv_astore (lv' := [(8, .ref q9), (0, .ref h0), (1, .int p0), (2, .int p1), (3, .int p2), (4, .int p3), (5, .int p4), (6, .int p5), (7, .ref o0)]) hx hb dL_addPart_25 hl (Nat.le_of_ble_eq_true rfl) rfl (fun ls hl => ?_)
      refine lv_iconst (v := 2) hx hb dL_addPart_27 (by decide) ?_
      exact ret _ (fun _ => 0) _ _ _ _ _ _ (Or.inr (⟨rfl, hf2⟩)) (hP.sub [0] rfl) (hK.sub [0] rfl) (hD.sub [0] (by decide) rfl) hS (Nat.le_of_ble_eq_true rfl) (Nat.le_of_ble_eq_true rfl) dL_addPart_28
  · skip
    exact hw.elim

set_option maxHeartbeats 4000000 in
set_option maxRecDepth 100000 in
/-- the law: removePart on a fresh object -/
theorem kL_removePart (l : Launch) (hfl : l.stackTraces = false) (dC : Nat → ClassId) (dI : Nat → Nat → Nat) (h0 w d co un ma tm : Nat) (wL wP wS dL dP dS : Nat) (o0 : Nat) (cJ : ClassId) (p0 p1 : Int32) (sz : Nat) : gHi l yL_removePart wsL_removePart ({ frames := 9, cells := 2, slots := 12, locals := 146 } : Room) dC dI [.ref h0, .int p0, .int p1, .ref o0] [(h0, .inr (9, [.ref w, .ref d, .ref co, .ref un, .ref ma, .ref tm, .int 0, .int 0, .int 0])), (w, .inr (3, [.int 0, .int 0, .ref wL, .ref wP, .ref wS])), (d, .inr (3, [.int 0, .int 0, .ref dL, .ref dP, .ref dS])), (o0, .inl (cJ, 1, .inr (.inl (fun _ => 0))))] [(cJ, .long)] sz (fun (r : Int32) (u : Nat → Int64) => r = 1 ∧ (¬ ((p0 = 0) ∨ (p0 = 1))) ∨ r = 2 ∧ (¬ (¬ ((p0 = 0) ∨ (p0 = 1))))) (fun u => [(o0, .inl (cJ, 1, .inr (.inl u)))]) (fun u => [(cJ, .long)]) := by
  refine oH_i (y := yL_removePart) (cc := cL_removePart) (maxL := 5) (by decide) rfl (Nat.le_of_ble_eq_true rfl) ?_
  intro p e s m args below meth c ls A Q hx hb hr hml hown hts hN hZ hA hin hlk hP hK hD hl hX htab ret
  have hS : va_S A s.heap s.heap [] := va_S.rf
  have hl : lv_has ls 5 [(0, .ref h0), (1, .int p0), (2, .int p1), (3, .ref o0)] := hl
  have hP : va_P (dC, dI) vwCl [(h0, .inr (9, [.ref w, .ref d, .ref co, .ref un, .ref ma, .ref tm, .int 0, .int 0, .int 0])), (w, .inr (3, [.int 0, .int 0, .ref wL, .ref wP, .ref wS])), (d, .inr (3, [.int 0, .int 0, .ref dL, .ref dP, .ref dS])), (o0, .inl (cJ, 1, .inr (.inl (fun _ => 0))))] _ := hP
  have hD : va_D A [(h0, .inr (9, [.ref w, .ref d, .ref co, .ref un, .ref ma, .ref tm, .int 0, .int 0, .int 0])), (w, .inr (3, [.int 0, .int 0, .ref wL, .ref wP, .ref wS])), (d, .inr (3, [.int 0, .int 0, .ref dL, .ref dP, .ref dS])), (o0, .inl (cJ, 1, .inr (.inl (fun _ => 0))))] := hD
  refine lv_aload_n hx hb dL_removePart_0 rfl (lv_at hl 3 rfl) ?_
  refine lv_iconst (v := 0) hx hb dL_removePart_1 (by decide) ?_
  refine lv_aload_n hx hb dL_removePart_2 rfl (lv_at hl 0 rfl) ?_
  refine lv_iload_n hx hb dL_removePart_3 rfl (lv_at hl 1 rfl) ?_
  refine lv_iload_n hx hb dL_removePart_4 rfl (lv_at hl 2 rfl) ?_
  have hPc := hP.sub (ws' := [(h0, .inr (9, [.ref w, .ref d, .ref co, .ref un, .ref ma, .ref tm, .int 0, .int 0, .int 0])), (w, .inr (3, [.int 0, .int 0, .ref wL, .ref wP, .ref wS])), (d, .inr (3, [.int 0, .int 0, .ref dL, .ref dP, .ref dS]))]) [0, 1, 2] rfl
  have hDc := hD.sub (ws' := [(h0, .inr (9, [.ref w, .ref d, .ref co, .ref un, .ref ma, .ref tm, .int 0, .int 0, .int 0])), (w, .inr (3, [.int 0, .int 0, .ref wL, .ref wP, .ref wS])), (d, .inr (3, [.int 0, .int 0, .ref dL, .ref dP, .ref dS]))]) [0, 1, 2] (by decide) rfl
  have hKc := hK.sub (tys' := []) [] rfl
  have hFc := va_free (wc := [(h0, .inr (9, [.ref w, .ref d, .ref co, .ref un, .ref ma, .ref tm, .int 0, .int 0, .int 0])), (w, .inr (3, [.int 0, .int 0, .ref wL, .ref wP, .ref wS])), (d, .inr (3, [.int 0, .int 0, .ref dL, .ref dP, .ref dS]))]) hD hS hA [0, 1, 2] rfl
  refine vx_calli (vx_runV (As := [.int p0, .int p1]) (rest := [.int 0, .ref o0]) ⟨hx, hb, hml, hown, hts⟩ (kX6_removePart l hfl dC dI h0 w d co un ma tm wL wP wS dL dP dS p0 p1 s.heap.size) (cwV 2 hts gL_removePart_X6_removePart rfl rfl rfl (by decide +kernel) ⟨Nat.le_of_ble_eq_true rfl, Nat.le_of_ble_eq_true rfl⟩) (fPreV hN hZ hS (fun q h => hFc q h) hPc hKc hDc (ci := 9) (q0 := 0) rfl rfl) rfl rfl hl.1 rfl (lv_room (Nat.le_of_ble_eq_true rfl)) dL_removePart_5 ⟨Nat.le_of_ble_eq_true rfl, Nat.le_of_ble_eq_true rfl⟩) hS (fun q _ h => hFc q h) hFc (fun q _ h => hFc q h) (fun E ce q9 u t H locs ht hvm hpx hE hz1 hk1 hS hq9 hv9 hc9 => ?_) (fun r u t H1 locs ht hvm hw hB hz1 hk1 hS => ?_)
  · skip
    obtain ⟨hP, hD⟩ := va_join (wr := [(o0, .inl (cJ, 1, .inr (.inl (fun _ => 0))))]) (w1 := []) hP hD [0, 1, 2] [3] rfl rfl (by decide) (by decide) hk1 hFc (fun k q h => by simp at h) ⟨fun i j p q h => by simp at h, fun k q h => by simp at h⟩
    have hP : va_P (dC, dI) vwCl [(o0, .inl (cJ, 1, .inr (.inl (fun _ => 0))))] _ := hP
    have hD : va_D A [(o0, .inl (cJ, 1, .inr (.inl (fun _ => 0))))] := hD
    rcases hE with ⟨hE9, hq9f⟩ | ⟨hE9, hq9f⟩
    · skip
      subst hE9
      have hf1 := hq9f
      refine vx_catch (name := "java/lang/IllegalArgumentException") hown [] { startPc := 0, endPc := 10, handlerPc := 13, catchType := 13 } [{ startPc := 0, endPc := 10, handlerPc := 17, catchType := 21 }] (by rw [htab]; rfl) (fun z hz => by simp at hz) rfl (by decide) (hts (.classLink RL 13 "java/lang/IllegalArgumentException") (List.mem_cons_of_mem _ (List.mem_append_left _ (List.mem_append_left _ (List.mem_append_left _ (List.mem_append_left _ (List.mem_append_left _ (List.mem_append_left _ (List.mem_append_left _ (List.mem_of_getElem? (i := 0) rfl)))))))))) (va_Nw.use rfl (hN.1 _ (List.mem_of_getElem? (i := 50) rfl))) hq9 hv9 hc9 ?_
      refine lv_astore (lv' := [(4, .ref q9), (0, .ref h0), (1, .int p0), (2, .int p1), (3, .ref o0)]) hx hb dL_removePart_13 hl (Nat.le_of_ble_eq_true rfl) rfl (fun ls hl => ?_)
      refine lv_iconst (v := 1) hx hb dL_removePart_15 (by decide) ?_
      exact ret _ (fun _ => 0) _ _ _ _ _ _ (Or.inl (⟨rfl, hf1⟩)) (hP.sub [0] rfl) (hK.sub [0] rfl) (hD.sub [0] (by decide) rfl) hS (Nat.le_of_ble_eq_true rfl) (Nat.le_of_ble_eq_true rfl) dL_removePart_16
    · skip
      subst hE9
      have hf2 := hq9f
      refine vx_catch (name := "java/util/NoSuchElementException") hown [{ startPc := 0, endPc := 10, handlerPc := 13, catchType := 13 }] { startPc := 0, endPc := 10, handlerPc := 17, catchType := 21 } [] (by rw [htab]; rfl) (fun z hz => by rw [List.mem_singleton.mp hz]; exact Or.inr ⟨by decide, "java/lang/IllegalArgumentException", hts (.classLink RL 13 "java/lang/IllegalArgumentException") (List.mem_cons_of_mem _ (List.mem_append_left _ (List.mem_append_left _ (List.mem_append_left _ (List.mem_append_left _ (List.mem_append_left _ (List.mem_append_left _ (List.mem_append_left _ (List.mem_of_getElem? (i := 0) rfl))))))))), hX.2.1⟩) rfl (by decide) (hts (.classLink RL 21 "java/util/NoSuchElementException") (List.mem_cons_of_mem _ (List.mem_append_left _ (List.mem_append_left _ (List.mem_append_left _ (List.mem_append_left _ (List.mem_append_left _ (List.mem_append_left _ (List.mem_append_left _ (List.mem_of_getElem? (i := 1) rfl)))))))))) (va_Nw.use rfl (hN.1 _ (List.mem_of_getElem? (i := 55) rfl))) hq9 hv9 hc9 ?_
      refine lv_astore (lv' := [(4, .ref q9), (0, .ref h0), (1, .int p0), (2, .int p1), (3, .ref o0)]) hx hb dL_removePart_17 hl (Nat.le_of_ble_eq_true rfl) rfl (fun ls hl => ?_)
      refine lv_iconst (v := 2) hx hb dL_removePart_19 (by decide) ?_
      exact ret _ (fun _ => 0) _ _ _ _ _ _ (Or.inr (⟨rfl, hf2⟩)) (hP.sub [0] rfl) (hK.sub [0] rfl) (hD.sub [0] (by decide) rfl) hS (Nat.le_of_ble_eq_true rfl) (Nat.le_of_ble_eq_true rfl) dL_removePart_20
  · skip
    exact hw.elim

set_option maxHeartbeats 4000000 in
set_option maxRecDepth 100000 in
/-- the law: setValue on a fresh object -/
theorem kL_setValue (l : Launch) (hfl : l.stackTraces = false) (dC : Nat → ClassId) (dI : Nat → Nat → Nat) (h0 w d co un ma tm : Nat) (wL wP wS dL dP dS : Nat) (o0 : Nat) (cJ : ClassId) (p0 p1 p2 : Int32) (sz : Nat) : gHi l yL_setValue wsL_setValue ({ frames := 9, cells := 3, slots := 18, locals := 148 } : Room) dC dI [.ref h0, .int p0, .int p1, .int p2, .ref o0] [(h0, .inr (9, [.ref w, .ref d, .ref co, .ref un, .ref ma, .ref tm, .int 0, .int 0, .int 0])), (w, .inr (3, [.int 0, .int 0, .ref wL, .ref wP, .ref wS])), (d, .inr (3, [.int 0, .int 0, .ref dL, .ref dP, .ref dS])), (o0, .inl (cJ, 1, .inr (.inl (fun _ => 0))))] [(cJ, .long)] sz (fun (r : Int32) (u : Nat → Int64) => r = 1 ∧ ((¬ ((p0 = 0) ∨ (p0 = 1))) ∨ (¬ ((¬ (p2 < 1)) ∧ (¬ (999 < p2))))) ∨ r = 2 ∧ (¬ ((¬ ((p0 = 0) ∨ (p0 = 1))) ∨ (¬ ((¬ (p2 < 1)) ∧ (¬ (999 < p2))))))) (fun u => [(o0, .inl (cJ, 1, .inr (.inl u)))]) (fun u => [(cJ, .long)]) := by
  refine oH_i (y := yL_setValue) (cc := cL_setValue) (maxL := 6) (by decide) rfl (Nat.le_of_ble_eq_true rfl) ?_
  intro p e s m args below meth c ls A Q hx hb hr hml hown hts hN hZ hA hin hlk hP hK hD hl hX htab ret
  have hS : va_S A s.heap s.heap [] := va_S.rf
  have hl : lv_has ls 6 [(0, .ref h0), (1, .int p0), (2, .int p1), (3, .int p2), (4, .ref o0)] := hl
  have hP : va_P (dC, dI) vwCl [(h0, .inr (9, [.ref w, .ref d, .ref co, .ref un, .ref ma, .ref tm, .int 0, .int 0, .int 0])), (w, .inr (3, [.int 0, .int 0, .ref wL, .ref wP, .ref wS])), (d, .inr (3, [.int 0, .int 0, .ref dL, .ref dP, .ref dS])), (o0, .inl (cJ, 1, .inr (.inl (fun _ => 0))))] _ := hP
  have hD : va_D A [(h0, .inr (9, [.ref w, .ref d, .ref co, .ref un, .ref ma, .ref tm, .int 0, .int 0, .int 0])), (w, .inr (3, [.int 0, .int 0, .ref wL, .ref wP, .ref wS])), (d, .inr (3, [.int 0, .int 0, .ref dL, .ref dP, .ref dS])), (o0, .inl (cJ, 1, .inr (.inl (fun _ => 0))))] := hD
  refine lv_aload hx hb dL_setValue_0 (lv_at hl 4 rfl) ?_
  refine lv_iconst (v := 0) hx hb dL_setValue_2 (by decide) ?_
  refine lv_aload_n hx hb dL_setValue_3 rfl (lv_at hl 0 rfl) ?_
  refine lv_iload_n hx hb dL_setValue_4 rfl (lv_at hl 1 rfl) ?_
  refine lv_iload_n hx hb dL_setValue_5 rfl (lv_at hl 2 rfl) ?_
  refine lv_iload_n hx hb dL_setValue_6 rfl (lv_at hl 3 rfl) ?_
  have hPc := hP.sub (ws' := [(h0, .inr (9, [.ref w, .ref d, .ref co, .ref un, .ref ma, .ref tm, .int 0, .int 0, .int 0])), (w, .inr (3, [.int 0, .int 0, .ref wL, .ref wP, .ref wS])), (d, .inr (3, [.int 0, .int 0, .ref dL, .ref dP, .ref dS]))]) [0, 1, 2] rfl
  have hDc := hD.sub (ws' := [(h0, .inr (9, [.ref w, .ref d, .ref co, .ref un, .ref ma, .ref tm, .int 0, .int 0, .int 0])), (w, .inr (3, [.int 0, .int 0, .ref wL, .ref wP, .ref wS])), (d, .inr (3, [.int 0, .int 0, .ref dL, .ref dP, .ref dS]))]) [0, 1, 2] (by decide) rfl
  have hKc := hK.sub (tys' := []) [] rfl
  have hFc := va_free (wc := [(h0, .inr (9, [.ref w, .ref d, .ref co, .ref un, .ref ma, .ref tm, .int 0, .int 0, .int 0])), (w, .inr (3, [.int 0, .int 0, .ref wL, .ref wP, .ref wS])), (d, .inr (3, [.int 0, .int 0, .ref dL, .ref dP, .ref dS]))]) hD hS hA [0, 1, 2] rfl
  refine vx_calli (vx_runV (As := [.int p0, .int p1, .int p2]) (rest := [.int 0, .ref o0]) ⟨hx, hb, hml, hown, hts⟩ (kX6_setValue l hfl dC dI h0 w d co un ma tm wL wP wS dL dP dS p0 p1 p2 s.heap.size) (cwV 3 hts gL_setValue_X6_setValue rfl rfl rfl (by decide +kernel) ⟨Nat.le_of_ble_eq_true rfl, Nat.le_of_ble_eq_true rfl⟩) (fPreV hN hZ hS (fun q h => hFc q h) hPc hKc hDc (ci := 9) (q0 := 0) rfl rfl) rfl rfl hl.1 rfl (lv_room (Nat.le_of_ble_eq_true rfl)) dL_setValue_7 ⟨Nat.le_of_ble_eq_true rfl, Nat.le_of_ble_eq_true rfl⟩) hS (fun q _ h => hFc q h) hFc (fun q _ h => hFc q h) (fun E ce q9 u t H locs ht hvm hpx hE hz1 hk1 hS hq9 hv9 hc9 => ?_) (fun r u t H1 locs ht hvm hw hB hz1 hk1 hS => ?_)
  · skip
    obtain ⟨hP, hD⟩ := va_join (wr := [(o0, .inl (cJ, 1, .inr (.inl (fun _ => 0))))]) (w1 := []) hP hD [0, 1, 2] [3] rfl rfl (by decide) (by decide) hk1 hFc (fun k q h => by simp at h) ⟨fun i j p q h => by simp at h, fun k q h => by simp at h⟩
    have hP : va_P (dC, dI) vwCl [(o0, .inl (cJ, 1, .inr (.inl (fun _ => 0))))] _ := hP
    have hD : va_D A [(o0, .inl (cJ, 1, .inr (.inl (fun _ => 0))))] := hD
    rcases hE with ⟨hE9, hq9f⟩ | ⟨hE9, hq9f⟩
    · skip
      subst hE9
      have hf1 := hq9f
      refine vx_catch (name := "java/lang/IllegalArgumentException") hown [] { startPc := 0, endPc := 12, handlerPc := 15, catchType := 13 } [{ startPc := 0, endPc := 12, handlerPc := 19, catchType := 21 }] (by rw [htab]; rfl) (fun z hz => by simp at hz) rfl (by decide) (hts (.classLink RL 13 "java/lang/IllegalArgumentException") (List.mem_cons_of_mem _ (List.mem_append_left _ (List.mem_append_left _ (List.mem_append_left _ (List.mem_append_left _ (List.mem_append_left _ (List.mem_append_left _ (List.mem_append_left _ (List.mem_of_getElem? (i := 0) rfl)))))))))) (va_Nw.use rfl (hN.1 _ (List.mem_of_getElem? (i := 50) rfl))) hq9 hv9 hc9 ?_
      refine lv_astore (lv' := [(5, .ref q9), (0, .ref h0), (1, .int p0), (2, .int p1), (3, .int p2), (4, .ref o0)]) hx hb dL_setValue_15 hl (Nat.le_of_ble_eq_true rfl) rfl (fun ls hl => ?_)
      refine lv_iconst (v := 1) hx hb dL_setValue_17 (by decide) ?_
      exact ret _ (fun _ => 0) _ _ _ _ _ _ (Or.inl (⟨rfl, hf1⟩)) (hP.sub [0] rfl) (hK.sub [0] rfl) (hD.sub [0] (by decide) rfl) hS (Nat.le_of_ble_eq_true rfl) (Nat.le_of_ble_eq_true rfl) dL_setValue_18
    · skip
      subst hE9
      have hf2 := hq9f
      refine vx_catch (name := "java/util/NoSuchElementException") hown [{ startPc := 0, endPc := 12, handlerPc := 15, catchType := 13 }] { startPc := 0, endPc := 12, handlerPc := 19, catchType := 21 } [] (by rw [htab]; rfl) (fun z hz => by rw [List.mem_singleton.mp hz]; exact Or.inr ⟨by decide, "java/lang/IllegalArgumentException", hts (.classLink RL 13 "java/lang/IllegalArgumentException") (List.mem_cons_of_mem _ (List.mem_append_left _ (List.mem_append_left _ (List.mem_append_left _ (List.mem_append_left _ (List.mem_append_left _ (List.mem_append_left _ (List.mem_append_left _ (List.mem_of_getElem? (i := 0) rfl))))))))), hX.2.1⟩) rfl (by decide) (hts (.classLink RL 21 "java/util/NoSuchElementException") (List.mem_cons_of_mem _ (List.mem_append_left _ (List.mem_append_left _ (List.mem_append_left _ (List.mem_append_left _ (List.mem_append_left _ (List.mem_append_left _ (List.mem_append_left _ (List.mem_of_getElem? (i := 1) rfl)))))))))) (va_Nw.use rfl (hN.1 _ (List.mem_of_getElem? (i := 55) rfl))) hq9 hv9 hc9 ?_
      refine lv_astore (lv' := [(5, .ref q9), (0, .ref h0), (1, .int p0), (2, .int p1), (3, .int p2), (4, .ref o0)]) hx hb dL_setValue_19 hl (Nat.le_of_ble_eq_true rfl) rfl (fun ls hl => ?_)
      refine lv_iconst (v := 2) hx hb dL_setValue_21 (by decide) ?_
      exact ret _ (fun _ => 0) _ _ _ _ _ _ (Or.inr (⟨rfl, hf2⟩)) (hP.sub [0] rfl) (hK.sub [0] rfl) (hD.sub [0] (by decide) rfl) hS (Nat.le_of_ble_eq_true rfl) (Nat.le_of_ble_eq_true rfl) dL_setValue_22
  · skip
    exact hw.elim

set_option maxHeartbeats 4000000 in
set_option maxRecDepth 100000 in
/-- the law: rewire on a fresh object -/
theorem kL_rewire (l : Launch) (hfl : l.stackTraces = false) (dC : Nat → ClassId) (dI : Nat → Nat → Nat) (h0 w d co un ma tm : Nat) (wL wP wS dL dP dS : Nat) (o0 : Nat) (cJ : ClassId) (p0 p1 p2 p3 : Int32) (sz : Nat) : gHi l yL_rewire wsL_rewire ({ frames := 9, cells := 2, slots := 12, locals := 149 } : Room) dC dI [.ref h0, .int p0, .int p1, .int p2, .int p3, .ref o0] [(h0, .inr (9, [.ref w, .ref d, .ref co, .ref un, .ref ma, .ref tm, .int 0, .int 0, .int 0])), (w, .inr (3, [.int 0, .int 0, .ref wL, .ref wP, .ref wS])), (d, .inr (3, [.int 0, .int 0, .ref dL, .ref dP, .ref dS])), (o0, .inl (cJ, 1, .inr (.inl (fun _ => 0))))] [(cJ, .long)] sz (fun (r : Int32) (u : Nat → Int64) => r = 1 ∧ (¬ ((p0 = 0) ∨ (p0 = 1))) ∨ r = 2 ∧ (¬ (¬ ((p0 = 0) ∨ (p0 = 1))))) (fun u => [(o0, .inl (cJ, 1, .inr (.inl u)))]) (fun u => [(cJ, .long)]) := by
  refine oH_i (y := yL_rewire) (cc := cL_rewire) (maxL := 7) (by decide) rfl (Nat.le_of_ble_eq_true rfl) ?_
  intro p e s m args below meth c ls A Q hx hb hr hml hown hts hN hZ hA hin hlk hP hK hD hl hX htab ret
  have hS : va_S A s.heap s.heap [] := va_S.rf
  have hl : lv_has ls 7 [(0, .ref h0), (1, .int p0), (2, .int p1), (3, .int p2), (4, .int p3), (5, .ref o0)] := hl
  have hP : va_P (dC, dI) vwCl [(h0, .inr (9, [.ref w, .ref d, .ref co, .ref un, .ref ma, .ref tm, .int 0, .int 0, .int 0])), (w, .inr (3, [.int 0, .int 0, .ref wL, .ref wP, .ref wS])), (d, .inr (3, [.int 0, .int 0, .ref dL, .ref dP, .ref dS])), (o0, .inl (cJ, 1, .inr (.inl (fun _ => 0))))] _ := hP
  have hD : va_D A [(h0, .inr (9, [.ref w, .ref d, .ref co, .ref un, .ref ma, .ref tm, .int 0, .int 0, .int 0])), (w, .inr (3, [.int 0, .int 0, .ref wL, .ref wP, .ref wS])), (d, .inr (3, [.int 0, .int 0, .ref dL, .ref dP, .ref dS])), (o0, .inl (cJ, 1, .inr (.inl (fun _ => 0))))] := hD
  refine lv_aload hx hb dL_rewire_0 (lv_at hl 5 rfl) ?_
  refine lv_iconst (v := 0) hx hb dL_rewire_2 (by decide) ?_
  refine lv_aload_n hx hb dL_rewire_3 rfl (lv_at hl 0 rfl) ?_
  refine lv_iload_n hx hb dL_rewire_4 rfl (lv_at hl 1 rfl) ?_
  refine lv_iload_n hx hb dL_rewire_5 rfl (lv_at hl 2 rfl) ?_
  refine lv_iload_n hx hb dL_rewire_6 rfl (lv_at hl 3 rfl) ?_
  refine lv_iload hx hb dL_rewire_7 (lv_at hl 4 rfl) ?_
  have hPc := hP.sub (ws' := [(h0, .inr (9, [.ref w, .ref d, .ref co, .ref un, .ref ma, .ref tm, .int 0, .int 0, .int 0])), (w, .inr (3, [.int 0, .int 0, .ref wL, .ref wP, .ref wS])), (d, .inr (3, [.int 0, .int 0, .ref dL, .ref dP, .ref dS]))]) [0, 1, 2] rfl
  have hDc := hD.sub (ws' := [(h0, .inr (9, [.ref w, .ref d, .ref co, .ref un, .ref ma, .ref tm, .int 0, .int 0, .int 0])), (w, .inr (3, [.int 0, .int 0, .ref wL, .ref wP, .ref wS])), (d, .inr (3, [.int 0, .int 0, .ref dL, .ref dP, .ref dS]))]) [0, 1, 2] (by decide) rfl
  have hKc := hK.sub (tys' := []) [] rfl
  have hFc := va_free (wc := [(h0, .inr (9, [.ref w, .ref d, .ref co, .ref un, .ref ma, .ref tm, .int 0, .int 0, .int 0])), (w, .inr (3, [.int 0, .int 0, .ref wL, .ref wP, .ref wS])), (d, .inr (3, [.int 0, .int 0, .ref dL, .ref dP, .ref dS]))]) hD hS hA [0, 1, 2] rfl
  refine vx_calli (vx_runV (As := [.int p0, .int p1, .int p2, .int p3]) (rest := [.int 0, .ref o0]) ⟨hx, hb, hml, hown, hts⟩ (kX6_rewire l hfl dC dI h0 w d co un ma tm wL wP wS dL dP dS p0 p1 p2 p3 s.heap.size) (cwV 4 hts gL_rewire_X6_rewire rfl rfl rfl (by decide +kernel) ⟨Nat.le_of_ble_eq_true rfl, Nat.le_of_ble_eq_true rfl⟩) (fPreV hN hZ hS (fun q h => hFc q h) hPc hKc hDc (ci := 9) (q0 := 0) rfl rfl) rfl rfl hl.1 rfl (lv_room (Nat.le_of_ble_eq_true rfl)) dL_rewire_9 ⟨Nat.le_of_ble_eq_true rfl, Nat.le_of_ble_eq_true rfl⟩) hS (fun q _ h => hFc q h) hFc (fun q _ h => hFc q h) (fun E ce q9 u t H locs ht hvm hpx hE hz1 hk1 hS hq9 hv9 hc9 => ?_) (fun r u t H1 locs ht hvm hw hB hz1 hk1 hS => ?_)
  · skip
    obtain ⟨hP, hD⟩ := va_join (wr := [(o0, .inl (cJ, 1, .inr (.inl (fun _ => 0))))]) (w1 := []) hP hD [0, 1, 2] [3] rfl rfl (by decide) (by decide) hk1 hFc (fun k q h => by simp at h) ⟨fun i j p q h => by simp at h, fun k q h => by simp at h⟩
    have hP : va_P (dC, dI) vwCl [(o0, .inl (cJ, 1, .inr (.inl (fun _ => 0))))] _ := hP
    have hD : va_D A [(o0, .inl (cJ, 1, .inr (.inl (fun _ => 0))))] := hD
    rcases hE with ⟨hE9, hq9f⟩ | ⟨hE9, hq9f⟩
    · skip
      subst hE9
      have hf1 := hq9f
      refine vx_catch (name := "java/lang/IllegalArgumentException") hown [] { startPc := 0, endPc := 14, handlerPc := 17, catchType := 13 } [{ startPc := 0, endPc := 14, handlerPc := 21, catchType := 21 }, { startPc := 0, endPc := 14, handlerPc := 25, catchType := 39 }, { startPc := 0, endPc := 14, handlerPc := 29, catchType := 41 }] (by rw [htab]; rfl) (fun z hz => by simp at hz) rfl (by decide) (hts (.classLink RL 13 "java/lang/IllegalArgumentException") (List.mem_cons_of_mem _ (List.mem_append_left _ (List.mem_append_left _ (List.mem_append_left _ (List.mem_append_left _ (List.mem_append_left _ (List.mem_append_left _ (List.mem_append_left _ (List.mem_append_left _ (List.mem_append_left _ (List.mem_of_getElem? (i := 0) rfl)))))))))))) (va_Nw.use rfl (hN.1 _ (List.mem_of_getElem? (i := 50) rfl))) hq9 hv9 hc9 ?_
      refine lv_astore (lv' := [(6, .ref q9), (0, .ref h0), (1, .int p0), (2, .int p1), (3, .int p2), (4, .int p3), (5, .ref o0)]) hx hb dL_rewire_17 hl (Nat.le_of_ble_eq_true rfl) rfl (fun ls hl => ?_)
      refine lv_iconst (v := 1) hx hb dL_rewire_19 (by decide) ?_
      exact ret _ (fun _ => 0) _ _ _ _ _ _ (Or.inl (⟨rfl, hf1⟩)) (hP.sub [0] rfl) (hK.sub [0] rfl) (hD.sub [0] (by decide) rfl) hS (Nat.le_of_ble_eq_true rfl) (Nat.le_of_ble_eq_true rfl) dL_rewire_20
    · skip
      subst hE9
      have hf2 := hq9f
      refine vx_catch (name := "java/util/NoSuchElementException") hown [{ startPc := 0, endPc := 14, handlerPc := 17, catchType := 13 }] { startPc := 0, endPc := 14, handlerPc := 21, catchType := 21 } [{ startPc := 0, endPc := 14, handlerPc := 25, catchType := 39 }, { startPc := 0, endPc := 14, handlerPc := 29, catchType := 41 }] (by rw [htab]; rfl) (fun z hz => by rw [List.mem_singleton.mp hz]; exact Or.inr ⟨by decide, "java/lang/IllegalArgumentException", hts (.classLink RL 13 "java/lang/IllegalArgumentException") (List.mem_cons_of_mem _ (List.mem_append_left _ (List.mem_append_left _ (List.mem_append_left _ (List.mem_append_left _ (List.mem_append_left _ (List.mem_append_left _ (List.mem_append_left _ (List.mem_append_left _ (List.mem_append_left _ (List.mem_of_getElem? (i := 0) rfl))))))))))), hX.2.1⟩) rfl (by decide) (hts (.classLink RL 21 "java/util/NoSuchElementException") (List.mem_cons_of_mem _ (List.mem_append_left _ (List.mem_append_left _ (List.mem_append_left _ (List.mem_append_left _ (List.mem_append_left _ (List.mem_append_left _ (List.mem_append_left _ (List.mem_append_left _ (List.mem_append_left _ (List.mem_of_getElem? (i := 1) rfl)))))))))))) (va_Nw.use rfl (hN.1 _ (List.mem_of_getElem? (i := 55) rfl))) hq9 hv9 hc9 ?_
      refine lv_astore (lv' := [(6, .ref q9), (0, .ref h0), (1, .int p0), (2, .int p1), (3, .int p2), (4, .int p3), (5, .ref o0)]) hx hb dL_rewire_21 hl (Nat.le_of_ble_eq_true rfl) rfl (fun ls hl => ?_)
      refine lv_iconst (v := 2) hx hb dL_rewire_23 (by decide) ?_
      exact ret _ (fun _ => 0) _ _ _ _ _ _ (Or.inr (⟨rfl, hf2⟩)) (hP.sub [0] rfl) (hK.sub [0] rfl) (hD.sub [0] (by decide) rfl) hS (Nat.le_of_ble_eq_true rfl) (Nat.le_of_ble_eq_true rfl) dL_rewire_24
  · skip
    exact hw.elim

set_option maxHeartbeats 4000000 in
set_option maxRecDepth 100000 in
/-- the law: swapPins on a fresh object -/
theorem kL_swapPins (l : Launch) (hfl : l.stackTraces = false) (dC : Nat → ClassId) (dI : Nat → Nat → Nat) (h0 w d co un ma tm : Nat) (wL wP wS dL dP dS : Nat) (o0 : Nat) (cJ : ClassId) (p0 p1 : Int32) (sz : Nat) : gHi l yL_swapPins wsL_swapPins ({ frames := 9, cells := 2, slots := 12, locals := 146 } : Room) dC dI [.ref h0, .int p0, .int p1, .ref o0] [(h0, .inr (9, [.ref w, .ref d, .ref co, .ref un, .ref ma, .ref tm, .int 0, .int 0, .int 0])), (w, .inr (3, [.int 0, .int 0, .ref wL, .ref wP, .ref wS])), (d, .inr (3, [.int 0, .int 0, .ref dL, .ref dP, .ref dS])), (o0, .inl (cJ, 1, .inr (.inl (fun _ => 0))))] [(cJ, .long)] sz (fun (r : Int32) (u : Nat → Int64) => r = 1 ∧ (¬ ((p0 = 0) ∨ (p0 = 1))) ∨ r = 2 ∧ (¬ (¬ ((p0 = 0) ∨ (p0 = 1))))) (fun u => [(o0, .inl (cJ, 1, .inr (.inl u)))]) (fun u => [(cJ, .long)]) := by
  refine oH_i (y := yL_swapPins) (cc := cL_swapPins) (maxL := 5) (by decide) rfl (Nat.le_of_ble_eq_true rfl) ?_
  intro p e s m args below meth c ls A Q hx hb hr hml hown hts hN hZ hA hin hlk hP hK hD hl hX htab ret
  have hS : va_S A s.heap s.heap [] := va_S.rf
  have hl : lv_has ls 5 [(0, .ref h0), (1, .int p0), (2, .int p1), (3, .ref o0)] := hl
  have hP : va_P (dC, dI) vwCl [(h0, .inr (9, [.ref w, .ref d, .ref co, .ref un, .ref ma, .ref tm, .int 0, .int 0, .int 0])), (w, .inr (3, [.int 0, .int 0, .ref wL, .ref wP, .ref wS])), (d, .inr (3, [.int 0, .int 0, .ref dL, .ref dP, .ref dS])), (o0, .inl (cJ, 1, .inr (.inl (fun _ => 0))))] _ := hP
  have hD : va_D A [(h0, .inr (9, [.ref w, .ref d, .ref co, .ref un, .ref ma, .ref tm, .int 0, .int 0, .int 0])), (w, .inr (3, [.int 0, .int 0, .ref wL, .ref wP, .ref wS])), (d, .inr (3, [.int 0, .int 0, .ref dL, .ref dP, .ref dS])), (o0, .inl (cJ, 1, .inr (.inl (fun _ => 0))))] := hD
  refine lv_aload_n hx hb dL_swapPins_0 rfl (lv_at hl 3 rfl) ?_
  refine lv_iconst (v := 0) hx hb dL_swapPins_1 (by decide) ?_
  refine lv_aload_n hx hb dL_swapPins_2 rfl (lv_at hl 0 rfl) ?_
  refine lv_iload_n hx hb dL_swapPins_3 rfl (lv_at hl 1 rfl) ?_
  refine lv_iload_n hx hb dL_swapPins_4 rfl (lv_at hl 2 rfl) ?_
  have hPc := hP.sub (ws' := [(h0, .inr (9, [.ref w, .ref d, .ref co, .ref un, .ref ma, .ref tm, .int 0, .int 0, .int 0])), (w, .inr (3, [.int 0, .int 0, .ref wL, .ref wP, .ref wS])), (d, .inr (3, [.int 0, .int 0, .ref dL, .ref dP, .ref dS]))]) [0, 1, 2] rfl
  have hDc := hD.sub (ws' := [(h0, .inr (9, [.ref w, .ref d, .ref co, .ref un, .ref ma, .ref tm, .int 0, .int 0, .int 0])), (w, .inr (3, [.int 0, .int 0, .ref wL, .ref wP, .ref wS])), (d, .inr (3, [.int 0, .int 0, .ref dL, .ref dP, .ref dS]))]) [0, 1, 2] (by decide) rfl
  have hKc := hK.sub (tys' := []) [] rfl
  have hFc := va_free (wc := [(h0, .inr (9, [.ref w, .ref d, .ref co, .ref un, .ref ma, .ref tm, .int 0, .int 0, .int 0])), (w, .inr (3, [.int 0, .int 0, .ref wL, .ref wP, .ref wS])), (d, .inr (3, [.int 0, .int 0, .ref dL, .ref dP, .ref dS]))]) hD hS hA [0, 1, 2] rfl
  refine vx_calli (vx_runV (As := [.int p0, .int p1]) (rest := [.int 0, .ref o0]) ⟨hx, hb, hml, hown, hts⟩ (kX6_swapPins l hfl dC dI h0 w d co un ma tm wL wP wS dL dP dS p0 p1 s.heap.size) (cwV 2 hts gL_swapPins_X6_swapPins rfl rfl rfl (by decide +kernel) ⟨Nat.le_of_ble_eq_true rfl, Nat.le_of_ble_eq_true rfl⟩) (fPreV hN hZ hS (fun q h => hFc q h) hPc hKc hDc (ci := 9) (q0 := 0) rfl rfl) rfl rfl hl.1 rfl (lv_room (Nat.le_of_ble_eq_true rfl)) dL_swapPins_5 ⟨Nat.le_of_ble_eq_true rfl, Nat.le_of_ble_eq_true rfl⟩) hS (fun q _ h => hFc q h) hFc (fun q _ h => hFc q h) (fun E ce q9 u t H locs ht hvm hpx hE hz1 hk1 hS hq9 hv9 hc9 => ?_) (fun r u t H1 locs ht hvm hw hB hz1 hk1 hS => ?_)
  · skip
    obtain ⟨hP, hD⟩ := va_join (wr := [(o0, .inl (cJ, 1, .inr (.inl (fun _ => 0))))]) (w1 := []) hP hD [0, 1, 2] [3] rfl rfl (by decide) (by decide) hk1 hFc (fun k q h => by simp at h) ⟨fun i j p q h => by simp at h, fun k q h => by simp at h⟩
    have hP : va_P (dC, dI) vwCl [(o0, .inl (cJ, 1, .inr (.inl (fun _ => 0))))] _ := hP
    have hD : va_D A [(o0, .inl (cJ, 1, .inr (.inl (fun _ => 0))))] := hD
    rcases hE with ⟨hE9, hq9f⟩ | ⟨hE9, hq9f⟩
    · skip
      subst hE9
      have hf1 := hq9f
      refine vx_catch (name := "java/lang/IllegalArgumentException") hown [] { startPc := 0, endPc := 10, handlerPc := 13, catchType := 13 } [{ startPc := 0, endPc := 10, handlerPc := 17, catchType := 21 }, { startPc := 0, endPc := 10, handlerPc := 21, catchType := 41 }] (by rw [htab]; rfl) (fun z hz => by simp at hz) rfl (by decide) (hts (.classLink RL 13 "java/lang/IllegalArgumentException") (List.mem_cons_of_mem _ (List.mem_append_left _ (List.mem_append_left _ (List.mem_append_left _ (List.mem_append_left _ (List.mem_append_left _ (List.mem_append_left _ (List.mem_append_left _ (List.mem_append_left _ (List.mem_of_getElem? (i := 0) rfl))))))))))) (va_Nw.use rfl (hN.1 _ (List.mem_of_getElem? (i := 50) rfl))) hq9 hv9 hc9 ?_
      refine lv_astore (lv' := [(4, .ref q9), (0, .ref h0), (1, .int p0), (2, .int p1), (3, .ref o0)]) hx hb dL_swapPins_13 hl (Nat.le_of_ble_eq_true rfl) rfl (fun ls hl => ?_)
      refine lv_iconst (v := 1) hx hb dL_swapPins_15 (by decide) ?_
      exact ret _ (fun _ => 0) _ _ _ _ _ _ (Or.inl (⟨rfl, hf1⟩)) (hP.sub [0] rfl) (hK.sub [0] rfl) (hD.sub [0] (by decide) rfl) hS (Nat.le_of_ble_eq_true rfl) (Nat.le_of_ble_eq_true rfl) dL_swapPins_16
    · skip
      subst hE9
      have hf2 := hq9f
      refine vx_catch (name := "java/util/NoSuchElementException") hown [{ startPc := 0, endPc := 10, handlerPc := 13, catchType := 13 }] { startPc := 0, endPc := 10, handlerPc := 17, catchType := 21 } [{ startPc := 0, endPc := 10, handlerPc := 21, catchType := 41 }] (by rw [htab]; rfl) (fun z hz => by rw [List.mem_singleton.mp hz]; exact Or.inr ⟨by decide, "java/lang/IllegalArgumentException", hts (.classLink RL 13 "java/lang/IllegalArgumentException") (List.mem_cons_of_mem _ (List.mem_append_left _ (List.mem_append_left _ (List.mem_append_left _ (List.mem_append_left _ (List.mem_append_left _ (List.mem_append_left _ (List.mem_append_left _ (List.mem_append_left _ (List.mem_of_getElem? (i := 0) rfl)))))))))), hX.2.1⟩) rfl (by decide) (hts (.classLink RL 21 "java/util/NoSuchElementException") (List.mem_cons_of_mem _ (List.mem_append_left _ (List.mem_append_left _ (List.mem_append_left _ (List.mem_append_left _ (List.mem_append_left _ (List.mem_append_left _ (List.mem_append_left _ (List.mem_append_left _ (List.mem_of_getElem? (i := 1) rfl))))))))))) (va_Nw.use rfl (hN.1 _ (List.mem_of_getElem? (i := 55) rfl))) hq9 hv9 hc9 ?_
      refine lv_astore (lv' := [(4, .ref q9), (0, .ref h0), (1, .int p0), (2, .int p1), (3, .ref o0)]) hx hb dL_swapPins_17 hl (Nat.le_of_ble_eq_true rfl) rfl (fun ls hl => ?_)
      refine lv_iconst (v := 2) hx hb dL_swapPins_19 (by decide) ?_
      exact ret _ (fun _ => 0) _ _ _ _ _ _ (Or.inr (⟨rfl, hf2⟩)) (hP.sub [0] rfl) (hK.sub [0] rfl) (hD.sub [0] (by decide) rfl) hS (Nat.le_of_ble_eq_true rfl) (Nat.le_of_ble_eq_true rfl) dL_swapPins_20
  · skip
    exact hw.elim

set_option maxHeartbeats 4000000 in
set_option maxRecDepth 100000 in
/-- the law: canJoin on a fresh object -/
theorem kL_canJoin (l : Launch) (hfl : l.stackTraces = false) (dC : Nat → ClassId) (dI : Nat → Nat → Nat) (h0 w d co un ma tm : Nat) (wL wP wS dL dP dS : Nat) (o0 : Nat) (cJ : ClassId) (p0 p1 p2 : Int32) (sz : Nat) : gHi l yL_canJoin wsL_canJoin ({ frames := 9, cells := 2, slots := 12, locals := 147 } : Room) dC dI [.ref h0, .int p0, .int p1, .int p2, .ref o0] [(h0, .inr (9, [.ref w, .ref d, .ref co, .ref un, .ref ma, .ref tm, .int 0, .int 0, .int 0])), (w, .inr (3, [.int 0, .int 0, .ref wL, .ref wP, .ref wS])), (d, .inr (3, [.int 0, .int 0, .ref dL, .ref dP, .ref dS])), (o0, .inl (cJ, 1, .inr (.inl (fun _ => 0))))] [(cJ, .long)] sz (fun (r : Int32) (u : Nat → Int64) => r = 1 ∧ (¬ ((p0 = 0) ∨ (p0 = 1))) ∨ r = 2 ∧ (¬ (¬ ((p0 = 0) ∨ (p0 = 1))))) (fun u => [(o0, .inl (cJ, 1, .inr (.inl u)))]) (fun u => [(cJ, .long)]) := by
  refine oH_i (y := yL_canJoin) (cc := cL_canJoin) (maxL := 6) (by decide) rfl (Nat.le_of_ble_eq_true rfl) ?_
  intro p e s m args below meth c ls A Q hx hb hr hml hown hts hN hZ hA hin hlk hP hK hD hl hX htab ret
  have hS : va_S A s.heap s.heap [] := va_S.rf
  have hl : lv_has ls 6 [(0, .ref h0), (1, .int p0), (2, .int p1), (3, .int p2), (4, .ref o0)] := hl
  have hP : va_P (dC, dI) vwCl [(h0, .inr (9, [.ref w, .ref d, .ref co, .ref un, .ref ma, .ref tm, .int 0, .int 0, .int 0])), (w, .inr (3, [.int 0, .int 0, .ref wL, .ref wP, .ref wS])), (d, .inr (3, [.int 0, .int 0, .ref dL, .ref dP, .ref dS])), (o0, .inl (cJ, 1, .inr (.inl (fun _ => 0))))] _ := hP
  have hD : va_D A [(h0, .inr (9, [.ref w, .ref d, .ref co, .ref un, .ref ma, .ref tm, .int 0, .int 0, .int 0])), (w, .inr (3, [.int 0, .int 0, .ref wL, .ref wP, .ref wS])), (d, .inr (3, [.int 0, .int 0, .ref dL, .ref dP, .ref dS])), (o0, .inl (cJ, 1, .inr (.inl (fun _ => 0))))] := hD
  refine lv_aload hx hb dL_canJoin_0 (lv_at hl 4 rfl) ?_
  refine lv_iconst (v := 0) hx hb dL_canJoin_2 (by decide) ?_
  refine lv_aload_n hx hb dL_canJoin_3 rfl (lv_at hl 0 rfl) ?_
  refine lv_iload_n hx hb dL_canJoin_4 rfl (lv_at hl 1 rfl) ?_
  refine lv_iload_n hx hb dL_canJoin_5 rfl (lv_at hl 2 rfl) ?_
  refine lv_iload_n hx hb dL_canJoin_6 rfl (lv_at hl 3 rfl) ?_
  have hPc := hP.sub (ws' := [(h0, .inr (9, [.ref w, .ref d, .ref co, .ref un, .ref ma, .ref tm, .int 0, .int 0, .int 0])), (w, .inr (3, [.int 0, .int 0, .ref wL, .ref wP, .ref wS])), (d, .inr (3, [.int 0, .int 0, .ref dL, .ref dP, .ref dS]))]) [0, 1, 2] rfl
  have hDc := hD.sub (ws' := [(h0, .inr (9, [.ref w, .ref d, .ref co, .ref un, .ref ma, .ref tm, .int 0, .int 0, .int 0])), (w, .inr (3, [.int 0, .int 0, .ref wL, .ref wP, .ref wS])), (d, .inr (3, [.int 0, .int 0, .ref dL, .ref dP, .ref dS]))]) [0, 1, 2] (by decide) rfl
  have hKc := hK.sub (tys' := []) [] rfl
  have hFc := va_free (wc := [(h0, .inr (9, [.ref w, .ref d, .ref co, .ref un, .ref ma, .ref tm, .int 0, .int 0, .int 0])), (w, .inr (3, [.int 0, .int 0, .ref wL, .ref wP, .ref wS])), (d, .inr (3, [.int 0, .int 0, .ref dL, .ref dP, .ref dS]))]) hD hS hA [0, 1, 2] rfl
  refine vx_calli (vx_runV (As := [.int p0, .int p1, .int p2]) (rest := [.int 0, .ref o0]) ⟨hx, hb, hml, hown, hts⟩ (kX6_canJoin l hfl dC dI h0 w d co un ma tm wL wP wS dL dP dS p0 p1 p2 s.heap.size) (cwV 3 hts gL_canJoin_X6_canJoin rfl rfl rfl (by decide +kernel) ⟨Nat.le_of_ble_eq_true rfl, Nat.le_of_ble_eq_true rfl⟩) (fPreV hN hZ hS (fun q h => hFc q h) hPc hKc hDc (ci := 9) (q0 := 0) rfl rfl) rfl rfl hl.1 rfl (lv_room (Nat.le_of_ble_eq_true rfl)) dL_canJoin_7 ⟨Nat.le_of_ble_eq_true rfl, Nat.le_of_ble_eq_true rfl⟩) hS (fun q _ h => hFc q h) hFc (fun q _ h => hFc q h) (fun E ce q9 u t H locs ht hvm hpx hE hz1 hk1 hS hq9 hv9 hc9 => ?_) (fun r u t H1 locs ht hvm hw hB hz1 hk1 hS => ?_)
  · skip
    obtain ⟨hP, hD⟩ := va_join (wr := [(o0, .inl (cJ, 1, .inr (.inl (fun _ => 0))))]) (w1 := []) hP hD [0, 1, 2] [3] rfl rfl (by decide) (by decide) hk1 hFc (fun k q h => by simp at h) ⟨fun i j p q h => by simp at h, fun k q h => by simp at h⟩
    have hP : va_P (dC, dI) vwCl [(o0, .inl (cJ, 1, .inr (.inl (fun _ => 0))))] _ := hP
    have hD : va_D A [(o0, .inl (cJ, 1, .inr (.inl (fun _ => 0))))] := hD
    rcases hE with ⟨hE9, hq9f⟩ | ⟨hE9, hq9f⟩
    · skip
      subst hE9
      have hf1 := hq9f
      refine vx_catch (name := "java/lang/IllegalArgumentException") hown [] { startPc := 0, endPc := 12, handlerPc := 15, catchType := 13 } [{ startPc := 0, endPc := 12, handlerPc := 19, catchType := 21 }] (by rw [htab]; rfl) (fun z hz => by simp at hz) rfl (by decide) (hts (.classLink RL 13 "java/lang/IllegalArgumentException") (List.mem_cons_of_mem _ (List.mem_append_left _ (List.mem_append_left _ (List.mem_append_left _ (List.mem_append_left _ (List.mem_append_left _ (List.mem_append_left _ (List.mem_append_left _ (List.mem_of_getElem? (i := 0) rfl)))))))))) (va_Nw.use rfl (hN.1 _ (List.mem_of_getElem? (i := 50) rfl))) hq9 hv9 hc9 ?_
      refine lv_astore (lv' := [(5, .ref q9), (0, .ref h0), (1, .int p0), (2, .int p1), (3, .int p2), (4, .ref o0)]) hx hb dL_canJoin_15 hl (Nat.le_of_ble_eq_true rfl) rfl (fun ls hl => ?_)
      refine lv_iconst (v := 1) hx hb dL_canJoin_17 (by decide) ?_
      exact ret _ (fun _ => 0) _ _ _ _ _ _ (Or.inl (⟨rfl, hf1⟩)) (hP.sub [0] rfl) (hK.sub [0] rfl) (hD.sub [0] (by decide) rfl) hS (Nat.le_of_ble_eq_true rfl) (Nat.le_of_ble_eq_true rfl) dL_canJoin_18
    · skip
      subst hE9
      have hf2 := hq9f
      refine vx_catch (name := "java/util/NoSuchElementException") hown [{ startPc := 0, endPc := 12, handlerPc := 15, catchType := 13 }] { startPc := 0, endPc := 12, handlerPc := 19, catchType := 21 } [] (by rw [htab]; rfl) (fun z hz => by rw [List.mem_singleton.mp hz]; exact Or.inr ⟨by decide, "java/lang/IllegalArgumentException", hts (.classLink RL 13 "java/lang/IllegalArgumentException") (List.mem_cons_of_mem _ (List.mem_append_left _ (List.mem_append_left _ (List.mem_append_left _ (List.mem_append_left _ (List.mem_append_left _ (List.mem_append_left _ (List.mem_append_left _ (List.mem_of_getElem? (i := 0) rfl))))))))), hX.2.1⟩) rfl (by decide) (hts (.classLink RL 21 "java/util/NoSuchElementException") (List.mem_cons_of_mem _ (List.mem_append_left _ (List.mem_append_left _ (List.mem_append_left _ (List.mem_append_left _ (List.mem_append_left _ (List.mem_append_left _ (List.mem_append_left _ (List.mem_of_getElem? (i := 1) rfl)))))))))) (va_Nw.use rfl (hN.1 _ (List.mem_of_getElem? (i := 55) rfl))) hq9 hv9 hc9 ?_
      refine lv_astore (lv' := [(5, .ref q9), (0, .ref h0), (1, .int p0), (2, .int p1), (3, .int p2), (4, .ref o0)]) hx hb dL_canJoin_19 hl (Nat.le_of_ble_eq_true rfl) rfl (fun ls hl => ?_)
      refine lv_iconst (v := 2) hx hb dL_canJoin_21 (by decide) ?_
      exact ret _ (fun _ => 0) _ _ _ _ _ _ (Or.inr (⟨rfl, hf2⟩)) (hP.sub [0] rfl) (hK.sub [0] rfl) (hD.sub [0] (by decide) rfl) hS (Nat.le_of_ble_eq_true rfl) (Nat.le_of_ble_eq_true rfl) dL_canJoin_22
  · skip
    exact hw.elim

set_option maxHeartbeats 4000000 in
set_option maxRecDepth 100000 in
/-- the law: join on a fresh object -/
theorem kL_join (l : Launch) (hfl : l.stackTraces = false) (dC : Nat → ClassId) (dI : Nat → Nat → Nat) (h0 w d co un ma tm : Nat) (wL wP wS dL dP dS : Nat) (o0 : Nat) (cJ : ClassId) (p0 p1 p2 : Int32) (sz : Nat) : gHi l yL_join wsL_join ({ frames := 9, cells := 2, slots := 12, locals := 147 } : Room) dC dI [.ref h0, .int p0, .int p1, .int p2, .ref o0] [(h0, .inr (9, [.ref w, .ref d, .ref co, .ref un, .ref ma, .ref tm, .int 0, .int 0, .int 0])), (w, .inr (3, [.int 0, .int 0, .ref wL, .ref wP, .ref wS])), (d, .inr (3, [.int 0, .int 0, .ref dL, .ref dP, .ref dS])), (o0, .inl (cJ, 1, .inr (.inl (fun _ => 0))))] [(cJ, .long)] sz (fun (r : Int32) (u : Nat → Int64) => r = 1 ∧ (¬ ((p0 = 0) ∨ (p0 = 1))) ∨ r = 2 ∧ (¬ (¬ ((p0 = 0) ∨ (p0 = 1))))) (fun u => [(o0, .inl (cJ, 1, .inr (.inl u)))]) (fun u => [(cJ, .long)]) := by
  refine oH_i (y := yL_join) (cc := cL_join) (maxL := 6) (by decide) rfl (Nat.le_of_ble_eq_true rfl) ?_
  intro p e s m args below meth c ls A Q hx hb hr hml hown hts hN hZ hA hin hlk hP hK hD hl hX htab ret
  have hS : va_S A s.heap s.heap [] := va_S.rf
  have hl : lv_has ls 6 [(0, .ref h0), (1, .int p0), (2, .int p1), (3, .int p2), (4, .ref o0)] := hl
  have hP : va_P (dC, dI) vwCl [(h0, .inr (9, [.ref w, .ref d, .ref co, .ref un, .ref ma, .ref tm, .int 0, .int 0, .int 0])), (w, .inr (3, [.int 0, .int 0, .ref wL, .ref wP, .ref wS])), (d, .inr (3, [.int 0, .int 0, .ref dL, .ref dP, .ref dS])), (o0, .inl (cJ, 1, .inr (.inl (fun _ => 0))))] _ := hP
  have hD : va_D A [(h0, .inr (9, [.ref w, .ref d, .ref co, .ref un, .ref ma, .ref tm, .int 0, .int 0, .int 0])), (w, .inr (3, [.int 0, .int 0, .ref wL, .ref wP, .ref wS])), (d, .inr (3, [.int 0, .int 0, .ref dL, .ref dP, .ref dS])), (o0, .inl (cJ, 1, .inr (.inl (fun _ => 0))))] := hD
  refine lv_aload hx hb dL_join_0 (lv_at hl 4 rfl) ?_
  refine lv_iconst (v := 0) hx hb dL_join_2 (by decide) ?_
  refine lv_aload_n hx hb dL_join_3 rfl (lv_at hl 0 rfl) ?_
  refine lv_iload_n hx hb dL_join_4 rfl (lv_at hl 1 rfl) ?_
  refine lv_iload_n hx hb dL_join_5 rfl (lv_at hl 2 rfl) ?_
  refine lv_iload_n hx hb dL_join_6 rfl (lv_at hl 3 rfl) ?_
  have hPc := hP.sub (ws' := [(h0, .inr (9, [.ref w, .ref d, .ref co, .ref un, .ref ma, .ref tm, .int 0, .int 0, .int 0])), (w, .inr (3, [.int 0, .int 0, .ref wL, .ref wP, .ref wS])), (d, .inr (3, [.int 0, .int 0, .ref dL, .ref dP, .ref dS]))]) [0, 1, 2] rfl
  have hDc := hD.sub (ws' := [(h0, .inr (9, [.ref w, .ref d, .ref co, .ref un, .ref ma, .ref tm, .int 0, .int 0, .int 0])), (w, .inr (3, [.int 0, .int 0, .ref wL, .ref wP, .ref wS])), (d, .inr (3, [.int 0, .int 0, .ref dL, .ref dP, .ref dS]))]) [0, 1, 2] (by decide) rfl
  have hKc := hK.sub (tys' := []) [] rfl
  have hFc := va_free (wc := [(h0, .inr (9, [.ref w, .ref d, .ref co, .ref un, .ref ma, .ref tm, .int 0, .int 0, .int 0])), (w, .inr (3, [.int 0, .int 0, .ref wL, .ref wP, .ref wS])), (d, .inr (3, [.int 0, .int 0, .ref dL, .ref dP, .ref dS]))]) hD hS hA [0, 1, 2] rfl
  refine vx_calli (vx_runV (As := [.int p0, .int p1, .int p2]) (rest := [.int 0, .ref o0]) ⟨hx, hb, hml, hown, hts⟩ (kX6_join l hfl dC dI h0 w d co un ma tm wL wP wS dL dP dS p0 p1 p2 s.heap.size) (cwV 3 hts gL_join_X6_join rfl rfl rfl (by decide +kernel) ⟨Nat.le_of_ble_eq_true rfl, Nat.le_of_ble_eq_true rfl⟩) (fPreV hN hZ hS (fun q h => hFc q h) hPc hKc hDc (ci := 9) (q0 := 0) rfl rfl) rfl rfl hl.1 rfl (lv_room (Nat.le_of_ble_eq_true rfl)) dL_join_7 ⟨Nat.le_of_ble_eq_true rfl, Nat.le_of_ble_eq_true rfl⟩) hS (fun q _ h => hFc q h) hFc (fun q _ h => hFc q h) (fun E ce q9 u t H locs ht hvm hpx hE hz1 hk1 hS hq9 hv9 hc9 => ?_) (fun r u t H1 locs ht hvm hw hB hz1 hk1 hS => ?_)
  · skip
    obtain ⟨hP, hD⟩ := va_join (wr := [(o0, .inl (cJ, 1, .inr (.inl (fun _ => 0))))]) (w1 := []) hP hD [0, 1, 2] [3] rfl rfl (by decide) (by decide) hk1 hFc (fun k q h => by simp at h) ⟨fun i j p q h => by simp at h, fun k q h => by simp at h⟩
    have hP : va_P (dC, dI) vwCl [(o0, .inl (cJ, 1, .inr (.inl (fun _ => 0))))] _ := hP
    have hD : va_D A [(o0, .inl (cJ, 1, .inr (.inl (fun _ => 0))))] := hD
    rcases hE with ⟨hE9, hq9f⟩ | ⟨hE9, hq9f⟩
    · skip
      subst hE9
      have hf1 := hq9f
      refine vx_catch (name := "java/lang/IllegalArgumentException") hown [] { startPc := 0, endPc := 12, handlerPc := 15, catchType := 13 } [{ startPc := 0, endPc := 12, handlerPc := 19, catchType := 21 }, { startPc := 0, endPc := 12, handlerPc := 23, catchType := 41 }] (by rw [htab]; rfl) (fun z hz => by simp at hz) rfl (by decide) (hts (.classLink RL 13 "java/lang/IllegalArgumentException") (List.mem_cons_of_mem _ (List.mem_append_left _ (List.mem_append_left _ (List.mem_append_left _ (List.mem_append_left _ (List.mem_append_left _ (List.mem_append_left _ (List.mem_append_left _ (List.mem_append_left _ (List.mem_append_left _ (List.mem_of_getElem? (i := 0) rfl)))))))))))) (va_Nw.use rfl (hN.1 _ (List.mem_of_getElem? (i := 50) rfl))) hq9 hv9 hc9 ?_
      refine lv_astore (lv' := [(5, .ref q9), (0, .ref h0), (1, .int p0), (2, .int p1), (3, .int p2), (4, .ref o0)]) hx hb dL_join_15 hl (Nat.le_of_ble_eq_true rfl) rfl (fun ls hl => ?_)
      refine lv_iconst (v := 1) hx hb dL_join_17 (by decide) ?_
      exact ret _ (fun _ => 0) _ _ _ _ _ _ (Or.inl (⟨rfl, hf1⟩)) (hP.sub [0] rfl) (hK.sub [0] rfl) (hD.sub [0] (by decide) rfl) hS (Nat.le_of_ble_eq_true rfl) (Nat.le_of_ble_eq_true rfl) dL_join_18
    · skip
      subst hE9
      have hf2 := hq9f
      refine vx_catch (name := "java/util/NoSuchElementException") hown [{ startPc := 0, endPc := 12, handlerPc := 15, catchType := 13 }] { startPc := 0, endPc := 12, handlerPc := 19, catchType := 21 } [{ startPc := 0, endPc := 12, handlerPc := 23, catchType := 41 }] (by rw [htab]; rfl) (fun z hz => by rw [List.mem_singleton.mp hz]; exact Or.inr ⟨by decide, "java/lang/IllegalArgumentException", hts (.classLink RL 13 "java/lang/IllegalArgumentException") (List.mem_cons_of_mem _ (List.mem_append_left _ (List.mem_append_left _ (List.mem_append_left _ (List.mem_append_left _ (List.mem_append_left _ (List.mem_append_left _ (List.mem_append_left _ (List.mem_append_left _ (List.mem_append_left _ (List.mem_of_getElem? (i := 0) rfl))))))))))), hX.2.1⟩) rfl (by decide) (hts (.classLink RL 21 "java/util/NoSuchElementException") (List.mem_cons_of_mem _ (List.mem_append_left _ (List.mem_append_left _ (List.mem_append_left _ (List.mem_append_left _ (List.mem_append_left _ (List.mem_append_left _ (List.mem_append_left _ (List.mem_append_left _ (List.mem_append_left _ (List.mem_of_getElem? (i := 1) rfl)))))))))))) (va_Nw.use rfl (hN.1 _ (List.mem_of_getElem? (i := 55) rfl))) hq9 hv9 hc9 ?_
      refine lv_astore (lv' := [(5, .ref q9), (0, .ref h0), (1, .int p0), (2, .int p1), (3, .int p2), (4, .ref o0)]) hx hb dL_join_19 hl (Nat.le_of_ble_eq_true rfl) rfl (fun ls hl => ?_)
      refine lv_iconst (v := 2) hx hb dL_join_21 (by decide) ?_
      exact ret _ (fun _ => 0) _ _ _ _ _ _ (Or.inr (⟨rfl, hf2⟩)) (hP.sub [0] rfl) (hK.sub [0] rfl) (hD.sub [0] (by decide) rfl) hS (Nat.le_of_ble_eq_true rfl) (Nat.le_of_ble_eq_true rfl) dL_join_22
  · skip
    exact hw.elim

set_option maxHeartbeats 4000000 in
set_option maxRecDepth 100000 in
/-- the law: joinAll on a fresh object -/
theorem kL_joinAll (l : Launch) (hfl : l.stackTraces = false) (dC : Nat → ClassId) (dI : Nat → Nat → Nat) (h0 w d co un ma tm : Nat) (wL wP wS dL dP dS : Nat) (o0 : Nat) (cJ : ClassId) (p0 : Int32) (sz : Nat) : gHi l yL_joinAll wsL_joinAll ({ frames := 9, cells := 1, slots := 6, locals := 145 } : Room) dC dI [.ref h0, .int p0, .ref o0] [(h0, .inr (9, [.ref w, .ref d, .ref co, .ref un, .ref ma, .ref tm, .int 0, .int 0, .int 0])), (w, .inr (3, [.int 0, .int 0, .ref wL, .ref wP, .ref wS])), (d, .inr (3, [.int 0, .int 0, .ref dL, .ref dP, .ref dS])), (o0, .inl (cJ, 1, .inr (.inl (fun _ => 0))))] [(cJ, .long)] sz (fun (r : Int32) (u : Nat → Int64) => r = 0 ∧ u 0 = 0 ∧ ((p0 = 0) ∨ (p0 = 1)) ∨ r = 1 ∧ (¬ ((p0 = 0) ∨ (p0 = 1)))) (fun u => [(o0, .inl (cJ, 1, .inr (.inl u)))]) (fun u => [(cJ, .long)]) := by
  refine oH_i (y := yL_joinAll) (cc := cL_joinAll) (maxL := 4) (by decide) rfl (Nat.le_of_ble_eq_true rfl) ?_
  intro p e s m args below meth c ls A Q hx hb hr hml hown hts hN hZ hA hin hlk hP hK hD hl hX htab ret
  have hS : va_S A s.heap s.heap [] := va_S.rf
  have hl : lv_has ls 4 [(0, .ref h0), (1, .int p0), (2, .ref o0)] := hl
  have hP : va_P (dC, dI) vwCl [(h0, .inr (9, [.ref w, .ref d, .ref co, .ref un, .ref ma, .ref tm, .int 0, .int 0, .int 0])), (w, .inr (3, [.int 0, .int 0, .ref wL, .ref wP, .ref wS])), (d, .inr (3, [.int 0, .int 0, .ref dL, .ref dP, .ref dS])), (o0, .inl (cJ, 1, .inr (.inl (fun _ => 0))))] _ := hP
  have hD : va_D A [(h0, .inr (9, [.ref w, .ref d, .ref co, .ref un, .ref ma, .ref tm, .int 0, .int 0, .int 0])), (w, .inr (3, [.int 0, .int 0, .ref wL, .ref wP, .ref wS])), (d, .inr (3, [.int 0, .int 0, .ref dL, .ref dP, .ref dS])), (o0, .inl (cJ, 1, .inr (.inl (fun _ => 0))))] := hD
  refine lv_aload_n hx hb dL_joinAll_0 rfl (lv_at hl 2 rfl) ?_
  refine lv_iconst (v := 0) hx hb dL_joinAll_1 (by decide) ?_
  refine lv_aload_n hx hb dL_joinAll_2 rfl (lv_at hl 0 rfl) ?_
  refine lv_iload_n hx hb dL_joinAll_3 rfl (lv_at hl 1 rfl) ?_
  have hPc := hP.sub (ws' := [(h0, .inr (9, [.ref w, .ref d, .ref co, .ref un, .ref ma, .ref tm, .int 0, .int 0, .int 0])), (w, .inr (3, [.int 0, .int 0, .ref wL, .ref wP, .ref wS])), (d, .inr (3, [.int 0, .int 0, .ref dL, .ref dP, .ref dS]))]) [0, 1, 2] rfl
  have hDc := hD.sub (ws' := [(h0, .inr (9, [.ref w, .ref d, .ref co, .ref un, .ref ma, .ref tm, .int 0, .int 0, .int 0])), (w, .inr (3, [.int 0, .int 0, .ref wL, .ref wP, .ref wS])), (d, .inr (3, [.int 0, .int 0, .ref dL, .ref dP, .ref dS]))]) [0, 1, 2] (by decide) rfl
  have hKc := hK.sub (tys' := []) [] rfl
  have hFc := va_free (wc := [(h0, .inr (9, [.ref w, .ref d, .ref co, .ref un, .ref ma, .ref tm, .int 0, .int 0, .int 0])), (w, .inr (3, [.int 0, .int 0, .ref wL, .ref wP, .ref wS])), (d, .inr (3, [.int 0, .int 0, .ref dL, .ref dP, .ref dS]))]) hD hS hA [0, 1, 2] rfl
  refine vx_calli (vx_runV (As := [.int p0]) (rest := [.int 0, .ref o0]) ⟨hx, hb, hml, hown, hts⟩ (kX6_joinAll l hfl dC dI h0 w d co un ma tm wL wP wS dL dP dS p0 s.heap.size) (cwV 1 hts gL_joinAll_X6_joinAll rfl rfl rfl (by decide +kernel) ⟨Nat.le_of_ble_eq_true rfl, Nat.le_of_ble_eq_true rfl⟩) (fPreV hN hZ hS (fun q h => hFc q h) hPc hKc hDc (ci := 9) (q0 := 0) rfl rfl) rfl rfl hl.1 rfl (lv_room (Nat.le_of_ble_eq_true rfl)) dL_joinAll_4 ⟨Nat.le_of_ble_eq_true rfl, Nat.le_of_ble_eq_true rfl⟩) hS (fun q _ h => hFc q h) hFc (fun q _ h => hFc q h) (fun E ce q9 u t H locs ht hvm hpx hE hz1 hk1 hS hq9 hv9 hc9 => ?_) (fun r u t H1 locs ht hvm hw hB hz1 hk1 hS => ?_)
  · skip
    obtain ⟨hP, hD⟩ := va_join (wr := [(o0, .inl (cJ, 1, .inr (.inl (fun _ => 0))))]) (w1 := []) hP hD [0, 1, 2] [3] rfl rfl (by decide) (by decide) hk1 hFc (fun k q h => by simp at h) ⟨fun i j p q h => by simp at h, fun k q h => by simp at h⟩
    have hP : va_P (dC, dI) vwCl [(o0, .inl (cJ, 1, .inr (.inl (fun _ => 0))))] _ := hP
    have hD : va_D A [(o0, .inl (cJ, 1, .inr (.inl (fun _ => 0))))] := hD
    obtain ⟨hE9, hq9f⟩ := hE
    subst hE9
    have hf1 := hq9f
    refine vx_catch (name := "java/lang/IllegalArgumentException") hown [] { startPc := 0, endPc := 9, handlerPc := 12, catchType := 13 } [] (by rw [htab]; rfl) (fun z hz => by simp at hz) rfl (by decide) (hts (.classLink RL 13 "java/lang/IllegalArgumentException") (List.mem_cons_of_mem _ (List.mem_append_left _ (List.mem_append_left _ (List.mem_append_left _ (List.mem_append_left _ (List.mem_append_left _ (List.mem_append_left _ (List.mem_append_left _ (List.mem_of_getElem? (i := 0) rfl)))))))))) (va_Nw.use rfl (hN.1 _ (List.mem_of_getElem? (i := 50) rfl))) hq9 hv9 hc9 ?_
    refine lv_astore_n (lv' := [(3, .ref q9), (0, .ref h0), (1, .int p0), (2, .ref o0)]) hx hb dL_joinAll_12 rfl hl (Nat.le_of_ble_eq_true rfl) rfl (fun ls hl => ?_)
    refine lv_iconst (v := 1) hx hb dL_joinAll_13 (by decide) ?_
    exact ret _ (fun _ => 0) _ _ _ _ _ _ (Or.inr (⟨rfl, hf1⟩)) (hP.sub [0] rfl) (hK.sub [0] rfl) (hD.sub [0] (by decide) rfl) hS (Nat.le_of_ble_eq_true rfl) (Nat.le_of_ble_eq_true rfl) dL_joinAll_14
  · skip
    obtain ⟨hP1, hK1, hD1⟩ := hB
    rw [ht] at hP1
    have hK1 := va_K.moved hvm.symm hK1
    obtain ⟨hP, hD⟩ := va_join (wr := [(o0, .inl (cJ, 1, .inr (.inl (fun _ => 0))))]) (w1 := []) hP hD [0, 1, 2] [3] rfl rfl (by decide) (by decide) hk1 hFc hP1 hD1
    generalize H1 = H at hP hS ⊢
    have hP : va_P (dC, dI) vwCl [(o0, .inl (cJ, 1, .inr (.inl (fun _ => 0))))] _ := hP
    have hD : va_D A [(o0, .inl (cJ, 1, .inr (.inl (fun _ => 0))))] := hD
    refine W.widen (k := 1) (n := 6) (Nat.le_of_ble_eq_true rfl) (Nat.le_of_ble_eq_true rfl) ?_
    obtain ⟨rfl, hr2⟩ := hw
    refine lv_i2l (v := 0) hx hb dL_joinAll_7 (by decide) ?_
    refine va_last hx hb hK hP hD hS 0 0 rfl rfl (show ¬ (_ ∨ _) by decide) dL_joinAll_8 (fun H locs hP hD hS => ?_)
    have hP : va_P (dC, dI) vwCl [(o0, .inl (cJ, 1, .inr (.inl (vp_updL (fun _ => 0) 0 0))))] _ := hP
    have hD : va_D A [(o0, .inl (cJ, 1, .inr (.inl (vp_updL (fun _ => 0) 0 0))))] := hD
    refine lv_goto (tgt := 15) hx hb dL_joinAll_9 (by decide) ?_
    refine lv_iconst (v := 0) hx hb dL_joinAll_15 (by decide) ?_
    exact ret _ (vp_updL (fun _ => 0) 0 0) _ _ _ _ _ _ (Or.inl (⟨rfl, rfl, hr2⟩)) (hP.sub [0] rfl) (hK.sub [0] rfl) (hD.sub [0] (by decide) rfl) hS (Nat.le_of_ble_eq_true rfl) (Nat.le_of_ble_eq_true rfl) dL_joinAll_16

set_option maxHeartbeats 4000000 in
set_option maxRecDepth 100000 in
/-- the law: nets on a fresh object -/
theorem kL_nets (l : Launch) (hfl : l.stackTraces = false) (dC : Nat → ClassId) (dI : Nat → Nat → Nat) (h0 w d co un ma tm : Nat) (wL wP wS dL dP dS : Nat) (o0 : Nat) (cJ : ClassId) (p0 : Int32) (sz : Nat) : gHi l yL_nets wsL_nets ({ frames := 9, cells := 1, slots := 6, locals := 144 } : Room) dC dI [.ref h0, .int p0, .ref o0] [(h0, .inr (9, [.ref w, .ref d, .ref co, .ref un, .ref ma, .ref tm, .int 0, .int 0, .int 0])), (w, .inr (3, [.int 0, .int 0, .ref wL, .ref wP, .ref wS])), (d, .inr (3, [.int 0, .int 0, .ref dL, .ref dP, .ref dS])), (o0, .inl (cJ, 1, .inr (.inl (fun _ => 0))))] [(cJ, .long)] sz (fun (r : Int32) (u : Nat → Int64) => r = 0 ∧ u 0 = 0 ∧ ((p0 = 0) ∨ (p0 = 1)) ∨ r = 1 ∧ (¬ ((p0 = 0) ∨ (p0 = 1)))) (fun u => [(o0, .inl (cJ, 1, .inr (.inl u)))]) (fun u => [(cJ, .long)]) := by
  refine oH_i (y := yL_nets) (cc := cL_nets) (maxL := 4) (by decide) rfl (Nat.le_of_ble_eq_true rfl) ?_
  intro p e s m args below meth c ls A Q hx hb hr hml hown hts hN hZ hA hin hlk hP hK hD hl hX htab ret
  have hS : va_S A s.heap s.heap [] := va_S.rf
  have hl : lv_has ls 4 [(0, .ref h0), (1, .int p0), (2, .ref o0)] := hl
  have hP : va_P (dC, dI) vwCl [(h0, .inr (9, [.ref w, .ref d, .ref co, .ref un, .ref ma, .ref tm, .int 0, .int 0, .int 0])), (w, .inr (3, [.int 0, .int 0, .ref wL, .ref wP, .ref wS])), (d, .inr (3, [.int 0, .int 0, .ref dL, .ref dP, .ref dS])), (o0, .inl (cJ, 1, .inr (.inl (fun _ => 0))))] _ := hP
  have hD : va_D A [(h0, .inr (9, [.ref w, .ref d, .ref co, .ref un, .ref ma, .ref tm, .int 0, .int 0, .int 0])), (w, .inr (3, [.int 0, .int 0, .ref wL, .ref wP, .ref wS])), (d, .inr (3, [.int 0, .int 0, .ref dL, .ref dP, .ref dS])), (o0, .inl (cJ, 1, .inr (.inl (fun _ => 0))))] := hD
  refine lv_aload_n hx hb dL_nets_0 rfl (lv_at hl 2 rfl) ?_
  refine lv_iconst (v := 0) hx hb dL_nets_1 (by decide) ?_
  refine lv_aload_n hx hb dL_nets_2 rfl (lv_at hl 0 rfl) ?_
  refine lv_iload_n hx hb dL_nets_3 rfl (lv_at hl 1 rfl) ?_
  have hPc := hP.sub (ws' := [(h0, .inr (9, [.ref w, .ref d, .ref co, .ref un, .ref ma, .ref tm, .int 0, .int 0, .int 0])), (w, .inr (3, [.int 0, .int 0, .ref wL, .ref wP, .ref wS])), (d, .inr (3, [.int 0, .int 0, .ref dL, .ref dP, .ref dS]))]) [0, 1, 2] rfl
  have hDc := hD.sub (ws' := [(h0, .inr (9, [.ref w, .ref d, .ref co, .ref un, .ref ma, .ref tm, .int 0, .int 0, .int 0])), (w, .inr (3, [.int 0, .int 0, .ref wL, .ref wP, .ref wS])), (d, .inr (3, [.int 0, .int 0, .ref dL, .ref dP, .ref dS]))]) [0, 1, 2] (by decide) rfl
  have hKc := hK.sub (tys' := []) [] rfl
  have hFc := va_free (wc := [(h0, .inr (9, [.ref w, .ref d, .ref co, .ref un, .ref ma, .ref tm, .int 0, .int 0, .int 0])), (w, .inr (3, [.int 0, .int 0, .ref wL, .ref wP, .ref wS])), (d, .inr (3, [.int 0, .int 0, .ref dL, .ref dP, .ref dS]))]) hD hS hA [0, 1, 2] rfl
  refine vx_calli (vx_runV (As := [.int p0]) (rest := [.int 0, .ref o0]) ⟨hx, hb, hml, hown, hts⟩ (kX6_nets l hfl dC dI h0 w d co un ma tm wL wP wS dL dP dS p0 s.heap.size) (cwV 1 hts gL_nets_X6_nets rfl rfl rfl (by decide +kernel) ⟨Nat.le_of_ble_eq_true rfl, Nat.le_of_ble_eq_true rfl⟩) (fPreV hN hZ hS (fun q h => hFc q h) hPc hKc hDc (ci := 9) (q0 := 0) rfl rfl) rfl rfl hl.1 rfl (lv_room (Nat.le_of_ble_eq_true rfl)) dL_nets_4 ⟨Nat.le_of_ble_eq_true rfl, Nat.le_of_ble_eq_true rfl⟩) hS (fun q _ h => hFc q h) hFc (fun q _ h => hFc q h) (fun E ce q9 u t H locs ht hvm hpx hE hz1 hk1 hS hq9 hv9 hc9 => ?_) (fun r u t H1 locs ht hvm hw hB hz1 hk1 hS => ?_)
  · skip
    obtain ⟨hP, hD⟩ := va_join (wr := [(o0, .inl (cJ, 1, .inr (.inl (fun _ => 0))))]) (w1 := []) hP hD [0, 1, 2] [3] rfl rfl (by decide) (by decide) hk1 hFc (fun k q h => by simp at h) ⟨fun i j p q h => by simp at h, fun k q h => by simp at h⟩
    have hP : va_P (dC, dI) vwCl [(o0, .inl (cJ, 1, .inr (.inl (fun _ => 0))))] _ := hP
    have hD : va_D A [(o0, .inl (cJ, 1, .inr (.inl (fun _ => 0))))] := hD
    obtain ⟨hE9, hq9f⟩ := hE
    subst hE9
    have hf1 := hq9f
    refine vx_catch (name := "java/lang/IllegalArgumentException") hown [] { startPc := 0, endPc := 9, handlerPc := 12, catchType := 13 } [] (by rw [htab]; rfl) (fun z hz => by simp at hz) rfl (by decide) (hts (.classLink RL 13 "java/lang/IllegalArgumentException") (List.mem_cons_of_mem _ (List.mem_append_left _ (List.mem_append_left _ (List.mem_append_left _ (List.mem_append_left _ (List.mem_of_getElem? (i := 0) rfl))))))) (va_Nw.use rfl (hN.1 _ (List.mem_of_getElem? (i := 50) rfl))) hq9 hv9 hc9 ?_
    refine lv_astore_n (lv' := [(3, .ref q9), (0, .ref h0), (1, .int p0), (2, .ref o0)]) hx hb dL_nets_12 rfl hl (Nat.le_of_ble_eq_true rfl) rfl (fun ls hl => ?_)
    refine lv_iconst (v := 1) hx hb dL_nets_13 (by decide) ?_
    exact ret _ (fun _ => 0) _ _ _ _ _ _ (Or.inr (⟨rfl, hf1⟩)) (hP.sub [0] rfl) (hK.sub [0] rfl) (hD.sub [0] (by decide) rfl) hS (Nat.le_of_ble_eq_true rfl) (Nat.le_of_ble_eq_true rfl) dL_nets_14
  · skip
    obtain ⟨hP1, hK1, hD1⟩ := hB
    rw [ht] at hP1
    have hK1 := va_K.moved hvm.symm hK1
    obtain ⟨hP, hD⟩ := va_join (wr := [(o0, .inl (cJ, 1, .inr (.inl (fun _ => 0))))]) (w1 := []) hP hD [0, 1, 2] [3] rfl rfl (by decide) (by decide) hk1 hFc hP1 hD1
    generalize H1 = H at hP hS ⊢
    have hP : va_P (dC, dI) vwCl [(o0, .inl (cJ, 1, .inr (.inl (fun _ => 0))))] _ := hP
    have hD : va_D A [(o0, .inl (cJ, 1, .inr (.inl (fun _ => 0))))] := hD
    refine W.widen (k := 1) (n := 6) (Nat.le_of_ble_eq_true rfl) (Nat.le_of_ble_eq_true rfl) ?_
    obtain ⟨rfl, hr2⟩ := hw
    refine lv_i2l (v := 0) hx hb dL_nets_7 (by decide) ?_
    refine va_last hx hb hK hP hD hS 0 0 rfl rfl (show ¬ (_ ∨ _) by decide) dL_nets_8 (fun H locs hP hD hS => ?_)
    have hP : va_P (dC, dI) vwCl [(o0, .inl (cJ, 1, .inr (.inl (vp_updL (fun _ => 0) 0 0))))] _ := hP
    have hD : va_D A [(o0, .inl (cJ, 1, .inr (.inl (vp_updL (fun _ => 0) 0 0))))] := hD
    refine lv_goto (tgt := 15) hx hb dL_nets_9 (by decide) ?_
    refine lv_iconst (v := 0) hx hb dL_nets_15 (by decide) ?_
    exact ret _ (vp_updL (fun _ => 0) 0 0) _ _ _ _ _ _ (Or.inl (⟨rfl, rfl, hr2⟩)) (hP.sub [0] rfl) (hK.sub [0] rfl) (hD.sub [0] (by decide) rfl) hS (Nat.le_of_ble_eq_true rfl) (Nat.le_of_ble_eq_true rfl) dL_nets_16

set_option maxHeartbeats 4000000 in
set_option maxRecDepth 100000 in
/-- the law: parts on a fresh object -/
theorem kL_parts (l : Launch) (hfl : l.stackTraces = false) (dC : Nat → ClassId) (dI : Nat → Nat → Nat) (h0 w d co un ma tm : Nat) (wL wP wS dL dP dS : Nat) (o0 : Nat) (cJ : ClassId) (p0 : Int32) (sz : Nat) : gHi l yL_parts wsL_parts ({ frames := 9, cells := 1, slots := 6, locals := 144 } : Room) dC dI [.ref h0, .int p0, .ref o0] [(h0, .inr (9, [.ref w, .ref d, .ref co, .ref un, .ref ma, .ref tm, .int 0, .int 0, .int 0])), (w, .inr (3, [.int 0, .int 0, .ref wL, .ref wP, .ref wS])), (d, .inr (3, [.int 0, .int 0, .ref dL, .ref dP, .ref dS])), (o0, .inl (cJ, 1, .inr (.inl (fun _ => 0))))] [(cJ, .long)] sz (fun (r : Int32) (u : Nat → Int64) => r = 0 ∧ u 0 = 0 ∧ ((p0 = 0) ∨ (p0 = 1)) ∨ r = 1 ∧ (¬ ((p0 = 0) ∨ (p0 = 1)))) (fun u => [(o0, .inl (cJ, 1, .inr (.inl u)))]) (fun u => [(cJ, .long)]) := by
  refine oH_i (y := yL_parts) (cc := cL_parts) (maxL := 4) (by decide) rfl (Nat.le_of_ble_eq_true rfl) ?_
  intro p e s m args below meth c ls A Q hx hb hr hml hown hts hN hZ hA hin hlk hP hK hD hl hX htab ret
  have hS : va_S A s.heap s.heap [] := va_S.rf
  have hl : lv_has ls 4 [(0, .ref h0), (1, .int p0), (2, .ref o0)] := hl
  have hP : va_P (dC, dI) vwCl [(h0, .inr (9, [.ref w, .ref d, .ref co, .ref un, .ref ma, .ref tm, .int 0, .int 0, .int 0])), (w, .inr (3, [.int 0, .int 0, .ref wL, .ref wP, .ref wS])), (d, .inr (3, [.int 0, .int 0, .ref dL, .ref dP, .ref dS])), (o0, .inl (cJ, 1, .inr (.inl (fun _ => 0))))] _ := hP
  have hD : va_D A [(h0, .inr (9, [.ref w, .ref d, .ref co, .ref un, .ref ma, .ref tm, .int 0, .int 0, .int 0])), (w, .inr (3, [.int 0, .int 0, .ref wL, .ref wP, .ref wS])), (d, .inr (3, [.int 0, .int 0, .ref dL, .ref dP, .ref dS])), (o0, .inl (cJ, 1, .inr (.inl (fun _ => 0))))] := hD
  refine lv_aload_n hx hb dL_parts_0 rfl (lv_at hl 2 rfl) ?_
  refine lv_iconst (v := 0) hx hb dL_parts_1 (by decide) ?_
  refine lv_aload_n hx hb dL_parts_2 rfl (lv_at hl 0 rfl) ?_
  refine lv_iload_n hx hb dL_parts_3 rfl (lv_at hl 1 rfl) ?_
  have hPc := hP.sub (ws' := [(h0, .inr (9, [.ref w, .ref d, .ref co, .ref un, .ref ma, .ref tm, .int 0, .int 0, .int 0])), (w, .inr (3, [.int 0, .int 0, .ref wL, .ref wP, .ref wS])), (d, .inr (3, [.int 0, .int 0, .ref dL, .ref dP, .ref dS]))]) [0, 1, 2] rfl
  have hDc := hD.sub (ws' := [(h0, .inr (9, [.ref w, .ref d, .ref co, .ref un, .ref ma, .ref tm, .int 0, .int 0, .int 0])), (w, .inr (3, [.int 0, .int 0, .ref wL, .ref wP, .ref wS])), (d, .inr (3, [.int 0, .int 0, .ref dL, .ref dP, .ref dS]))]) [0, 1, 2] (by decide) rfl
  have hKc := hK.sub (tys' := []) [] rfl
  have hFc := va_free (wc := [(h0, .inr (9, [.ref w, .ref d, .ref co, .ref un, .ref ma, .ref tm, .int 0, .int 0, .int 0])), (w, .inr (3, [.int 0, .int 0, .ref wL, .ref wP, .ref wS])), (d, .inr (3, [.int 0, .int 0, .ref dL, .ref dP, .ref dS]))]) hD hS hA [0, 1, 2] rfl
  refine vx_calli (vx_runV (As := [.int p0]) (rest := [.int 0, .ref o0]) ⟨hx, hb, hml, hown, hts⟩ (kX6_parts l hfl dC dI h0 w d co un ma tm wL wP wS dL dP dS p0 s.heap.size) (cwV 1 hts gL_parts_X6_parts rfl rfl rfl (by decide +kernel) ⟨Nat.le_of_ble_eq_true rfl, Nat.le_of_ble_eq_true rfl⟩) (fPreV hN hZ hS (fun q h => hFc q h) hPc hKc hDc (ci := 9) (q0 := 0) rfl rfl) rfl rfl hl.1 rfl (lv_room (Nat.le_of_ble_eq_true rfl)) dL_parts_4 ⟨Nat.le_of_ble_eq_true rfl, Nat.le_of_ble_eq_true rfl⟩) hS (fun q _ h => hFc q h) hFc (fun q _ h => hFc q h) (fun E ce q9 u t H locs ht hvm hpx hE hz1 hk1 hS hq9 hv9 hc9 => ?_) (fun r u t H1 locs ht hvm hw hB hz1 hk1 hS => ?_)
  · skip
    obtain ⟨hP, hD⟩ := va_join (wr := [(o0, .inl (cJ, 1, .inr (.inl (fun _ => 0))))]) (w1 := []) hP hD [0, 1, 2] [3] rfl rfl (by decide) (by decide) hk1 hFc (fun k q h => by simp at h) ⟨fun i j p q h => by simp at h, fun k q h => by simp at h⟩
    have hP : va_P (dC, dI) vwCl [(o0, .inl (cJ, 1, .inr (.inl (fun _ => 0))))] _ := hP
    have hD : va_D A [(o0, .inl (cJ, 1, .inr (.inl (fun _ => 0))))] := hD
    obtain ⟨hE9, hq9f⟩ := hE
    subst hE9
    have hf1 := hq9f
    refine vx_catch (name := "java/lang/IllegalArgumentException") hown [] { startPc := 0, endPc := 9, handlerPc := 12, catchType := 13 } [] (by rw [htab]; rfl) (fun z hz => by simp at hz) rfl (by decide) (hts (.classLink RL 13 "java/lang/IllegalArgumentException") (List.mem_cons_of_mem _ (List.mem_append_left _ (List.mem_append_left _ (List.mem_append_left _ (List.mem_append_left _ (List.mem_append_left _ (List.mem_append_left _ (List.mem_of_getElem? (i := 0) rfl))))))))) (va_Nw.use rfl (hN.1 _ (List.mem_of_getElem? (i := 50) rfl))) hq9 hv9 hc9 ?_
    refine lv_astore_n (lv' := [(3, .ref q9), (0, .ref h0), (1, .int p0), (2, .ref o0)]) hx hb dL_parts_12 rfl hl (Nat.le_of_ble_eq_true rfl) rfl (fun ls hl => ?_)
    refine lv_iconst (v := 1) hx hb dL_parts_13 (by decide) ?_
    exact ret _ (fun _ => 0) _ _ _ _ _ _ (Or.inr (⟨rfl, hf1⟩)) (hP.sub [0] rfl) (hK.sub [0] rfl) (hD.sub [0] (by decide) rfl) hS (Nat.le_of_ble_eq_true rfl) (Nat.le_of_ble_eq_true rfl) dL_parts_14
  · skip
    obtain ⟨hP1, hK1, hD1⟩ := hB
    rw [ht] at hP1
    have hK1 := va_K.moved hvm.symm hK1
    obtain ⟨hP, hD⟩ := va_join (wr := [(o0, .inl (cJ, 1, .inr (.inl (fun _ => 0))))]) (w1 := []) hP hD [0, 1, 2] [3] rfl rfl (by decide) (by decide) hk1 hFc hP1 hD1
    generalize H1 = H at hP hS ⊢
    have hP : va_P (dC, dI) vwCl [(o0, .inl (cJ, 1, .inr (.inl (fun _ => 0))))] _ := hP
    have hD : va_D A [(o0, .inl (cJ, 1, .inr (.inl (fun _ => 0))))] := hD
    refine W.widen (k := 1) (n := 6) (Nat.le_of_ble_eq_true rfl) (Nat.le_of_ble_eq_true rfl) ?_
    obtain ⟨rfl, hr2⟩ := hw
    refine lv_i2l (v := 0) hx hb dL_parts_7 (by decide) ?_
    refine va_last hx hb hK hP hD hS 0 0 rfl rfl (show ¬ (_ ∨ _) by decide) dL_parts_8 (fun H locs hP hD hS => ?_)
    have hP : va_P (dC, dI) vwCl [(o0, .inl (cJ, 1, .inr (.inl (vp_updL (fun _ => 0) 0 0))))] _ := hP
    have hD : va_D A [(o0, .inl (cJ, 1, .inr (.inl (vp_updL (fun _ => 0) 0 0))))] := hD
    refine lv_goto (tgt := 15) hx hb dL_parts_9 (by decide) ?_
    refine lv_iconst (v := 0) hx hb dL_parts_15 (by decide) ?_
    exact ret _ (vp_updL (fun _ => 0) 0 0) _ _ _ _ _ _ (Or.inl (⟨rfl, rfl, hr2⟩)) (hP.sub [0] rfl) (hK.sub [0] rfl) (hD.sub [0] (by decide) rfl) hS (Nat.le_of_ble_eq_true rfl) (Nat.le_of_ble_eq_true rfl) dL_parts_16

set_option maxHeartbeats 4000000 in
set_option maxRecDepth 100000 in
/-- the law: kindOf on a fresh object -/
theorem kL_kindOf (l : Launch) (hfl : l.stackTraces = false) (dC : Nat → ClassId) (dI : Nat → Nat → Nat) (h0 w d co un ma tm : Nat) (wL wP wS dL dP dS : Nat) (o0 : Nat) (cJ : ClassId) (p0 p1 : Int32) (sz : Nat) : gHi l yL_kindOf wsL_kindOf ({ frames := 9, cells := 2, slots := 12, locals := 146 } : Room) dC dI [.ref h0, .int p0, .int p1, .ref o0] [(h0, .inr (9, [.ref w, .ref d, .ref co, .ref un, .ref ma, .ref tm, .int 0, .int 0, .int 0])), (w, .inr (3, [.int 0, .int 0, .ref wL, .ref wP, .ref wS])), (d, .inr (3, [.int 0, .int 0, .ref dL, .ref dP, .ref dS])), (o0, .inl (cJ, 1, .inr (.inl (fun _ => 0))))] [(cJ, .long)] sz (fun (r : Int32) (u : Nat → Int64) => r = 1 ∧ (¬ ((p0 = 0) ∨ (p0 = 1))) ∨ r = 2 ∧ (¬ (¬ ((p0 = 0) ∨ (p0 = 1))))) (fun u => [(o0, .inl (cJ, 1, .inr (.inl u)))]) (fun u => [(cJ, .long)]) := by
  refine oH_i (y := yL_kindOf) (cc := cL_kindOf) (maxL := 5) (by decide) rfl (Nat.le_of_ble_eq_true rfl) ?_
  intro p e s m args below meth c ls A Q hx hb hr hml hown hts hN hZ hA hin hlk hP hK hD hl hX htab ret
  have hS : va_S A s.heap s.heap [] := va_S.rf
  have hl : lv_has ls 5 [(0, .ref h0), (1, .int p0), (2, .int p1), (3, .ref o0)] := hl
  have hP : va_P (dC, dI) vwCl [(h0, .inr (9, [.ref w, .ref d, .ref co, .ref un, .ref ma, .ref tm, .int 0, .int 0, .int 0])), (w, .inr (3, [.int 0, .int 0, .ref wL, .ref wP, .ref wS])), (d, .inr (3, [.int 0, .int 0, .ref dL, .ref dP, .ref dS])), (o0, .inl (cJ, 1, .inr (.inl (fun _ => 0))))] _ := hP
  have hD : va_D A [(h0, .inr (9, [.ref w, .ref d, .ref co, .ref un, .ref ma, .ref tm, .int 0, .int 0, .int 0])), (w, .inr (3, [.int 0, .int 0, .ref wL, .ref wP, .ref wS])), (d, .inr (3, [.int 0, .int 0, .ref dL, .ref dP, .ref dS])), (o0, .inl (cJ, 1, .inr (.inl (fun _ => 0))))] := hD
  refine lv_aload_n hx hb dL_kindOf_0 rfl (lv_at hl 3 rfl) ?_
  refine lv_iconst (v := 0) hx hb dL_kindOf_1 (by decide) ?_
  refine lv_aload_n hx hb dL_kindOf_2 rfl (lv_at hl 0 rfl) ?_
  refine lv_iload_n hx hb dL_kindOf_3 rfl (lv_at hl 1 rfl) ?_
  refine lv_iload_n hx hb dL_kindOf_4 rfl (lv_at hl 2 rfl) ?_
  have hPc := hP.sub (ws' := [(h0, .inr (9, [.ref w, .ref d, .ref co, .ref un, .ref ma, .ref tm, .int 0, .int 0, .int 0])), (w, .inr (3, [.int 0, .int 0, .ref wL, .ref wP, .ref wS])), (d, .inr (3, [.int 0, .int 0, .ref dL, .ref dP, .ref dS]))]) [0, 1, 2] rfl
  have hDc := hD.sub (ws' := [(h0, .inr (9, [.ref w, .ref d, .ref co, .ref un, .ref ma, .ref tm, .int 0, .int 0, .int 0])), (w, .inr (3, [.int 0, .int 0, .ref wL, .ref wP, .ref wS])), (d, .inr (3, [.int 0, .int 0, .ref dL, .ref dP, .ref dS]))]) [0, 1, 2] (by decide) rfl
  have hKc := hK.sub (tys' := []) [] rfl
  have hFc := va_free (wc := [(h0, .inr (9, [.ref w, .ref d, .ref co, .ref un, .ref ma, .ref tm, .int 0, .int 0, .int 0])), (w, .inr (3, [.int 0, .int 0, .ref wL, .ref wP, .ref wS])), (d, .inr (3, [.int 0, .int 0, .ref dL, .ref dP, .ref dS]))]) hD hS hA [0, 1, 2] rfl
  refine vx_calli (vx_runV (As := [.int p0, .int p1]) (rest := [.int 0, .ref o0]) ⟨hx, hb, hml, hown, hts⟩ (kX6_kindOf l hfl dC dI h0 w d co un ma tm wL wP wS dL dP dS p0 p1 s.heap.size) (cwV 2 hts gL_kindOf_X6_kindOf rfl rfl rfl (by decide +kernel) ⟨Nat.le_of_ble_eq_true rfl, Nat.le_of_ble_eq_true rfl⟩) (fPreV hN hZ hS (fun q h => hFc q h) hPc hKc hDc (ci := 9) (q0 := 0) rfl rfl) rfl rfl hl.1 rfl (lv_room (Nat.le_of_ble_eq_true rfl)) dL_kindOf_5 ⟨Nat.le_of_ble_eq_true rfl, Nat.le_of_ble_eq_true rfl⟩) hS (fun q _ h => hFc q h) hFc (fun q _ h => hFc q h) (fun E ce q9 u t H locs ht hvm hpx hE hz1 hk1 hS hq9 hv9 hc9 => ?_) (fun r u t H1 locs ht hvm hw hB hz1 hk1 hS => ?_)
  · skip
    obtain ⟨hP, hD⟩ := va_join (wr := [(o0, .inl (cJ, 1, .inr (.inl (fun _ => 0))))]) (w1 := []) hP hD [0, 1, 2] [3] rfl rfl (by decide) (by decide) hk1 hFc (fun k q h => by simp at h) ⟨fun i j p q h => by simp at h, fun k q h => by simp at h⟩
    have hP : va_P (dC, dI) vwCl [(o0, .inl (cJ, 1, .inr (.inl (fun _ => 0))))] _ := hP
    have hD : va_D A [(o0, .inl (cJ, 1, .inr (.inl (fun _ => 0))))] := hD
    rcases hE with ⟨hE9, hq9f⟩ | ⟨hE9, hq9f⟩
    · skip
      subst hE9
      have hf1 := hq9f
      refine vx_catch (name := "java/lang/IllegalArgumentException") hown [] { startPc := 0, endPc := 10, handlerPc := 13, catchType := 13 } [{ startPc := 0, endPc := 10, handlerPc := 17, catchType := 21 }] (by rw [htab]; rfl) (fun z hz => by simp at hz) rfl (by decide) (hts (.classLink RL 13 "java/lang/IllegalArgumentException") (List.mem_cons_of_mem _ (List.mem_append_left _ (List.mem_append_left _ (List.mem_append_left _ (List.mem_append_left _ (List.mem_append_left _ (List.mem_append_left _ (List.mem_append_left _ (List.mem_of_getElem? (i := 0) rfl)))))))))) (va_Nw.use rfl (hN.1 _ (List.mem_of_getElem? (i := 50) rfl))) hq9 hv9 hc9 ?_
      refine lv_astore (lv' := [(4, .ref q9), (0, .ref h0), (1, .int p0), (2, .int p1), (3, .ref o0)]) hx hb dL_kindOf_13 hl (Nat.le_of_ble_eq_true rfl) rfl (fun ls hl => ?_)
      refine lv_iconst (v := 1) hx hb dL_kindOf_15 (by decide) ?_
      exact ret _ (fun _ => 0) _ _ _ _ _ _ (Or.inl (⟨rfl, hf1⟩)) (hP.sub [0] rfl) (hK.sub [0] rfl) (hD.sub [0] (by decide) rfl) hS (Nat.le_of_ble_eq_true rfl) (Nat.le_of_ble_eq_true rfl) dL_kindOf_16
    · skip
      subst hE9
      have hf2 := hq9f
      refine vx_catch (name := "java/util/NoSuchElementException") hown [{ startPc := 0, endPc := 10, handlerPc := 13, catchType := 13 }] { startPc := 0, endPc := 10, handlerPc := 17, catchType := 21 } [] (by rw [htab]; rfl) (fun z hz => by rw [List.mem_singleton.mp hz]; exact Or.inr ⟨by decide, "java/lang/IllegalArgumentException", hts (.classLink RL 13 "java/lang/IllegalArgumentException") (List.mem_cons_of_mem _ (List.mem_append_left _ (List.mem_append_left _ (List.mem_append_left _ (List.mem_append_left _ (List.mem_append_left _ (List.mem_append_left _ (List.mem_append_left _ (List.mem_of_getElem? (i := 0) rfl))))))))), hX.2.1⟩) rfl (by decide) (hts (.classLink RL 21 "java/util/NoSuchElementException") (List.mem_cons_of_mem _ (List.mem_append_left _ (List.mem_append_left _ (List.mem_append_left _ (List.mem_append_left _ (List.mem_append_left _ (List.mem_append_left _ (List.mem_append_left _ (List.mem_of_getElem? (i := 1) rfl)))))))))) (va_Nw.use rfl (hN.1 _ (List.mem_of_getElem? (i := 55) rfl))) hq9 hv9 hc9 ?_
      refine lv_astore (lv' := [(4, .ref q9), (0, .ref h0), (1, .int p0), (2, .int p1), (3, .ref o0)]) hx hb dL_kindOf_17 hl (Nat.le_of_ble_eq_true rfl) rfl (fun ls hl => ?_)
      refine lv_iconst (v := 2) hx hb dL_kindOf_19 (by decide) ?_
      exact ret _ (fun _ => 0) _ _ _ _ _ _ (Or.inr (⟨rfl, hf2⟩)) (hP.sub [0] rfl) (hK.sub [0] rfl) (hD.sub [0] (by decide) rfl) hS (Nat.le_of_ble_eq_true rfl) (Nat.le_of_ble_eq_true rfl) dL_kindOf_20
  · skip
    exact hw.elim

set_option maxHeartbeats 4000000 in
set_option maxRecDepth 100000 in
/-- the law: valueOf on a fresh object -/
theorem kL_valueOf (l : Launch) (hfl : l.stackTraces = false) (dC : Nat → ClassId) (dI : Nat → Nat → Nat) (h0 w d co un ma tm : Nat) (wL wP wS dL dP dS : Nat) (o0 : Nat) (cJ : ClassId) (p0 p1 : Int32) (sz : Nat) : gHi l yL_valueOf wsL_valueOf ({ frames := 9, cells := 2, slots := 12, locals := 146 } : Room) dC dI [.ref h0, .int p0, .int p1, .ref o0] [(h0, .inr (9, [.ref w, .ref d, .ref co, .ref un, .ref ma, .ref tm, .int 0, .int 0, .int 0])), (w, .inr (3, [.int 0, .int 0, .ref wL, .ref wP, .ref wS])), (d, .inr (3, [.int 0, .int 0, .ref dL, .ref dP, .ref dS])), (o0, .inl (cJ, 1, .inr (.inl (fun _ => 0))))] [(cJ, .long)] sz (fun (r : Int32) (u : Nat → Int64) => r = 1 ∧ (¬ ((p0 = 0) ∨ (p0 = 1))) ∨ r = 2 ∧ (¬ (¬ ((p0 = 0) ∨ (p0 = 1))))) (fun u => [(o0, .inl (cJ, 1, .inr (.inl u)))]) (fun u => [(cJ, .long)]) := by
  refine oH_i (y := yL_valueOf) (cc := cL_valueOf) (maxL := 5) (by decide) rfl (Nat.le_of_ble_eq_true rfl) ?_
  intro p e s m args below meth c ls A Q hx hb hr hml hown hts hN hZ hA hin hlk hP hK hD hl hX htab ret
  have hS : va_S A s.heap s.heap [] := va_S.rf
  have hl : lv_has ls 5 [(0, .ref h0), (1, .int p0), (2, .int p1), (3, .ref o0)] := hl
  have hP : va_P (dC, dI) vwCl [(h0, .inr (9, [.ref w, .ref d, .ref co, .ref un, .ref ma, .ref tm, .int 0, .int 0, .int 0])), (w, .inr (3, [.int 0, .int 0, .ref wL, .ref wP, .ref wS])), (d, .inr (3, [.int 0, .int 0, .ref dL, .ref dP, .ref dS])), (o0, .inl (cJ, 1, .inr (.inl (fun _ => 0))))] _ := hP
  have hD : va_D A [(h0, .inr (9, [.ref w, .ref d, .ref co, .ref un, .ref ma, .ref tm, .int 0, .int 0, .int 0])), (w, .inr (3, [.int 0, .int 0, .ref wL, .ref wP, .ref wS])), (d, .inr (3, [.int 0, .int 0, .ref dL, .ref dP, .ref dS])), (o0, .inl (cJ, 1, .inr (.inl (fun _ => 0))))] := hD
  refine lv_aload_n hx hb dL_valueOf_0 rfl (lv_at hl 3 rfl) ?_
  refine lv_iconst (v := 0) hx hb dL_valueOf_1 (by decide) ?_
  refine lv_aload_n hx hb dL_valueOf_2 rfl (lv_at hl 0 rfl) ?_
  refine lv_iload_n hx hb dL_valueOf_3 rfl (lv_at hl 1 rfl) ?_
  refine lv_iload_n hx hb dL_valueOf_4 rfl (lv_at hl 2 rfl) ?_
  have hPc := hP.sub (ws' := [(h0, .inr (9, [.ref w, .ref d, .ref co, .ref un, .ref ma, .ref tm, .int 0, .int 0, .int 0])), (w, .inr (3, [.int 0, .int 0, .ref wL, .ref wP, .ref wS])), (d, .inr (3, [.int 0, .int 0, .ref dL, .ref dP, .ref dS]))]) [0, 1, 2] rfl
  have hDc := hD.sub (ws' := [(h0, .inr (9, [.ref w, .ref d, .ref co, .ref un, .ref ma, .ref tm, .int 0, .int 0, .int 0])), (w, .inr (3, [.int 0, .int 0, .ref wL, .ref wP, .ref wS])), (d, .inr (3, [.int 0, .int 0, .ref dL, .ref dP, .ref dS]))]) [0, 1, 2] (by decide) rfl
  have hKc := hK.sub (tys' := []) [] rfl
  have hFc := va_free (wc := [(h0, .inr (9, [.ref w, .ref d, .ref co, .ref un, .ref ma, .ref tm, .int 0, .int 0, .int 0])), (w, .inr (3, [.int 0, .int 0, .ref wL, .ref wP, .ref wS])), (d, .inr (3, [.int 0, .int 0, .ref dL, .ref dP, .ref dS]))]) hD hS hA [0, 1, 2] rfl
  refine vx_calli (vx_runV (As := [.int p0, .int p1]) (rest := [.int 0, .ref o0]) ⟨hx, hb, hml, hown, hts⟩ (kX6_valueOf l hfl dC dI h0 w d co un ma tm wL wP wS dL dP dS p0 p1 s.heap.size) (cwV 2 hts gL_valueOf_X6_valueOf rfl rfl rfl (by decide +kernel) ⟨Nat.le_of_ble_eq_true rfl, Nat.le_of_ble_eq_true rfl⟩) (fPreV hN hZ hS (fun q h => hFc q h) hPc hKc hDc (ci := 9) (q0 := 0) rfl rfl) rfl rfl hl.1 rfl (lv_room (Nat.le_of_ble_eq_true rfl)) dL_valueOf_5 ⟨Nat.le_of_ble_eq_true rfl, Nat.le_of_ble_eq_true rfl⟩) hS (fun q _ h => hFc q h) hFc (fun q _ h => hFc q h) (fun E ce q9 u t H locs ht hvm hpx hE hz1 hk1 hS hq9 hv9 hc9 => ?_) (fun r u t H1 locs ht hvm hw hB hz1 hk1 hS => ?_)
  · skip
    obtain ⟨hP, hD⟩ := va_join (wr := [(o0, .inl (cJ, 1, .inr (.inl (fun _ => 0))))]) (w1 := []) hP hD [0, 1, 2] [3] rfl rfl (by decide) (by decide) hk1 hFc (fun k q h => by simp at h) ⟨fun i j p q h => by simp at h, fun k q h => by simp at h⟩
    have hP : va_P (dC, dI) vwCl [(o0, .inl (cJ, 1, .inr (.inl (fun _ => 0))))] _ := hP
    have hD : va_D A [(o0, .inl (cJ, 1, .inr (.inl (fun _ => 0))))] := hD
    rcases hE with ⟨hE9, hq9f⟩ | ⟨hE9, hq9f⟩
    · skip
      subst hE9
      have hf1 := hq9f
      refine vx_catch (name := "java/lang/IllegalArgumentException") hown [] { startPc := 0, endPc := 10, handlerPc := 13, catchType := 13 } [{ startPc := 0, endPc := 10, handlerPc := 17, catchType := 21 }] (by rw [htab]; rfl) (fun z hz => by simp at hz) rfl (by decide) (hts (.classLink RL 13 "java/lang/IllegalArgumentException") (List.mem_cons_of_mem _ (List.mem_append_left _ (List.mem_append_left _ (List.mem_append_left _ (List.mem_append_left _ (List.mem_append_left _ (List.mem_append_left _ (List.mem_append_left _ (List.mem_of_getElem? (i := 0) rfl)))))))))) (va_Nw.use rfl (hN.1 _ (List.mem_of_getElem? (i := 50) rfl))) hq9 hv9 hc9 ?_
      refine lv_astore (lv' := [(4, .ref q9), (0, .ref h0), (1, .int p0), (2, .int p1), (3, .ref o0)]) hx hb dL_valueOf_13 hl (Nat.le_of_ble_eq_true rfl) rfl (fun ls hl => ?_)
      refine lv_iconst (v := 1) hx hb dL_valueOf_15 (by decide) ?_
      exact ret _ (fun _ => 0) _ _ _ _ _ _ (Or.inl (⟨rfl, hf1⟩)) (hP.sub [0] rfl) (hK.sub [0] rfl) (hD.sub [0] (by decide) rfl) hS (Nat.le_of_ble_eq_true rfl) (Nat.le_of_ble_eq_true rfl) dL_valueOf_16
    · skip
      subst hE9
      have hf2 := hq9f
      refine vx_catch (name := "java/util/NoSuchElementException") hown [{ startPc := 0, endPc := 10, handlerPc := 13, catchType := 13 }] { startPc := 0, endPc := 10, handlerPc := 17, catchType := 21 } [] (by rw [htab]; rfl) (fun z hz => by rw [List.mem_singleton.mp hz]; exact Or.inr ⟨by decide, "java/lang/IllegalArgumentException", hts (.classLink RL 13 "java/lang/IllegalArgumentException") (List.mem_cons_of_mem _ (List.mem_append_left _ (List.mem_append_left _ (List.mem_append_left _ (List.mem_append_left _ (List.mem_append_left _ (List.mem_append_left _ (List.mem_append_left _ (List.mem_of_getElem? (i := 0) rfl))))))))), hX.2.1⟩) rfl (by decide) (hts (.classLink RL 21 "java/util/NoSuchElementException") (List.mem_cons_of_mem _ (List.mem_append_left _ (List.mem_append_left _ (List.mem_append_left _ (List.mem_append_left _ (List.mem_append_left _ (List.mem_append_left _ (List.mem_append_left _ (List.mem_of_getElem? (i := 1) rfl)))))))))) (va_Nw.use rfl (hN.1 _ (List.mem_of_getElem? (i := 55) rfl))) hq9 hv9 hc9 ?_
      refine lv_astore (lv' := [(4, .ref q9), (0, .ref h0), (1, .int p0), (2, .int p1), (3, .ref o0)]) hx hb dL_valueOf_17 hl (Nat.le_of_ble_eq_true rfl) rfl (fun ls hl => ?_)
      refine lv_iconst (v := 2) hx hb dL_valueOf_19 (by decide) ?_
      exact ret _ (fun _ => 0) _ _ _ _ _ _ (Or.inr (⟨rfl, hf2⟩)) (hP.sub [0] rfl) (hK.sub [0] rfl) (hD.sub [0] (by decide) rfl) hS (Nat.le_of_ble_eq_true rfl) (Nat.le_of_ble_eq_true rfl) dL_valueOf_20
  · skip
    exact hw.elim

set_option maxHeartbeats 4000000 in
set_option maxRecDepth 100000 in
/-- the law: netOf on a fresh object -/
theorem kL_netOf (l : Launch) (hfl : l.stackTraces = false) (dC : Nat → ClassId) (dI : Nat → Nat → Nat) (h0 w d co un ma tm : Nat) (wL wP wS dL dP dS : Nat) (o0 : Nat) (cJ : ClassId) (p0 p1 p2 : Int32) (sz : Nat) : gHi l yL_netOf wsL_netOf ({ frames := 9, cells := 2, slots := 12, locals := 147 } : Room) dC dI [.ref h0, .int p0, .int p1, .int p2, .ref o0] [(h0, .inr (9, [.ref w, .ref d, .ref co, .ref un, .ref ma, .ref tm, .int 0, .int 0, .int 0])), (w, .inr (3, [.int 0, .int 0, .ref wL, .ref wP, .ref wS])), (d, .inr (3, [.int 0, .int 0, .ref dL, .ref dP, .ref dS])), (o0, .inl (cJ, 1, .inr (.inl (fun _ => 0))))] [(cJ, .long)] sz (fun (r : Int32) (u : Nat → Int64) => r = 1 ∧ (¬ ((p0 = 0) ∨ (p0 = 1))) ∨ r = 2 ∧ (¬ (¬ ((p0 = 0) ∨ (p0 = 1))))) (fun u => [(o0, .inl (cJ, 1, .inr (.inl u)))]) (fun u => [(cJ, .long)]) := by
  refine oH_i (y := yL_netOf) (cc := cL_netOf) (maxL := 6) (by decide) rfl (Nat.le_of_ble_eq_true rfl) ?_
  intro p e s m args below meth c ls A Q hx hb hr hml hown hts hN hZ hA hin hlk hP hK hD hl hX htab ret
  have hS : va_S A s.heap s.heap [] := va_S.rf
  have hl : lv_has ls 6 [(0, .ref h0), (1, .int p0), (2, .int p1), (3, .int p2), (4, .ref o0)] := hl
  have hP : va_P (dC, dI) vwCl [(h0, .inr (9, [.ref w, .ref d, .ref co, .ref un, .ref ma, .ref tm, .int 0, .int 0, .int 0])), (w, .inr (3, [.int 0, .int 0, .ref wL, .ref wP, .ref wS])), (d, .inr (3, [.int 0, .int 0, .ref dL, .ref dP, .ref dS])), (o0, .inl (cJ, 1, .inr (.inl (fun _ => 0))))] _ := hP
  have hD : va_D A [(h0, .inr (9, [.ref w, .ref d, .ref co, .ref un, .ref ma, .ref tm, .int 0, .int 0, .int 0])), (w, .inr (3, [.int 0, .int 0, .ref wL, .ref wP, .ref wS])), (d, .inr (3, [.int 0, .int 0, .ref dL, .ref dP, .ref dS])), (o0, .inl (cJ, 1, .inr (.inl (fun _ => 0))))] := hD
  refine lv_aload hx hb dL_netOf_0 (lv_at hl 4 rfl) ?_
  refine lv_iconst (v := 0) hx hb dL_netOf_2 (by decide) ?_
  refine lv_aload_n hx hb dL_netOf_3 rfl (lv_at hl 0 rfl) ?_
  refine lv_iload_n hx hb dL_netOf_4 rfl (lv_at hl 1 rfl) ?_
  refine lv_iload_n hx hb dL_netOf_5 rfl (lv_at hl 2 rfl) ?_
  refine lv_iload_n hx hb dL_netOf_6 rfl (lv_at hl 3 rfl) ?_
  have hPc := hP.sub (ws' := [(h0, .inr (9, [.ref w, .ref d, .ref co, .ref un, .ref ma, .ref tm, .int 0, .int 0, .int 0])), (w, .inr (3, [.int 0, .int 0, .ref wL, .ref wP, .ref wS])), (d, .inr (3, [.int 0, .int 0, .ref dL, .ref dP, .ref dS]))]) [0, 1, 2] rfl
  have hDc := hD.sub (ws' := [(h0, .inr (9, [.ref w, .ref d, .ref co, .ref un, .ref ma, .ref tm, .int 0, .int 0, .int 0])), (w, .inr (3, [.int 0, .int 0, .ref wL, .ref wP, .ref wS])), (d, .inr (3, [.int 0, .int 0, .ref dL, .ref dP, .ref dS]))]) [0, 1, 2] (by decide) rfl
  have hKc := hK.sub (tys' := []) [] rfl
  have hFc := va_free (wc := [(h0, .inr (9, [.ref w, .ref d, .ref co, .ref un, .ref ma, .ref tm, .int 0, .int 0, .int 0])), (w, .inr (3, [.int 0, .int 0, .ref wL, .ref wP, .ref wS])), (d, .inr (3, [.int 0, .int 0, .ref dL, .ref dP, .ref dS]))]) hD hS hA [0, 1, 2] rfl
  refine vx_calli (vx_runV (As := [.int p0, .int p1, .int p2]) (rest := [.int 0, .ref o0]) ⟨hx, hb, hml, hown, hts⟩ (kX6_netOf l hfl dC dI h0 w d co un ma tm wL wP wS dL dP dS p0 p1 p2 s.heap.size) (cwV 3 hts gL_netOf_X6_netOf rfl rfl rfl (by decide +kernel) ⟨Nat.le_of_ble_eq_true rfl, Nat.le_of_ble_eq_true rfl⟩) (fPreV hN hZ hS (fun q h => hFc q h) hPc hKc hDc (ci := 9) (q0 := 0) rfl rfl) rfl rfl hl.1 rfl (lv_room (Nat.le_of_ble_eq_true rfl)) dL_netOf_7 ⟨Nat.le_of_ble_eq_true rfl, Nat.le_of_ble_eq_true rfl⟩) hS (fun q _ h => hFc q h) hFc (fun q _ h => hFc q h) (fun E ce q9 u t H locs ht hvm hpx hE hz1 hk1 hS hq9 hv9 hc9 => ?_) (fun r u t H1 locs ht hvm hw hB hz1 hk1 hS => ?_)
  · skip
    obtain ⟨hP, hD⟩ := va_join (wr := [(o0, .inl (cJ, 1, .inr (.inl (fun _ => 0))))]) (w1 := []) hP hD [0, 1, 2] [3] rfl rfl (by decide) (by decide) hk1 hFc (fun k q h => by simp at h) ⟨fun i j p q h => by simp at h, fun k q h => by simp at h⟩
    have hP : va_P (dC, dI) vwCl [(o0, .inl (cJ, 1, .inr (.inl (fun _ => 0))))] _ := hP
    have hD : va_D A [(o0, .inl (cJ, 1, .inr (.inl (fun _ => 0))))] := hD
    rcases hE with ⟨hE9, hq9f⟩ | ⟨hE9, hq9f⟩
    · skip
      subst hE9
      have hf1 := hq9f
      refine vx_catch (name := "java/lang/IllegalArgumentException") hown [] { startPc := 0, endPc := 12, handlerPc := 15, catchType := 13 } [{ startPc := 0, endPc := 12, handlerPc := 19, catchType := 21 }, { startPc := 0, endPc := 12, handlerPc := 23, catchType := 39 }] (by rw [htab]; rfl) (fun z hz => by simp at hz) rfl (by decide) (hts (.classLink RL 13 "java/lang/IllegalArgumentException") (List.mem_cons_of_mem _ (List.mem_append_left _ (List.mem_append_left _ (List.mem_append_left _ (List.mem_append_left _ (List.mem_append_left _ (List.mem_append_left _ (List.mem_append_left _ (List.mem_append_left _ (List.mem_of_getElem? (i := 0) rfl))))))))))) (va_Nw.use rfl (hN.1 _ (List.mem_of_getElem? (i := 50) rfl))) hq9 hv9 hc9 ?_
      refine lv_astore (lv' := [(5, .ref q9), (0, .ref h0), (1, .int p0), (2, .int p1), (3, .int p2), (4, .ref o0)]) hx hb dL_netOf_15 hl (Nat.le_of_ble_eq_true rfl) rfl (fun ls hl => ?_)
      refine lv_iconst (v := 1) hx hb dL_netOf_17 (by decide) ?_
      exact ret _ (fun _ => 0) _ _ _ _ _ _ (Or.inl (⟨rfl, hf1⟩)) (hP.sub [0] rfl) (hK.sub [0] rfl) (hD.sub [0] (by decide) rfl) hS (Nat.le_of_ble_eq_true rfl) (Nat.le_of_ble_eq_true rfl) dL_netOf_18
    · skip
      subst hE9
      have hf2 := hq9f
      refine vx_catch (name := "java/util/NoSuchElementException") hown [{ startPc := 0, endPc := 12, handlerPc := 15, catchType := 13 }] { startPc := 0, endPc := 12, handlerPc := 19, catchType := 21 } [{ startPc := 0, endPc := 12, handlerPc := 23, catchType := 39 }] (by rw [htab]; rfl) (fun z hz => by rw [List.mem_singleton.mp hz]; exact Or.inr ⟨by decide, "java/lang/IllegalArgumentException", hts (.classLink RL 13 "java/lang/IllegalArgumentException") (List.mem_cons_of_mem _ (List.mem_append_left _ (List.mem_append_left _ (List.mem_append_left _ (List.mem_append_left _ (List.mem_append_left _ (List.mem_append_left _ (List.mem_append_left _ (List.mem_append_left _ (List.mem_of_getElem? (i := 0) rfl)))))))))), hX.2.1⟩) rfl (by decide) (hts (.classLink RL 21 "java/util/NoSuchElementException") (List.mem_cons_of_mem _ (List.mem_append_left _ (List.mem_append_left _ (List.mem_append_left _ (List.mem_append_left _ (List.mem_append_left _ (List.mem_append_left _ (List.mem_append_left _ (List.mem_append_left _ (List.mem_of_getElem? (i := 1) rfl))))))))))) (va_Nw.use rfl (hN.1 _ (List.mem_of_getElem? (i := 55) rfl))) hq9 hv9 hc9 ?_
      refine lv_astore (lv' := [(5, .ref q9), (0, .ref h0), (1, .int p0), (2, .int p1), (3, .int p2), (4, .ref o0)]) hx hb dL_netOf_19 hl (Nat.le_of_ble_eq_true rfl) rfl (fun ls hl => ?_)
      refine lv_iconst (v := 2) hx hb dL_netOf_21 (by decide) ?_
      exact ret _ (fun _ => 0) _ _ _ _ _ _ (Or.inr (⟨rfl, hf2⟩)) (hP.sub [0] rfl) (hK.sub [0] rfl) (hD.sub [0] (by decide) rfl) hS (Nat.le_of_ble_eq_true rfl) (Nat.le_of_ble_eq_true rfl) dL_netOf_22
  · skip
    exact hw.elim

set_option maxHeartbeats 4000000 in
set_option maxRecDepth 100000 in
/-- the law: pinsOn on a fresh object -/
theorem kL_pinsOn (l : Launch) (hfl : l.stackTraces = false) (dC : Nat → ClassId) (dI : Nat → Nat → Nat) (h0 w d co un ma tm : Nat) (wL wP wS dL dP dS : Nat) (o0 : Nat) (cJ : ClassId) (p0 p1 : Int32) (sz : Nat) : gHi l yL_pinsOn wsL_pinsOn ({ frames := 9, cells := 2, slots := 12, locals := 146 } : Room) dC dI [.ref h0, .int p0, .int p1, .ref o0] [(h0, .inr (9, [.ref w, .ref d, .ref co, .ref un, .ref ma, .ref tm, .int 0, .int 0, .int 0])), (w, .inr (3, [.int 0, .int 0, .ref wL, .ref wP, .ref wS])), (d, .inr (3, [.int 0, .int 0, .ref dL, .ref dP, .ref dS])), (o0, .inl (cJ, 1, .inr (.inl (fun _ => 0))))] [(cJ, .long)] sz (fun (r : Int32) (u : Nat → Int64) => r = 1 ∧ (¬ ((p0 = 0) ∨ (p0 = 1))) ∨ r = 2 ∧ (¬ (¬ ((p0 = 0) ∨ (p0 = 1))))) (fun u => [(o0, .inl (cJ, 1, .inr (.inl u)))]) (fun u => [(cJ, .long)]) := by
  refine oH_i (y := yL_pinsOn) (cc := cL_pinsOn) (maxL := 5) (by decide) rfl (Nat.le_of_ble_eq_true rfl) ?_
  intro p e s m args below meth c ls A Q hx hb hr hml hown hts hN hZ hA hin hlk hP hK hD hl hX htab ret
  have hS : va_S A s.heap s.heap [] := va_S.rf
  have hl : lv_has ls 5 [(0, .ref h0), (1, .int p0), (2, .int p1), (3, .ref o0)] := hl
  have hP : va_P (dC, dI) vwCl [(h0, .inr (9, [.ref w, .ref d, .ref co, .ref un, .ref ma, .ref tm, .int 0, .int 0, .int 0])), (w, .inr (3, [.int 0, .int 0, .ref wL, .ref wP, .ref wS])), (d, .inr (3, [.int 0, .int 0, .ref dL, .ref dP, .ref dS])), (o0, .inl (cJ, 1, .inr (.inl (fun _ => 0))))] _ := hP
  have hD : va_D A [(h0, .inr (9, [.ref w, .ref d, .ref co, .ref un, .ref ma, .ref tm, .int 0, .int 0, .int 0])), (w, .inr (3, [.int 0, .int 0, .ref wL, .ref wP, .ref wS])), (d, .inr (3, [.int 0, .int 0, .ref dL, .ref dP, .ref dS])), (o0, .inl (cJ, 1, .inr (.inl (fun _ => 0))))] := hD
  refine lv_aload_n hx hb dL_pinsOn_0 rfl (lv_at hl 3 rfl) ?_
  refine lv_iconst (v := 0) hx hb dL_pinsOn_1 (by decide) ?_
  refine lv_aload_n hx hb dL_pinsOn_2 rfl (lv_at hl 0 rfl) ?_
  refine lv_iload_n hx hb dL_pinsOn_3 rfl (lv_at hl 1 rfl) ?_
  refine lv_iload_n hx hb dL_pinsOn_4 rfl (lv_at hl 2 rfl) ?_
  have hPc := hP.sub (ws' := [(h0, .inr (9, [.ref w, .ref d, .ref co, .ref un, .ref ma, .ref tm, .int 0, .int 0, .int 0])), (w, .inr (3, [.int 0, .int 0, .ref wL, .ref wP, .ref wS])), (d, .inr (3, [.int 0, .int 0, .ref dL, .ref dP, .ref dS]))]) [0, 1, 2] rfl
  have hDc := hD.sub (ws' := [(h0, .inr (9, [.ref w, .ref d, .ref co, .ref un, .ref ma, .ref tm, .int 0, .int 0, .int 0])), (w, .inr (3, [.int 0, .int 0, .ref wL, .ref wP, .ref wS])), (d, .inr (3, [.int 0, .int 0, .ref dL, .ref dP, .ref dS]))]) [0, 1, 2] (by decide) rfl
  have hKc := hK.sub (tys' := []) [] rfl
  have hFc := va_free (wc := [(h0, .inr (9, [.ref w, .ref d, .ref co, .ref un, .ref ma, .ref tm, .int 0, .int 0, .int 0])), (w, .inr (3, [.int 0, .int 0, .ref wL, .ref wP, .ref wS])), (d, .inr (3, [.int 0, .int 0, .ref dL, .ref dP, .ref dS]))]) hD hS hA [0, 1, 2] rfl
  refine vx_calli (vx_runV (As := [.int p0, .int p1]) (rest := [.int 0, .ref o0]) ⟨hx, hb, hml, hown, hts⟩ (kX6_pinsOn l hfl dC dI h0 w d co un ma tm wL wP wS dL dP dS p0 p1 s.heap.size) (cwV 2 hts gL_pinsOn_X6_pinsOn rfl rfl rfl (by decide +kernel) ⟨Nat.le_of_ble_eq_true rfl, Nat.le_of_ble_eq_true rfl⟩) (fPreV hN hZ hS (fun q h => hFc q h) hPc hKc hDc (ci := 9) (q0 := 0) rfl rfl) rfl rfl hl.1 rfl (lv_room (Nat.le_of_ble_eq_true rfl)) dL_pinsOn_5 ⟨Nat.le_of_ble_eq_true rfl, Nat.le_of_ble_eq_true rfl⟩) hS (fun q _ h => hFc q h) hFc (fun q _ h => hFc q h) (fun E ce q9 u t H locs ht hvm hpx hE hz1 hk1 hS hq9 hv9 hc9 => ?_) (fun r u t H1 locs ht hvm hw hB hz1 hk1 hS => ?_)
  · skip
    obtain ⟨hP, hD⟩ := va_join (wr := [(o0, .inl (cJ, 1, .inr (.inl (fun _ => 0))))]) (w1 := []) hP hD [0, 1, 2] [3] rfl rfl (by decide) (by decide) hk1 hFc (fun k q h => by simp at h) ⟨fun i j p q h => by simp at h, fun k q h => by simp at h⟩
    have hP : va_P (dC, dI) vwCl [(o0, .inl (cJ, 1, .inr (.inl (fun _ => 0))))] _ := hP
    have hD : va_D A [(o0, .inl (cJ, 1, .inr (.inl (fun _ => 0))))] := hD
    rcases hE with ⟨hE9, hq9f⟩ | ⟨hE9, hq9f⟩
    · skip
      subst hE9
      have hf1 := hq9f
      refine vx_catch (name := "java/lang/IllegalArgumentException") hown [] { startPc := 0, endPc := 10, handlerPc := 13, catchType := 13 } [{ startPc := 0, endPc := 10, handlerPc := 17, catchType := 21 }] (by rw [htab]; rfl) (fun z hz => by simp at hz) rfl (by decide) (hts (.classLink RL 13 "java/lang/IllegalArgumentException") (List.mem_cons_of_mem _ (List.mem_append_left _ (List.mem_append_left _ (List.mem_append_left _ (List.mem_append_left _ (List.mem_append_left _ (List.mem_append_left _ (List.mem_append_left _ (List.mem_of_getElem? (i := 0) rfl)))))))))) (va_Nw.use rfl (hN.1 _ (List.mem_of_getElem? (i := 50) rfl))) hq9 hv9 hc9 ?_
      refine lv_astore (lv' := [(4, .ref q9), (0, .ref h0), (1, .int p0), (2, .int p1), (3, .ref o0)]) hx hb dL_pinsOn_13 hl (Nat.le_of_ble_eq_true rfl) rfl (fun ls hl => ?_)
      refine lv_iconst (v := 1) hx hb dL_pinsOn_15 (by decide) ?_
      exact ret _ (fun _ => 0) _ _ _ _ _ _ (Or.inl (⟨rfl, hf1⟩)) (hP.sub [0] rfl) (hK.sub [0] rfl) (hD.sub [0] (by decide) rfl) hS (Nat.le_of_ble_eq_true rfl) (Nat.le_of_ble_eq_true rfl) dL_pinsOn_16
    · skip
      subst hE9
      have hf2 := hq9f
      refine vx_catch (name := "java/util/NoSuchElementException") hown [{ startPc := 0, endPc := 10, handlerPc := 13, catchType := 13 }] { startPc := 0, endPc := 10, handlerPc := 17, catchType := 21 } [] (by rw [htab]; rfl) (fun z hz => by rw [List.mem_singleton.mp hz]; exact Or.inr ⟨by decide, "java/lang/IllegalArgumentException", hts (.classLink RL 13 "java/lang/IllegalArgumentException") (List.mem_cons_of_mem _ (List.mem_append_left _ (List.mem_append_left _ (List.mem_append_left _ (List.mem_append_left _ (List.mem_append_left _ (List.mem_append_left _ (List.mem_append_left _ (List.mem_of_getElem? (i := 0) rfl))))))))), hX.2.1⟩) rfl (by decide) (hts (.classLink RL 21 "java/util/NoSuchElementException") (List.mem_cons_of_mem _ (List.mem_append_left _ (List.mem_append_left _ (List.mem_append_left _ (List.mem_append_left _ (List.mem_append_left _ (List.mem_append_left _ (List.mem_append_left _ (List.mem_of_getElem? (i := 1) rfl)))))))))) (va_Nw.use rfl (hN.1 _ (List.mem_of_getElem? (i := 55) rfl))) hq9 hv9 hc9 ?_
      refine lv_astore (lv' := [(4, .ref q9), (0, .ref h0), (1, .int p0), (2, .int p1), (3, .ref o0)]) hx hb dL_pinsOn_17 hl (Nat.le_of_ble_eq_true rfl) rfl (fun ls hl => ?_)
      refine lv_iconst (v := 2) hx hb dL_pinsOn_19 (by decide) ?_
      exact ret _ (fun _ => 0) _ _ _ _ _ _ (Or.inr (⟨rfl, hf2⟩)) (hP.sub [0] rfl) (hK.sub [0] rfl) (hD.sub [0] (by decide) rfl) hS (Nat.le_of_ble_eq_true rfl) (Nat.le_of_ble_eq_true rfl) dL_pinsOn_20
  · skip
    exact hw.elim

set_option maxHeartbeats 4000000 in
set_option maxRecDepth 100000 in
/-- the law: portOf on a fresh object -/
theorem kL_portOf (l : Launch) (hfl : l.stackTraces = false) (dC : Nat → ClassId) (dI : Nat → Nat → Nat) (h0 w d co un ma tm : Nat) (wL wP wS dL dP dS : Nat) (o0 : Nat) (cJ : ClassId) (p0 p1 : Int32) (sz : Nat) : gHi l yL_portOf wsL_portOf ({ frames := 9, cells := 2, slots := 12, locals := 146 } : Room) dC dI [.ref h0, .int p0, .int p1, .ref o0] [(h0, .inr (9, [.ref w, .ref d, .ref co, .ref un, .ref ma, .ref tm, .int 0, .int 0, .int 0])), (w, .inr (3, [.int 0, .int 0, .ref wL, .ref wP, .ref wS])), (d, .inr (3, [.int 0, .int 0, .ref dL, .ref dP, .ref dS])), (o0, .inl (cJ, 1, .inr (.inl (fun _ => 0))))] [(cJ, .long)] sz (fun (r : Int32) (u : Nat → Int64) => r = 1 ∧ (¬ ((p0 = 0) ∨ (p0 = 1))) ∨ r = 2 ∧ (¬ (¬ ((p0 = 0) ∨ (p0 = 1))))) (fun u => [(o0, .inl (cJ, 1, .inr (.inl u)))]) (fun u => [(cJ, .long)]) := by
  refine oH_i (y := yL_portOf) (cc := cL_portOf) (maxL := 5) (by decide) rfl (Nat.le_of_ble_eq_true rfl) ?_
  intro p e s m args below meth c ls A Q hx hb hr hml hown hts hN hZ hA hin hlk hP hK hD hl hX htab ret
  have hS : va_S A s.heap s.heap [] := va_S.rf
  have hl : lv_has ls 5 [(0, .ref h0), (1, .int p0), (2, .int p1), (3, .ref o0)] := hl
  have hP : va_P (dC, dI) vwCl [(h0, .inr (9, [.ref w, .ref d, .ref co, .ref un, .ref ma, .ref tm, .int 0, .int 0, .int 0])), (w, .inr (3, [.int 0, .int 0, .ref wL, .ref wP, .ref wS])), (d, .inr (3, [.int 0, .int 0, .ref dL, .ref dP, .ref dS])), (o0, .inl (cJ, 1, .inr (.inl (fun _ => 0))))] _ := hP
  have hD : va_D A [(h0, .inr (9, [.ref w, .ref d, .ref co, .ref un, .ref ma, .ref tm, .int 0, .int 0, .int 0])), (w, .inr (3, [.int 0, .int 0, .ref wL, .ref wP, .ref wS])), (d, .inr (3, [.int 0, .int 0, .ref dL, .ref dP, .ref dS])), (o0, .inl (cJ, 1, .inr (.inl (fun _ => 0))))] := hD
  refine lv_aload_n hx hb dL_portOf_0 rfl (lv_at hl 3 rfl) ?_
  refine lv_iconst (v := 0) hx hb dL_portOf_1 (by decide) ?_
  refine lv_aload_n hx hb dL_portOf_2 rfl (lv_at hl 0 rfl) ?_
  refine lv_iload_n hx hb dL_portOf_3 rfl (lv_at hl 1 rfl) ?_
  refine lv_iload_n hx hb dL_portOf_4 rfl (lv_at hl 2 rfl) ?_
  have hPc := hP.sub (ws' := [(h0, .inr (9, [.ref w, .ref d, .ref co, .ref un, .ref ma, .ref tm, .int 0, .int 0, .int 0])), (w, .inr (3, [.int 0, .int 0, .ref wL, .ref wP, .ref wS])), (d, .inr (3, [.int 0, .int 0, .ref dL, .ref dP, .ref dS]))]) [0, 1, 2] rfl
  have hDc := hD.sub (ws' := [(h0, .inr (9, [.ref w, .ref d, .ref co, .ref un, .ref ma, .ref tm, .int 0, .int 0, .int 0])), (w, .inr (3, [.int 0, .int 0, .ref wL, .ref wP, .ref wS])), (d, .inr (3, [.int 0, .int 0, .ref dL, .ref dP, .ref dS]))]) [0, 1, 2] (by decide) rfl
  have hKc := hK.sub (tys' := []) [] rfl
  have hFc := va_free (wc := [(h0, .inr (9, [.ref w, .ref d, .ref co, .ref un, .ref ma, .ref tm, .int 0, .int 0, .int 0])), (w, .inr (3, [.int 0, .int 0, .ref wL, .ref wP, .ref wS])), (d, .inr (3, [.int 0, .int 0, .ref dL, .ref dP, .ref dS]))]) hD hS hA [0, 1, 2] rfl
  refine vx_calli (vx_runV (As := [.int p0, .int p1]) (rest := [.int 0, .ref o0]) ⟨hx, hb, hml, hown, hts⟩ (kX6_portOf l hfl dC dI h0 w d co un ma tm wL wP wS dL dP dS p0 p1 s.heap.size) (cwV 2 hts gL_portOf_X6_portOf rfl rfl rfl (by decide +kernel) ⟨Nat.le_of_ble_eq_true rfl, Nat.le_of_ble_eq_true rfl⟩) (fPreV hN hZ hS (fun q h => hFc q h) hPc hKc hDc (ci := 9) (q0 := 0) rfl rfl) rfl rfl hl.1 rfl (lv_room (Nat.le_of_ble_eq_true rfl)) dL_portOf_5 ⟨Nat.le_of_ble_eq_true rfl, Nat.le_of_ble_eq_true rfl⟩) hS (fun q _ h => hFc q h) hFc (fun q _ h => hFc q h) (fun E ce q9 u t H locs ht hvm hpx hE hz1 hk1 hS hq9 hv9 hc9 => ?_) (fun r u t H1 locs ht hvm hw hB hz1 hk1 hS => ?_)
  · skip
    obtain ⟨hP, hD⟩ := va_join (wr := [(o0, .inl (cJ, 1, .inr (.inl (fun _ => 0))))]) (w1 := []) hP hD [0, 1, 2] [3] rfl rfl (by decide) (by decide) hk1 hFc (fun k q h => by simp at h) ⟨fun i j p q h => by simp at h, fun k q h => by simp at h⟩
    have hP : va_P (dC, dI) vwCl [(o0, .inl (cJ, 1, .inr (.inl (fun _ => 0))))] _ := hP
    have hD : va_D A [(o0, .inl (cJ, 1, .inr (.inl (fun _ => 0))))] := hD
    rcases hE with ⟨hE9, hq9f⟩ | ⟨hE9, hq9f⟩
    · skip
      subst hE9
      have hf1 := hq9f
      refine vx_catch (name := "java/lang/IllegalArgumentException") hown [] { startPc := 0, endPc := 10, handlerPc := 13, catchType := 13 } [{ startPc := 0, endPc := 10, handlerPc := 17, catchType := 21 }] (by rw [htab]; rfl) (fun z hz => by simp at hz) rfl (by decide) (hts (.classLink RL 13 "java/lang/IllegalArgumentException") (List.mem_cons_of_mem _ (List.mem_append_left _ (List.mem_append_left _ (List.mem_append_left _ (List.mem_append_left _ (List.mem_append_left _ (List.mem_append_left _ (List.mem_of_getElem? (i := 0) rfl))))))))) (va_Nw.use rfl (hN.1 _ (List.mem_of_getElem? (i := 50) rfl))) hq9 hv9 hc9 ?_
      refine lv_astore (lv' := [(4, .ref q9), (0, .ref h0), (1, .int p0), (2, .int p1), (3, .ref o0)]) hx hb dL_portOf_13 hl (Nat.le_of_ble_eq_true rfl) rfl (fun ls hl => ?_)
      refine lv_iconst (v := 1) hx hb dL_portOf_15 (by decide) ?_
      exact ret _ (fun _ => 0) _ _ _ _ _ _ (Or.inl (⟨rfl, hf1⟩)) (hP.sub [0] rfl) (hK.sub [0] rfl) (hD.sub [0] (by decide) rfl) hS (Nat.le_of_ble_eq_true rfl) (Nat.le_of_ble_eq_true rfl) dL_portOf_16
    · skip
      subst hE9
      have hf2 := hq9f
      refine vx_catch (name := "java/util/NoSuchElementException") hown [{ startPc := 0, endPc := 10, handlerPc := 13, catchType := 13 }] { startPc := 0, endPc := 10, handlerPc := 17, catchType := 21 } [] (by rw [htab]; rfl) (fun z hz => by rw [List.mem_singleton.mp hz]; exact Or.inr ⟨by decide, "java/lang/IllegalArgumentException", hts (.classLink RL 13 "java/lang/IllegalArgumentException") (List.mem_cons_of_mem _ (List.mem_append_left _ (List.mem_append_left _ (List.mem_append_left _ (List.mem_append_left _ (List.mem_append_left _ (List.mem_append_left _ (List.mem_of_getElem? (i := 0) rfl)))))))), hX.2.1⟩) rfl (by decide) (hts (.classLink RL 21 "java/util/NoSuchElementException") (List.mem_cons_of_mem _ (List.mem_append_left _ (List.mem_append_left _ (List.mem_append_left _ (List.mem_append_left _ (List.mem_append_left _ (List.mem_append_left _ (List.mem_of_getElem? (i := 1) rfl))))))))) (va_Nw.use rfl (hN.1 _ (List.mem_of_getElem? (i := 55) rfl))) hq9 hv9 hc9 ?_
      refine lv_astore (lv' := [(4, .ref q9), (0, .ref h0), (1, .int p0), (2, .int p1), (3, .ref o0)]) hx hb dL_portOf_17 hl (Nat.le_of_ble_eq_true rfl) rfl (fun ls hl => ?_)
      refine lv_iconst (v := 2) hx hb dL_portOf_19 (by decide) ?_
      exact ret _ (fun _ => 0) _ _ _ _ _ _ (Or.inr (⟨rfl, hf2⟩)) (hP.sub [0] rfl) (hK.sub [0] rfl) (hD.sub [0] (by decide) rfl) hS (Nat.le_of_ble_eq_true rfl) (Nat.le_of_ble_eq_true rfl) dL_portOf_20
  · skip
    exact hw.elim

set_option maxHeartbeats 4000000 in
set_option maxRecDepth 100000 in
/-- the law: distance on a fresh object -/
theorem kL_distance (l : Launch) (hfl : l.stackTraces = false) (dC : Nat → ClassId) (dI : Nat → Nat → Nat) (h0 w d co un ma tm : Nat) (wL wP wS dL dP dS : Nat) (o0 : Nat) (cJ : ClassId) (p0 p1 : Int32) (sz : Nat) : gHi l yL_distance wsL_distance ({ frames := 9, cells := 2, slots := 12, locals := 146 } : Room) dC dI [.ref h0, .int p0, .int p1, .ref o0] [(h0, .inr (9, [.ref w, .ref d, .ref co, .ref un, .ref ma, .ref tm, .int 0, .int 0, .int 0])), (w, .inr (3, [.int 0, .int 0, .ref wL, .ref wP, .ref wS])), (d, .inr (3, [.int 0, .int 0, .ref dL, .ref dP, .ref dS])), (o0, .inl (cJ, 1, .inr (.inl (fun _ => 0))))] [(cJ, .long)] sz (fun (r : Int32) (u : Nat → Int64) => r = 1 ∧ (¬ ((p0 = 0) ∨ (p0 = 1))) ∨ r = 2 ∧ (¬ (¬ ((p0 = 0) ∨ (p0 = 1))))) (fun u => [(o0, .inl (cJ, 1, .inr (.inl u)))]) (fun u => [(cJ, .long)]) := by
  refine oH_i (y := yL_distance) (cc := cL_distance) (maxL := 5) (by decide) rfl (Nat.le_of_ble_eq_true rfl) ?_
  intro p e s m args below meth c ls A Q hx hb hr hml hown hts hN hZ hA hin hlk hP hK hD hl hX htab ret
  have hS : va_S A s.heap s.heap [] := va_S.rf
  have hl : lv_has ls 5 [(0, .ref h0), (1, .int p0), (2, .int p1), (3, .ref o0)] := hl
  have hP : va_P (dC, dI) vwCl [(h0, .inr (9, [.ref w, .ref d, .ref co, .ref un, .ref ma, .ref tm, .int 0, .int 0, .int 0])), (w, .inr (3, [.int 0, .int 0, .ref wL, .ref wP, .ref wS])), (d, .inr (3, [.int 0, .int 0, .ref dL, .ref dP, .ref dS])), (o0, .inl (cJ, 1, .inr (.inl (fun _ => 0))))] _ := hP
  have hD : va_D A [(h0, .inr (9, [.ref w, .ref d, .ref co, .ref un, .ref ma, .ref tm, .int 0, .int 0, .int 0])), (w, .inr (3, [.int 0, .int 0, .ref wL, .ref wP, .ref wS])), (d, .inr (3, [.int 0, .int 0, .ref dL, .ref dP, .ref dS])), (o0, .inl (cJ, 1, .inr (.inl (fun _ => 0))))] := hD
  refine lv_aload_n hx hb dL_distance_0 rfl (lv_at hl 3 rfl) ?_
  refine lv_iconst (v := 0) hx hb dL_distance_1 (by decide) ?_
  refine lv_aload_n hx hb dL_distance_2 rfl (lv_at hl 0 rfl) ?_
  refine lv_iload_n hx hb dL_distance_3 rfl (lv_at hl 1 rfl) ?_
  refine lv_iload_n hx hb dL_distance_4 rfl (lv_at hl 2 rfl) ?_
  have hPc := hP.sub (ws' := [(h0, .inr (9, [.ref w, .ref d, .ref co, .ref un, .ref ma, .ref tm, .int 0, .int 0, .int 0])), (w, .inr (3, [.int 0, .int 0, .ref wL, .ref wP, .ref wS])), (d, .inr (3, [.int 0, .int 0, .ref dL, .ref dP, .ref dS]))]) [0, 1, 2] rfl
  have hDc := hD.sub (ws' := [(h0, .inr (9, [.ref w, .ref d, .ref co, .ref un, .ref ma, .ref tm, .int 0, .int 0, .int 0])), (w, .inr (3, [.int 0, .int 0, .ref wL, .ref wP, .ref wS])), (d, .inr (3, [.int 0, .int 0, .ref dL, .ref dP, .ref dS]))]) [0, 1, 2] (by decide) rfl
  have hKc := hK.sub (tys' := []) [] rfl
  have hFc := va_free (wc := [(h0, .inr (9, [.ref w, .ref d, .ref co, .ref un, .ref ma, .ref tm, .int 0, .int 0, .int 0])), (w, .inr (3, [.int 0, .int 0, .ref wL, .ref wP, .ref wS])), (d, .inr (3, [.int 0, .int 0, .ref dL, .ref dP, .ref dS]))]) hD hS hA [0, 1, 2] rfl
  refine vx_calli (vx_runV (As := [.int p0, .int p1]) (rest := [.int 0, .ref o0]) ⟨hx, hb, hml, hown, hts⟩ (kX6_distance l hfl dC dI h0 w d co un ma tm wL wP wS dL dP dS p0 p1 s.heap.size) (cwV 2 hts gL_distance_X6_distance rfl rfl rfl (by decide +kernel) ⟨Nat.le_of_ble_eq_true rfl, Nat.le_of_ble_eq_true rfl⟩) (fPreV hN hZ hS (fun q h => hFc q h) hPc hKc hDc (ci := 9) (q0 := 0) rfl rfl) rfl rfl hl.1 rfl (lv_room (Nat.le_of_ble_eq_true rfl)) dL_distance_5 ⟨Nat.le_of_ble_eq_true rfl, Nat.le_of_ble_eq_true rfl⟩) hS (fun q _ h => hFc q h) hFc (fun q _ h => hFc q h) (fun E ce q9 u t H locs ht hvm hpx hE hz1 hk1 hS hq9 hv9 hc9 => ?_) (fun r u t H1 locs ht hvm hw hB hz1 hk1 hS => ?_)
  · skip
    obtain ⟨hP, hD⟩ := va_join (wr := [(o0, .inl (cJ, 1, .inr (.inl (fun _ => 0))))]) (w1 := []) hP hD [0, 1, 2] [3] rfl rfl (by decide) (by decide) hk1 hFc (fun k q h => by simp at h) ⟨fun i j p q h => by simp at h, fun k q h => by simp at h⟩
    have hP : va_P (dC, dI) vwCl [(o0, .inl (cJ, 1, .inr (.inl (fun _ => 0))))] _ := hP
    have hD : va_D A [(o0, .inl (cJ, 1, .inr (.inl (fun _ => 0))))] := hD
    rcases hE with ⟨hE9, hq9f⟩ | ⟨hE9, hq9f⟩
    · skip
      subst hE9
      have hf1 := hq9f
      refine vx_catch (name := "java/lang/IllegalArgumentException") hown [] { startPc := 0, endPc := 10, handlerPc := 13, catchType := 13 } [{ startPc := 0, endPc := 10, handlerPc := 17, catchType := 21 }] (by rw [htab]; rfl) (fun z hz => by simp at hz) rfl (by decide) (hts (.classLink RL 13 "java/lang/IllegalArgumentException") (List.mem_cons_of_mem _ (List.mem_append_left _ (List.mem_append_left _ (List.mem_append_left _ (List.mem_append_left _ (List.mem_append_left _ (List.mem_append_left _ (List.mem_append_left _ (List.mem_of_getElem? (i := 0) rfl)))))))))) (va_Nw.use rfl (hN.1 _ (List.mem_of_getElem? (i := 50) rfl))) hq9 hv9 hc9 ?_
      refine lv_astore (lv' := [(4, .ref q9), (0, .ref h0), (1, .int p0), (2, .int p1), (3, .ref o0)]) hx hb dL_distance_13 hl (Nat.le_of_ble_eq_true rfl) rfl (fun ls hl => ?_)
      refine lv_iconst (v := 1) hx hb dL_distance_15 (by decide) ?_
      exact ret _ (fun _ => 0) _ _ _ _ _ _ (Or.inl (⟨rfl, hf1⟩)) (hP.sub [0] rfl) (hK.sub [0] rfl) (hD.sub [0] (by decide) rfl) hS (Nat.le_of_ble_eq_true rfl) (Nat.le_of_ble_eq_true rfl) dL_distance_16
    · skip
      subst hE9
      have hf2 := hq9f
      refine vx_catch (name := "java/util/NoSuchElementException") hown [{ startPc := 0, endPc := 10, handlerPc := 13, catchType := 13 }] { startPc := 0, endPc := 10, handlerPc := 17, catchType := 21 } [] (by rw [htab]; rfl) (fun z hz => by rw [List.mem_singleton.mp hz]; exact Or.inr ⟨by decide, "java/lang/IllegalArgumentException", hts (.classLink RL 13 "java/lang/IllegalArgumentException") (List.mem_cons_of_mem _ (List.mem_append_left _ (List.mem_append_left _ (List.mem_append_left _ (List.mem_append_left _ (List.mem_append_left _ (List.mem_append_left _ (List.mem_append_left _ (List.mem_of_getElem? (i := 0) rfl))))))))), hX.2.1⟩) rfl (by decide) (hts (.classLink RL 21 "java/util/NoSuchElementException") (List.mem_cons_of_mem _ (List.mem_append_left _ (List.mem_append_left _ (List.mem_append_left _ (List.mem_append_left _ (List.mem_append_left _ (List.mem_append_left _ (List.mem_append_left _ (List.mem_of_getElem? (i := 1) rfl)))))))))) (va_Nw.use rfl (hN.1 _ (List.mem_of_getElem? (i := 55) rfl))) hq9 hv9 hc9 ?_
      refine lv_astore (lv' := [(4, .ref q9), (0, .ref h0), (1, .int p0), (2, .int p1), (3, .ref o0)]) hx hb dL_distance_17 hl (Nat.le_of_ble_eq_true rfl) rfl (fun ls hl => ?_)
      refine lv_iconst (v := 2) hx hb dL_distance_19 (by decide) ?_
      exact ret _ (fun _ => 0) _ _ _ _ _ _ (Or.inr (⟨rfl, hf2⟩)) (hP.sub [0] rfl) (hK.sub [0] rfl) (hD.sub [0] (by decide) rfl) hS (Nat.le_of_ble_eq_true rfl) (Nat.le_of_ble_eq_true rfl) dL_distance_20
  · skip
    exact hw.elim

set_option maxHeartbeats 4000000 in
set_option maxRecDepth 100000 in
/-- the law: labelLength on a fresh object -/
theorem kL_labelLength (l : Launch) (hfl : l.stackTraces = false) (dC : Nat → ClassId) (dI : Nat → Nat → Nat) (h0 w d co un ma tm : Nat) (wL wP wS dL dP dS : Nat) (o0 : Nat) (cJ : ClassId) (p0 p1 : Int32) (sz : Nat) : gHi l yL_labelLength wsL_labelLength ({ frames := 9, cells := 2, slots := 12, locals := 146 } : Room) dC dI [.ref h0, .int p0, .int p1, .ref o0] [(h0, .inr (9, [.ref w, .ref d, .ref co, .ref un, .ref ma, .ref tm, .int 0, .int 0, .int 0])), (w, .inr (3, [.int 0, .int 0, .ref wL, .ref wP, .ref wS])), (d, .inr (3, [.int 0, .int 0, .ref dL, .ref dP, .ref dS])), (o0, .inl (cJ, 1, .inr (.inl (fun _ => 0))))] [(cJ, .long)] sz (fun (r : Int32) (u : Nat → Int64) => r = 1 ∧ (¬ ((p0 = 0) ∨ (p0 = 1))) ∨ r = 2 ∧ (¬ (¬ ((p0 = 0) ∨ (p0 = 1))))) (fun u => [(o0, .inl (cJ, 1, .inr (.inl u)))]) (fun u => [(cJ, .long)]) := by
  refine oH_i (y := yL_labelLength) (cc := cL_labelLength) (maxL := 5) (by decide) rfl (Nat.le_of_ble_eq_true rfl) ?_
  intro p e s m args below meth c ls A Q hx hb hr hml hown hts hN hZ hA hin hlk hP hK hD hl hX htab ret
  have hS : va_S A s.heap s.heap [] := va_S.rf
  have hl : lv_has ls 5 [(0, .ref h0), (1, .int p0), (2, .int p1), (3, .ref o0)] := hl
  have hP : va_P (dC, dI) vwCl [(h0, .inr (9, [.ref w, .ref d, .ref co, .ref un, .ref ma, .ref tm, .int 0, .int 0, .int 0])), (w, .inr (3, [.int 0, .int 0, .ref wL, .ref wP, .ref wS])), (d, .inr (3, [.int 0, .int 0, .ref dL, .ref dP, .ref dS])), (o0, .inl (cJ, 1, .inr (.inl (fun _ => 0))))] _ := hP
  have hD : va_D A [(h0, .inr (9, [.ref w, .ref d, .ref co, .ref un, .ref ma, .ref tm, .int 0, .int 0, .int 0])), (w, .inr (3, [.int 0, .int 0, .ref wL, .ref wP, .ref wS])), (d, .inr (3, [.int 0, .int 0, .ref dL, .ref dP, .ref dS])), (o0, .inl (cJ, 1, .inr (.inl (fun _ => 0))))] := hD
  refine lv_aload_n hx hb dL_labelLength_0 rfl (lv_at hl 3 rfl) ?_
  refine lv_iconst (v := 0) hx hb dL_labelLength_1 (by decide) ?_
  refine lv_aload_n hx hb dL_labelLength_2 rfl (lv_at hl 0 rfl) ?_
  refine lv_iload_n hx hb dL_labelLength_3 rfl (lv_at hl 1 rfl) ?_
  refine lv_iload_n hx hb dL_labelLength_4 rfl (lv_at hl 2 rfl) ?_
  have hPc := hP.sub (ws' := [(h0, .inr (9, [.ref w, .ref d, .ref co, .ref un, .ref ma, .ref tm, .int 0, .int 0, .int 0])), (w, .inr (3, [.int 0, .int 0, .ref wL, .ref wP, .ref wS])), (d, .inr (3, [.int 0, .int 0, .ref dL, .ref dP, .ref dS]))]) [0, 1, 2] rfl
  have hDc := hD.sub (ws' := [(h0, .inr (9, [.ref w, .ref d, .ref co, .ref un, .ref ma, .ref tm, .int 0, .int 0, .int 0])), (w, .inr (3, [.int 0, .int 0, .ref wL, .ref wP, .ref wS])), (d, .inr (3, [.int 0, .int 0, .ref dL, .ref dP, .ref dS]))]) [0, 1, 2] (by decide) rfl
  have hKc := hK.sub (tys' := []) [] rfl
  have hFc := va_free (wc := [(h0, .inr (9, [.ref w, .ref d, .ref co, .ref un, .ref ma, .ref tm, .int 0, .int 0, .int 0])), (w, .inr (3, [.int 0, .int 0, .ref wL, .ref wP, .ref wS])), (d, .inr (3, [.int 0, .int 0, .ref dL, .ref dP, .ref dS]))]) hD hS hA [0, 1, 2] rfl
  refine vx_calli (vx_runV (As := [.int p0, .int p1]) (rest := [.int 0, .ref o0]) ⟨hx, hb, hml, hown, hts⟩ (kX6_labelLength l hfl dC dI h0 w d co un ma tm wL wP wS dL dP dS p0 p1 s.heap.size) (cwV 2 hts gL_labelLength_X6_labelLength rfl rfl rfl (by decide +kernel) ⟨Nat.le_of_ble_eq_true rfl, Nat.le_of_ble_eq_true rfl⟩) (fPreV hN hZ hS (fun q h => hFc q h) hPc hKc hDc (ci := 9) (q0 := 0) rfl rfl) rfl rfl hl.1 rfl (lv_room (Nat.le_of_ble_eq_true rfl)) dL_labelLength_5 ⟨Nat.le_of_ble_eq_true rfl, Nat.le_of_ble_eq_true rfl⟩) hS (fun q _ h => hFc q h) hFc (fun q _ h => hFc q h) (fun E ce q9 u t H locs ht hvm hpx hE hz1 hk1 hS hq9 hv9 hc9 => ?_) (fun r u t H1 locs ht hvm hw hB hz1 hk1 hS => ?_)
  · skip
    obtain ⟨hP, hD⟩ := va_join (wr := [(o0, .inl (cJ, 1, .inr (.inl (fun _ => 0))))]) (w1 := []) hP hD [0, 1, 2] [3] rfl rfl (by decide) (by decide) hk1 hFc (fun k q h => by simp at h) ⟨fun i j p q h => by simp at h, fun k q h => by simp at h⟩
    have hP : va_P (dC, dI) vwCl [(o0, .inl (cJ, 1, .inr (.inl (fun _ => 0))))] _ := hP
    have hD : va_D A [(o0, .inl (cJ, 1, .inr (.inl (fun _ => 0))))] := hD
    rcases hE with ⟨hE9, hq9f⟩ | ⟨hE9, hq9f⟩
    · skip
      subst hE9
      have hf1 := hq9f
      refine vx_catch (name := "java/lang/IllegalArgumentException") hown [] { startPc := 0, endPc := 10, handlerPc := 13, catchType := 13 } [{ startPc := 0, endPc := 10, handlerPc := 17, catchType := 21 }] (by rw [htab]; rfl) (fun z hz => by simp at hz) rfl (by decide) (hts (.classLink RL 13 "java/lang/IllegalArgumentException") (List.mem_cons_of_mem _ (List.mem_append_left _ (List.mem_append_left _ (List.mem_append_left _ (List.mem_append_left _ (List.mem_append_left _ (List.mem_append_left _ (List.mem_append_left _ (List.mem_of_getElem? (i := 0) rfl)))))))))) (va_Nw.use rfl (hN.1 _ (List.mem_of_getElem? (i := 50) rfl))) hq9 hv9 hc9 ?_
      refine lv_astore (lv' := [(4, .ref q9), (0, .ref h0), (1, .int p0), (2, .int p1), (3, .ref o0)]) hx hb dL_labelLength_13 hl (Nat.le_of_ble_eq_true rfl) rfl (fun ls hl => ?_)
      refine lv_iconst (v := 1) hx hb dL_labelLength_15 (by decide) ?_
      exact ret _ (fun _ => 0) _ _ _ _ _ _ (Or.inl (⟨rfl, hf1⟩)) (hP.sub [0] rfl) (hK.sub [0] rfl) (hD.sub [0] (by decide) rfl) hS (Nat.le_of_ble_eq_true rfl) (Nat.le_of_ble_eq_true rfl) dL_labelLength_16
    · skip
      subst hE9
      have hf2 := hq9f
      refine vx_catch (name := "java/util/NoSuchElementException") hown [{ startPc := 0, endPc := 10, handlerPc := 13, catchType := 13 }] { startPc := 0, endPc := 10, handlerPc := 17, catchType := 21 } [] (by rw [htab]; rfl) (fun z hz => by rw [List.mem_singleton.mp hz]; exact Or.inr ⟨by decide, "java/lang/IllegalArgumentException", hts (.classLink RL 13 "java/lang/IllegalArgumentException") (List.mem_cons_of_mem _ (List.mem_append_left _ (List.mem_append_left _ (List.mem_append_left _ (List.mem_append_left _ (List.mem_append_left _ (List.mem_append_left _ (List.mem_append_left _ (List.mem_of_getElem? (i := 0) rfl))))))))), hX.2.1⟩) rfl (by decide) (hts (.classLink RL 21 "java/util/NoSuchElementException") (List.mem_cons_of_mem _ (List.mem_append_left _ (List.mem_append_left _ (List.mem_append_left _ (List.mem_append_left _ (List.mem_append_left _ (List.mem_append_left _ (List.mem_append_left _ (List.mem_of_getElem? (i := 1) rfl)))))))))) (va_Nw.use rfl (hN.1 _ (List.mem_of_getElem? (i := 55) rfl))) hq9 hv9 hc9 ?_
      refine lv_astore (lv' := [(4, .ref q9), (0, .ref h0), (1, .int p0), (2, .int p1), (3, .ref o0)]) hx hb dL_labelLength_17 hl (Nat.le_of_ble_eq_true rfl) rfl (fun ls hl => ?_)
      refine lv_iconst (v := 2) hx hb dL_labelLength_19 (by decide) ?_
      exact ret _ (fun _ => 0) _ _ _ _ _ _ (Or.inr (⟨rfl, hf2⟩)) (hP.sub [0] rfl) (hK.sub [0] rfl) (hD.sub [0] (by decide) rfl) hS (Nat.le_of_ble_eq_true rfl) (Nat.le_of_ble_eq_true rfl) dL_labelLength_20
  · skip
    exact hw.elim

set_option maxHeartbeats 4000000 in
set_option maxRecDepth 100000 in
/-- the law: labelAt on a fresh object -/
theorem kL_labelAt (l : Launch) (hfl : l.stackTraces = false) (dC : Nat → ClassId) (dI : Nat → Nat → Nat) (h0 w d co un ma tm : Nat) (wL wP wS dL dP dS : Nat) (o0 : Nat) (cJ : ClassId) (p0 p1 p2 : Int32) (sz : Nat) : gHi l yL_labelAt wsL_labelAt ({ frames := 9, cells := 2, slots := 12, locals := 147 } : Room) dC dI [.ref h0, .int p0, .int p1, .int p2, .ref o0] [(h0, .inr (9, [.ref w, .ref d, .ref co, .ref un, .ref ma, .ref tm, .int 0, .int 0, .int 0])), (w, .inr (3, [.int 0, .int 0, .ref wL, .ref wP, .ref wS])), (d, .inr (3, [.int 0, .int 0, .ref dL, .ref dP, .ref dS])), (o0, .inl (cJ, 1, .inr (.inl (fun _ => 0))))] [(cJ, .long)] sz (fun (r : Int32) (u : Nat → Int64) => r = 1 ∧ (¬ ((p0 = 0) ∨ (p0 = 1))) ∨ r = 2 ∧ (¬ (¬ ((p0 = 0) ∨ (p0 = 1))))) (fun u => [(o0, .inl (cJ, 1, .inr (.inl u)))]) (fun u => [(cJ, .long)]) := by
  refine oH_i (y := yL_labelAt) (cc := cL_labelAt) (maxL := 6) (by decide) rfl (Nat.le_of_ble_eq_true rfl) ?_
  intro p e s m args below meth c ls A Q hx hb hr hml hown hts hN hZ hA hin hlk hP hK hD hl hX htab ret
  have hS : va_S A s.heap s.heap [] := va_S.rf
  have hl : lv_has ls 6 [(0, .ref h0), (1, .int p0), (2, .int p1), (3, .int p2), (4, .ref o0)] := hl
  have hP : va_P (dC, dI) vwCl [(h0, .inr (9, [.ref w, .ref d, .ref co, .ref un, .ref ma, .ref tm, .int 0, .int 0, .int 0])), (w, .inr (3, [.int 0, .int 0, .ref wL, .ref wP, .ref wS])), (d, .inr (3, [.int 0, .int 0, .ref dL, .ref dP, .ref dS])), (o0, .inl (cJ, 1, .inr (.inl (fun _ => 0))))] _ := hP
  have hD : va_D A [(h0, .inr (9, [.ref w, .ref d, .ref co, .ref un, .ref ma, .ref tm, .int 0, .int 0, .int 0])), (w, .inr (3, [.int 0, .int 0, .ref wL, .ref wP, .ref wS])), (d, .inr (3, [.int 0, .int 0, .ref dL, .ref dP, .ref dS])), (o0, .inl (cJ, 1, .inr (.inl (fun _ => 0))))] := hD
  refine lv_aload hx hb dL_labelAt_0 (lv_at hl 4 rfl) ?_
  refine lv_iconst (v := 0) hx hb dL_labelAt_2 (by decide) ?_
  refine lv_aload_n hx hb dL_labelAt_3 rfl (lv_at hl 0 rfl) ?_
  refine lv_iload_n hx hb dL_labelAt_4 rfl (lv_at hl 1 rfl) ?_
  refine lv_iload_n hx hb dL_labelAt_5 rfl (lv_at hl 2 rfl) ?_
  refine lv_iload_n hx hb dL_labelAt_6 rfl (lv_at hl 3 rfl) ?_
  have hPc := hP.sub (ws' := [(h0, .inr (9, [.ref w, .ref d, .ref co, .ref un, .ref ma, .ref tm, .int 0, .int 0, .int 0])), (w, .inr (3, [.int 0, .int 0, .ref wL, .ref wP, .ref wS])), (d, .inr (3, [.int 0, .int 0, .ref dL, .ref dP, .ref dS]))]) [0, 1, 2] rfl
  have hDc := hD.sub (ws' := [(h0, .inr (9, [.ref w, .ref d, .ref co, .ref un, .ref ma, .ref tm, .int 0, .int 0, .int 0])), (w, .inr (3, [.int 0, .int 0, .ref wL, .ref wP, .ref wS])), (d, .inr (3, [.int 0, .int 0, .ref dL, .ref dP, .ref dS]))]) [0, 1, 2] (by decide) rfl
  have hKc := hK.sub (tys' := []) [] rfl
  have hFc := va_free (wc := [(h0, .inr (9, [.ref w, .ref d, .ref co, .ref un, .ref ma, .ref tm, .int 0, .int 0, .int 0])), (w, .inr (3, [.int 0, .int 0, .ref wL, .ref wP, .ref wS])), (d, .inr (3, [.int 0, .int 0, .ref dL, .ref dP, .ref dS]))]) hD hS hA [0, 1, 2] rfl
  refine vx_calli (vx_runV (As := [.int p0, .int p1, .int p2]) (rest := [.int 0, .ref o0]) ⟨hx, hb, hml, hown, hts⟩ (kX6_labelAt l hfl dC dI h0 w d co un ma tm wL wP wS dL dP dS p0 p1 p2 s.heap.size) (cwV 3 hts gL_labelAt_X6_labelAt rfl rfl rfl (by decide +kernel) ⟨Nat.le_of_ble_eq_true rfl, Nat.le_of_ble_eq_true rfl⟩) (fPreV hN hZ hS (fun q h => hFc q h) hPc hKc hDc (ci := 9) (q0 := 0) rfl rfl) rfl rfl hl.1 rfl (lv_room (Nat.le_of_ble_eq_true rfl)) dL_labelAt_7 ⟨Nat.le_of_ble_eq_true rfl, Nat.le_of_ble_eq_true rfl⟩) hS (fun q _ h => hFc q h) hFc (fun q _ h => hFc q h) (fun E ce q9 u t H locs ht hvm hpx hE hz1 hk1 hS hq9 hv9 hc9 => ?_) (fun r u t H1 locs ht hvm hw hB hz1 hk1 hS => ?_)
  · skip
    obtain ⟨hP, hD⟩ := va_join (wr := [(o0, .inl (cJ, 1, .inr (.inl (fun _ => 0))))]) (w1 := []) hP hD [0, 1, 2] [3] rfl rfl (by decide) (by decide) hk1 hFc (fun k q h => by simp at h) ⟨fun i j p q h => by simp at h, fun k q h => by simp at h⟩
    have hP : va_P (dC, dI) vwCl [(o0, .inl (cJ, 1, .inr (.inl (fun _ => 0))))] _ := hP
    have hD : va_D A [(o0, .inl (cJ, 1, .inr (.inl (fun _ => 0))))] := hD
    rcases hE with ⟨hE9, hq9f⟩ | ⟨hE9, hq9f⟩
    · skip
      subst hE9
      have hf1 := hq9f
      refine vx_catch (name := "java/lang/IllegalArgumentException") hown [] { startPc := 0, endPc := 12, handlerPc := 15, catchType := 13 } [{ startPc := 0, endPc := 12, handlerPc := 19, catchType := 21 }, { startPc := 0, endPc := 12, handlerPc := 23, catchType := 39 }] (by rw [htab]; rfl) (fun z hz => by simp at hz) rfl (by decide) (hts (.classLink RL 13 "java/lang/IllegalArgumentException") (List.mem_cons_of_mem _ (List.mem_append_left _ (List.mem_append_left _ (List.mem_append_left _ (List.mem_append_left _ (List.mem_append_left _ (List.mem_append_left _ (List.mem_append_left _ (List.mem_append_left _ (List.mem_of_getElem? (i := 0) rfl))))))))))) (va_Nw.use rfl (hN.1 _ (List.mem_of_getElem? (i := 50) rfl))) hq9 hv9 hc9 ?_
      refine lv_astore (lv' := [(5, .ref q9), (0, .ref h0), (1, .int p0), (2, .int p1), (3, .int p2), (4, .ref o0)]) hx hb dL_labelAt_15 hl (Nat.le_of_ble_eq_true rfl) rfl (fun ls hl => ?_)
      refine lv_iconst (v := 1) hx hb dL_labelAt_17 (by decide) ?_
      exact ret _ (fun _ => 0) _ _ _ _ _ _ (Or.inl (⟨rfl, hf1⟩)) (hP.sub [0] rfl) (hK.sub [0] rfl) (hD.sub [0] (by decide) rfl) hS (Nat.le_of_ble_eq_true rfl) (Nat.le_of_ble_eq_true rfl) dL_labelAt_18
    · skip
      subst hE9
      have hf2 := hq9f
      refine vx_catch (name := "java/util/NoSuchElementException") hown [{ startPc := 0, endPc := 12, handlerPc := 15, catchType := 13 }] { startPc := 0, endPc := 12, handlerPc := 19, catchType := 21 } [{ startPc := 0, endPc := 12, handlerPc := 23, catchType := 39 }] (by rw [htab]; rfl) (fun z hz => by rw [List.mem_singleton.mp hz]; exact Or.inr ⟨by decide, "java/lang/IllegalArgumentException", hts (.classLink RL 13 "java/lang/IllegalArgumentException") (List.mem_cons_of_mem _ (List.mem_append_left _ (List.mem_append_left _ (List.mem_append_left _ (List.mem_append_left _ (List.mem_append_left _ (List.mem_append_left _ (List.mem_append_left _ (List.mem_append_left _ (List.mem_of_getElem? (i := 0) rfl)))))))))), hX.2.1⟩) rfl (by decide) (hts (.classLink RL 21 "java/util/NoSuchElementException") (List.mem_cons_of_mem _ (List.mem_append_left _ (List.mem_append_left _ (List.mem_append_left _ (List.mem_append_left _ (List.mem_append_left _ (List.mem_append_left _ (List.mem_append_left _ (List.mem_append_left _ (List.mem_of_getElem? (i := 1) rfl))))))))))) (va_Nw.use rfl (hN.1 _ (List.mem_of_getElem? (i := 55) rfl))) hq9 hv9 hc9 ?_
      refine lv_astore (lv' := [(5, .ref q9), (0, .ref h0), (1, .int p0), (2, .int p1), (3, .int p2), (4, .ref o0)]) hx hb dL_labelAt_19 hl (Nat.le_of_ble_eq_true rfl) rfl (fun ls hl => ?_)
      refine lv_iconst (v := 2) hx hb dL_labelAt_21 (by decide) ?_
      exact ret _ (fun _ => 0) _ _ _ _ _ _ (Or.inr (⟨rfl, hf2⟩)) (hP.sub [0] rfl) (hK.sub [0] rfl) (hD.sub [0] (by decide) rfl) hS (Nat.le_of_ble_eq_true rfl) (Nat.le_of_ble_eq_true rfl) dL_labelAt_22
  · skip
    exact hw.elim

set_option maxHeartbeats 4000000 in
set_option maxRecDepth 100000 in
/-- the law: netsLike on a fresh object -/
theorem kL_netsLike (l : Launch) (hfl : l.stackTraces = false) (dC : Nat → ClassId) (dI : Nat → Nat → Nat) (h0 w d co un ma tm : Nat) (wL wP wS dL dP dS : Nat) (o0 : Nat) (cJ : ClassId) (p0 p1 p2 : Int32) (sz : Nat) : gHi l yL_netsLike wsL_netsLike ({ frames := 9, cells := 3, slots := 18, locals := 147 } : Room) dC dI [.ref h0, .int p0, .int p1, .int p2, .ref o0] [(h0, .inr (9, [.ref w, .ref d, .ref co, .ref un, .ref ma, .ref tm, .int 0, .int 0, .int 0])), (w, .inr (3, [.int 0, .int 0, .ref wL, .ref wP, .ref wS])), (d, .inr (3, [.int 0, .int 0, .ref dL, .ref dP, .ref dS])), (o0, .inl (cJ, 1, .inr (.inl (fun _ => 0))))] [(cJ, .long)] sz (fun (r : Int32) (u : Nat → Int64) => r = 1 ∧ ((¬ ((p0 = 0) ∨ (p0 = 1))) ∨ (¬ ((p2 = 0) ∨ (p2 = 1)))) ∨ r = 2 ∧ (¬ ((¬ ((p0 = 0) ∨ (p0 = 1))) ∨ (¬ ((p2 = 0) ∨ (p2 = 1)))))) (fun u => [(o0, .inl (cJ, 1, .inr (.inl u)))]) (fun u => [(cJ, .long)]) := by
  refine oH_i (y := yL_netsLike) (cc := cL_netsLike) (maxL := 6) (by decide) rfl (Nat.le_of_ble_eq_true rfl) ?_
  intro p e s m args below meth c ls A Q hx hb hr hml hown hts hN hZ hA hin hlk hP hK hD hl hX htab ret
  have hS : va_S A s.heap s.heap [] := va_S.rf
  have hl : lv_has ls 6 [(0, .ref h0), (1, .int p0), (2, .int p1), (3, .int p2), (4, .ref o0)] := hl
  have hP : va_P (dC, dI) vwCl [(h0, .inr (9, [.ref w, .ref d, .ref co, .ref un, .ref ma, .ref tm, .int 0, .int 0, .int 0])), (w, .inr (3, [.int 0, .int 0, .ref wL, .ref wP, .ref wS])), (d, .inr (3, [.int 0, .int 0, .ref dL, .ref dP, .ref dS])), (o0, .inl (cJ, 1, .inr (.inl (fun _ => 0))))] _ := hP
  have hD : va_D A [(h0, .inr (9, [.ref w, .ref d, .ref co, .ref un, .ref ma, .ref tm, .int 0, .int 0, .int 0])), (w, .inr (3, [.int 0, .int 0, .ref wL, .ref wP, .ref wS])), (d, .inr (3, [.int 0, .int 0, .ref dL, .ref dP, .ref dS])), (o0, .inl (cJ, 1, .inr (.inl (fun _ => 0))))] := hD
  refine lv_aload hx hb dL_netsLike_0 (lv_at hl 4 rfl) ?_
  refine lv_iconst (v := 0) hx hb dL_netsLike_2 (by decide) ?_
  refine lv_aload_n hx hb dL_netsLike_3 rfl (lv_at hl 0 rfl) ?_
  refine lv_iload_n hx hb dL_netsLike_4 rfl (lv_at hl 1 rfl) ?_
  refine lv_iload_n hx hb dL_netsLike_5 rfl (lv_at hl 2 rfl) ?_
  refine lv_iload_n hx hb dL_netsLike_6 rfl (lv_at hl 3 rfl) ?_
  have hPc := hP.sub (ws' := [(h0, .inr (9, [.ref w, .ref d, .ref co, .ref un, .ref ma, .ref tm, .int 0, .int 0, .int 0])), (w, .inr (3, [.int 0, .int 0, .ref wL, .ref wP, .ref wS])), (d, .inr (3, [.int 0, .int 0, .ref dL, .ref dP, .ref dS]))]) [0, 1, 2] rfl
  have hDc := hD.sub (ws' := [(h0, .inr (9, [.ref w, .ref d, .ref co, .ref un, .ref ma, .ref tm, .int 0, .int 0, .int 0])), (w, .inr (3, [.int 0, .int 0, .ref wL, .ref wP, .ref wS])), (d, .inr (3, [.int 0, .int 0, .ref dL, .ref dP, .ref dS]))]) [0, 1, 2] (by decide) rfl
  have hKc := hK.sub (tys' := []) [] rfl
  have hFc := va_free (wc := [(h0, .inr (9, [.ref w, .ref d, .ref co, .ref un, .ref ma, .ref tm, .int 0, .int 0, .int 0])), (w, .inr (3, [.int 0, .int 0, .ref wL, .ref wP, .ref wS])), (d, .inr (3, [.int 0, .int 0, .ref dL, .ref dP, .ref dS]))]) hD hS hA [0, 1, 2] rfl
  refine vx_calli (vx_runV (As := [.int p0, .int p1, .int p2]) (rest := [.int 0, .ref o0]) ⟨hx, hb, hml, hown, hts⟩ (kX6_netsLike l hfl dC dI h0 w d co un ma tm wL wP wS dL dP dS p0 p1 p2 s.heap.size) (cwV 3 hts gL_netsLike_X6_netsLike rfl rfl rfl (by decide +kernel) ⟨Nat.le_of_ble_eq_true rfl, Nat.le_of_ble_eq_true rfl⟩) (fPreV hN hZ hS (fun q h => hFc q h) hPc hKc hDc (ci := 9) (q0 := 0) rfl rfl) rfl rfl hl.1 rfl (lv_room (Nat.le_of_ble_eq_true rfl)) dL_netsLike_7 ⟨Nat.le_of_ble_eq_true rfl, Nat.le_of_ble_eq_true rfl⟩) hS (fun q _ h => hFc q h) hFc (fun q _ h => hFc q h) (fun E ce q9 u t H locs ht hvm hpx hE hz1 hk1 hS hq9 hv9 hc9 => ?_) (fun r u t H1 locs ht hvm hw hB hz1 hk1 hS => ?_)
  · skip
    obtain ⟨hP, hD⟩ := va_join (wr := [(o0, .inl (cJ, 1, .inr (.inl (fun _ => 0))))]) (w1 := []) hP hD [0, 1, 2] [3] rfl rfl (by decide) (by decide) hk1 hFc (fun k q h => by simp at h) ⟨fun i j p q h => by simp at h, fun k q h => by simp at h⟩
    have hP : va_P (dC, dI) vwCl [(o0, .inl (cJ, 1, .inr (.inl (fun _ => 0))))] _ := hP
    have hD : va_D A [(o0, .inl (cJ, 1, .inr (.inl (fun _ => 0))))] := hD
    rcases hE with ⟨hE9, hq9f⟩ | ⟨hE9, hq9f⟩
    · skip
      subst hE9
      have hf1 := hq9f
      refine vx_catch (name := "java/lang/IllegalArgumentException") hown [] { startPc := 0, endPc := 12, handlerPc := 15, catchType := 13 } [{ startPc := 0, endPc := 12, handlerPc := 19, catchType := 21 }] (by rw [htab]; rfl) (fun z hz => by simp at hz) rfl (by decide) (hts (.classLink RL 13 "java/lang/IllegalArgumentException") (List.mem_cons_of_mem _ (List.mem_append_left _ (List.mem_append_left _ (List.mem_append_left _ (List.mem_append_left _ (List.mem_append_left _ (List.mem_append_left _ (List.mem_append_left _ (List.mem_append_left _ (List.mem_append_left _ (List.mem_append_left _ (List.mem_of_getElem? (i := 0) rfl))))))))))))) (va_Nw.use rfl (hN.1 _ (List.mem_of_getElem? (i := 50) rfl))) hq9 hv9 hc9 ?_
      refine lv_astore (lv' := [(5, .ref q9), (0, .ref h0), (1, .int p0), (2, .int p1), (3, .int p2), (4, .ref o0)]) hx hb dL_netsLike_15 hl (Nat.le_of_ble_eq_true rfl) rfl (fun ls hl => ?_)
      refine lv_iconst (v := 1) hx hb dL_netsLike_17 (by decide) ?_
      exact ret _ (fun _ => 0) _ _ _ _ _ _ (Or.inl (⟨rfl, hf1⟩)) (hP.sub [0] rfl) (hK.sub [0] rfl) (hD.sub [0] (by decide) rfl) hS (Nat.le_of_ble_eq_true rfl) (Nat.le_of_ble_eq_true rfl) dL_netsLike_18
    · skip
      subst hE9
      have hf2 := hq9f
      refine vx_catch (name := "java/util/NoSuchElementException") hown [{ startPc := 0, endPc := 12, handlerPc := 15, catchType := 13 }] { startPc := 0, endPc := 12, handlerPc := 19, catchType := 21 } [] (by rw [htab]; rfl) (fun z hz => by rw [List.mem_singleton.mp hz]; exact Or.inr ⟨by decide, "java/lang/IllegalArgumentException", hts (.classLink RL 13 "java/lang/IllegalArgumentException") (List.mem_cons_of_mem _ (List.mem_append_left _ (List.mem_append_left _ (List.mem_append_left _ (List.mem_append_left _ (List.mem_append_left _ (List.mem_append_left _ (List.mem_append_left _ (List.mem_append_left _ (List.mem_append_left _ (List.mem_append_left _ (List.mem_of_getElem? (i := 0) rfl)))))))))))), hX.2.1⟩) rfl (by decide) (hts (.classLink RL 21 "java/util/NoSuchElementException") (List.mem_cons_of_mem _ (List.mem_append_left _ (List.mem_append_left _ (List.mem_append_left _ (List.mem_append_left _ (List.mem_append_left _ (List.mem_append_left _ (List.mem_append_left _ (List.mem_append_left _ (List.mem_append_left _ (List.mem_append_left _ (List.mem_of_getElem? (i := 1) rfl))))))))))))) (va_Nw.use rfl (hN.1 _ (List.mem_of_getElem? (i := 55) rfl))) hq9 hv9 hc9 ?_
      refine lv_astore (lv' := [(5, .ref q9), (0, .ref h0), (1, .int p0), (2, .int p1), (3, .int p2), (4, .ref o0)]) hx hb dL_netsLike_19 hl (Nat.le_of_ble_eq_true rfl) rfl (fun ls hl => ?_)
      refine lv_iconst (v := 2) hx hb dL_netsLike_21 (by decide) ?_
      exact ret _ (fun _ => 0) _ _ _ _ _ _ (Or.inr (⟨rfl, hf2⟩)) (hP.sub [0] rfl) (hK.sub [0] rfl) (hD.sub [0] (by decide) rfl) hS (Nat.le_of_ble_eq_true rfl) (Nat.le_of_ble_eq_true rfl) dL_netsLike_22
  · skip
    exact hw.elim

set_option maxHeartbeats 4000000 in
set_option maxRecDepth 100000 in
/-- the law: partsLike on a fresh object -/
theorem kL_partsLike (l : Launch) (hfl : l.stackTraces = false) (dC : Nat → ClassId) (dI : Nat → Nat → Nat) (h0 w d co un ma tm : Nat) (wL wP wS dL dP dS : Nat) (o0 : Nat) (cJ : ClassId) (p0 p1 p2 : Int32) (sz : Nat) : gHi l yL_partsLike wsL_partsLike ({ frames := 9, cells := 3, slots := 18, locals := 147 } : Room) dC dI [.ref h0, .int p0, .int p1, .int p2, .ref o0] [(h0, .inr (9, [.ref w, .ref d, .ref co, .ref un, .ref ma, .ref tm, .int 0, .int 0, .int 0])), (w, .inr (3, [.int 0, .int 0, .ref wL, .ref wP, .ref wS])), (d, .inr (3, [.int 0, .int 0, .ref dL, .ref dP, .ref dS])), (o0, .inl (cJ, 1, .inr (.inl (fun _ => 0))))] [(cJ, .long)] sz (fun (r : Int32) (u : Nat → Int64) => r = 1 ∧ ((¬ ((p0 = 0) ∨ (p0 = 1))) ∨ (¬ ((p2 = 0) ∨ (p2 = 1)))) ∨ r = 2 ∧ (¬ ((¬ ((p0 = 0) ∨ (p0 = 1))) ∨ (¬ ((p2 = 0) ∨ (p2 = 1)))))) (fun u => [(o0, .inl (cJ, 1, .inr (.inl u)))]) (fun u => [(cJ, .long)]) := by
  refine oH_i (y := yL_partsLike) (cc := cL_partsLike) (maxL := 6) (by decide) rfl (Nat.le_of_ble_eq_true rfl) ?_
  intro p e s m args below meth c ls A Q hx hb hr hml hown hts hN hZ hA hin hlk hP hK hD hl hX htab ret
  have hS : va_S A s.heap s.heap [] := va_S.rf
  have hl : lv_has ls 6 [(0, .ref h0), (1, .int p0), (2, .int p1), (3, .int p2), (4, .ref o0)] := hl
  have hP : va_P (dC, dI) vwCl [(h0, .inr (9, [.ref w, .ref d, .ref co, .ref un, .ref ma, .ref tm, .int 0, .int 0, .int 0])), (w, .inr (3, [.int 0, .int 0, .ref wL, .ref wP, .ref wS])), (d, .inr (3, [.int 0, .int 0, .ref dL, .ref dP, .ref dS])), (o0, .inl (cJ, 1, .inr (.inl (fun _ => 0))))] _ := hP
  have hD : va_D A [(h0, .inr (9, [.ref w, .ref d, .ref co, .ref un, .ref ma, .ref tm, .int 0, .int 0, .int 0])), (w, .inr (3, [.int 0, .int 0, .ref wL, .ref wP, .ref wS])), (d, .inr (3, [.int 0, .int 0, .ref dL, .ref dP, .ref dS])), (o0, .inl (cJ, 1, .inr (.inl (fun _ => 0))))] := hD
  refine lv_aload hx hb dL_partsLike_0 (lv_at hl 4 rfl) ?_
  refine lv_iconst (v := 0) hx hb dL_partsLike_2 (by decide) ?_
  refine lv_aload_n hx hb dL_partsLike_3 rfl (lv_at hl 0 rfl) ?_
  refine lv_iload_n hx hb dL_partsLike_4 rfl (lv_at hl 1 rfl) ?_
  refine lv_iload_n hx hb dL_partsLike_5 rfl (lv_at hl 2 rfl) ?_
  refine lv_iload_n hx hb dL_partsLike_6 rfl (lv_at hl 3 rfl) ?_
  have hPc := hP.sub (ws' := [(h0, .inr (9, [.ref w, .ref d, .ref co, .ref un, .ref ma, .ref tm, .int 0, .int 0, .int 0])), (w, .inr (3, [.int 0, .int 0, .ref wL, .ref wP, .ref wS])), (d, .inr (3, [.int 0, .int 0, .ref dL, .ref dP, .ref dS]))]) [0, 1, 2] rfl
  have hDc := hD.sub (ws' := [(h0, .inr (9, [.ref w, .ref d, .ref co, .ref un, .ref ma, .ref tm, .int 0, .int 0, .int 0])), (w, .inr (3, [.int 0, .int 0, .ref wL, .ref wP, .ref wS])), (d, .inr (3, [.int 0, .int 0, .ref dL, .ref dP, .ref dS]))]) [0, 1, 2] (by decide) rfl
  have hKc := hK.sub (tys' := []) [] rfl
  have hFc := va_free (wc := [(h0, .inr (9, [.ref w, .ref d, .ref co, .ref un, .ref ma, .ref tm, .int 0, .int 0, .int 0])), (w, .inr (3, [.int 0, .int 0, .ref wL, .ref wP, .ref wS])), (d, .inr (3, [.int 0, .int 0, .ref dL, .ref dP, .ref dS]))]) hD hS hA [0, 1, 2] rfl
  refine vx_calli (vx_runV (As := [.int p0, .int p1, .int p2]) (rest := [.int 0, .ref o0]) ⟨hx, hb, hml, hown, hts⟩ (kX6_partsLike l hfl dC dI h0 w d co un ma tm wL wP wS dL dP dS p0 p1 p2 s.heap.size) (cwV 3 hts gL_partsLike_X6_partsLike rfl rfl rfl (by decide +kernel) ⟨Nat.le_of_ble_eq_true rfl, Nat.le_of_ble_eq_true rfl⟩) (fPreV hN hZ hS (fun q h => hFc q h) hPc hKc hDc (ci := 9) (q0 := 0) rfl rfl) rfl rfl hl.1 rfl (lv_room (Nat.le_of_ble_eq_true rfl)) dL_partsLike_7 ⟨Nat.le_of_ble_eq_true rfl, Nat.le_of_ble_eq_true rfl⟩) hS (fun q _ h => hFc q h) hFc (fun q _ h => hFc q h) (fun E ce q9 u t H locs ht hvm hpx hE hz1 hk1 hS hq9 hv9 hc9 => ?_) (fun r u t H1 locs ht hvm hw hB hz1 hk1 hS => ?_)
  · skip
    obtain ⟨hP, hD⟩ := va_join (wr := [(o0, .inl (cJ, 1, .inr (.inl (fun _ => 0))))]) (w1 := []) hP hD [0, 1, 2] [3] rfl rfl (by decide) (by decide) hk1 hFc (fun k q h => by simp at h) ⟨fun i j p q h => by simp at h, fun k q h => by simp at h⟩
    have hP : va_P (dC, dI) vwCl [(o0, .inl (cJ, 1, .inr (.inl (fun _ => 0))))] _ := hP
    have hD : va_D A [(o0, .inl (cJ, 1, .inr (.inl (fun _ => 0))))] := hD
    rcases hE with ⟨hE9, hq9f⟩ | ⟨hE9, hq9f⟩
    · skip
      subst hE9
      have hf1 := hq9f
      refine vx_catch (name := "java/lang/IllegalArgumentException") hown [] { startPc := 0, endPc := 12, handlerPc := 15, catchType := 13 } [{ startPc := 0, endPc := 12, handlerPc := 19, catchType := 21 }] (by rw [htab]; rfl) (fun z hz => by simp at hz) rfl (by decide) (hts (.classLink RL 13 "java/lang/IllegalArgumentException") (List.mem_cons_of_mem _ (List.mem_append_left _ (List.mem_append_left _ (List.mem_append_left _ (List.mem_append_left _ (List.mem_append_left _ (List.mem_append_left _ (List.mem_append_left _ (List.mem_append_left _ (List.mem_append_left _ (List.mem_append_left _ (List.mem_of_getElem? (i := 0) rfl))))))))))))) (va_Nw.use rfl (hN.1 _ (List.mem_of_getElem? (i := 50) rfl))) hq9 hv9 hc9 ?_
      refine lv_astore (lv' := [(5, .ref q9), (0, .ref h0), (1, .int p0), (2, .int p1), (3, .int p2), (4, .ref o0)]) hx hb dL_partsLike_15 hl (Nat.le_of_ble_eq_true rfl) rfl (fun ls hl => ?_)
      refine lv_iconst (v := 1) hx hb dL_partsLike_17 (by decide) ?_
      exact ret _ (fun _ => 0) _ _ _ _ _ _ (Or.inl (⟨rfl, hf1⟩)) (hP.sub [0] rfl) (hK.sub [0] rfl) (hD.sub [0] (by decide) rfl) hS (Nat.le_of_ble_eq_true rfl) (Nat.le_of_ble_eq_true rfl) dL_partsLike_18
    · skip
      subst hE9
      have hf2 := hq9f
      refine vx_catch (name := "java/util/NoSuchElementException") hown [{ startPc := 0, endPc := 12, handlerPc := 15, catchType := 13 }] { startPc := 0, endPc := 12, handlerPc := 19, catchType := 21 } [] (by rw [htab]; rfl) (fun z hz => by rw [List.mem_singleton.mp hz]; exact Or.inr ⟨by decide, "java/lang/IllegalArgumentException", hts (.classLink RL 13 "java/lang/IllegalArgumentException") (List.mem_cons_of_mem _ (List.mem_append_left _ (List.mem_append_left _ (List.mem_append_left _ (List.mem_append_left _ (List.mem_append_left _ (List.mem_append_left _ (List.mem_append_left _ (List.mem_append_left _ (List.mem_append_left _ (List.mem_append_left _ (List.mem_of_getElem? (i := 0) rfl)))))))))))), hX.2.1⟩) rfl (by decide) (hts (.classLink RL 21 "java/util/NoSuchElementException") (List.mem_cons_of_mem _ (List.mem_append_left _ (List.mem_append_left _ (List.mem_append_left _ (List.mem_append_left _ (List.mem_append_left _ (List.mem_append_left _ (List.mem_append_left _ (List.mem_append_left _ (List.mem_append_left _ (List.mem_append_left _ (List.mem_of_getElem? (i := 1) rfl))))))))))))) (va_Nw.use rfl (hN.1 _ (List.mem_of_getElem? (i := 55) rfl))) hq9 hv9 hc9 ?_
      refine lv_astore (lv' := [(5, .ref q9), (0, .ref h0), (1, .int p0), (2, .int p1), (3, .int p2), (4, .ref o0)]) hx hb dL_partsLike_19 hl (Nat.le_of_ble_eq_true rfl) rfl (fun ls hl => ?_)
      refine lv_iconst (v := 2) hx hb dL_partsLike_21 (by decide) ?_
      exact ret _ (fun _ => 0) _ _ _ _ _ _ (Or.inr (⟨rfl, hf2⟩)) (hP.sub [0] rfl) (hK.sub [0] rfl) (hD.sub [0] (by decide) rfl) hS (Nat.le_of_ble_eq_true rfl) (Nat.le_of_ble_eq_true rfl) dL_partsLike_22
  · skip
    exact hw.elim

set_option maxHeartbeats 4000000 in
set_option maxRecDepth 100000 in
/-- the law: areAlike on a fresh object -/
theorem kL_areAlike (l : Launch) (hfl : l.stackTraces = false) (dC : Nat → ClassId) (dI : Nat → Nat → Nat) (h0 w d co un ma tm : Nat) (wL wP wS dL dP dS : Nat) (o0 : Nat) (cJ : ClassId) (p0 p1 : Int32) (sz : Nat) : gHi l yL_areAlike wsL_areAlike ({ frames := 8, cells := 1, slots := 6, locals := 125 } : Room) dC dI [.ref h0, .int p0, .int p1, .ref o0] [(h0, .inr (9, [.ref w, .ref d, .ref co, .ref un, .ref ma, .ref tm, .int 0, .int 0, .int 0])), (w, .inr (3, [.int 0, .int 0, .ref wL, .ref wP, .ref wS])), (d, .inr (3, [.int 0, .int 0, .ref dL, .ref dP, .ref dS])), (o0, .inl (cJ, 1, .inr (.inl (fun _ => 0))))] [(cJ, .long)] sz (fun (r : Int32) (u : Nat → Int64) => r = 1) (fun u => [(o0, .inl (cJ, 1, .inr (.inl u)))]) (fun u => [(cJ, .long)]) := by
  refine oH_i (y := yL_areAlike) (cc := cL_areAlike) (maxL := 5) (by decide) rfl (Nat.le_of_ble_eq_true rfl) ?_
  intro p e s m args below meth c ls A Q hx hb hr hml hown hts hN hZ hA hin hlk hP hK hD hl hX htab ret
  have hS : va_S A s.heap s.heap [] := va_S.rf
  have hl : lv_has ls 5 [(0, .ref h0), (1, .int p0), (2, .int p1), (3, .ref o0)] := hl
  have hP : va_P (dC, dI) vwCl [(h0, .inr (9, [.ref w, .ref d, .ref co, .ref un, .ref ma, .ref tm, .int 0, .int 0, .int 0])), (w, .inr (3, [.int 0, .int 0, .ref wL, .ref wP, .ref wS])), (d, .inr (3, [.int 0, .int 0, .ref dL, .ref dP, .ref dS])), (o0, .inl (cJ, 1, .inr (.inl (fun _ => 0))))] _ := hP
  have hD : va_D A [(h0, .inr (9, [.ref w, .ref d, .ref co, .ref un, .ref ma, .ref tm, .int 0, .int 0, .int 0])), (w, .inr (3, [.int 0, .int 0, .ref wL, .ref wP, .ref wS])), (d, .inr (3, [.int 0, .int 0, .ref dL, .ref dP, .ref dS])), (o0, .inl (cJ, 1, .inr (.inl (fun _ => 0))))] := hD
  refine lv_aload_n hx hb dL_areAlike_0 rfl (lv_at hl 3 rfl) ?_
  refine lv_iconst (v := 0) hx hb dL_areAlike_1 (by decide) ?_
  refine lv_aload_n hx hb dL_areAlike_2 rfl (lv_at hl 0 rfl) ?_
  refine lv_iload_n hx hb dL_areAlike_3 rfl (lv_at hl 1 rfl) ?_
  refine lv_iload_n hx hb dL_areAlike_4 rfl (lv_at hl 2 rfl) ?_
  have hPc := hP.sub (ws' := [(h0, .inr (9, [.ref w, .ref d, .ref co, .ref un, .ref ma, .ref tm, .int 0, .int 0, .int 0])), (w, .inr (3, [.int 0, .int 0, .ref wL, .ref wP, .ref wS])), (d, .inr (3, [.int 0, .int 0, .ref dL, .ref dP, .ref dS]))]) [0, 1, 2] rfl
  have hDc := hD.sub (ws' := [(h0, .inr (9, [.ref w, .ref d, .ref co, .ref un, .ref ma, .ref tm, .int 0, .int 0, .int 0])), (w, .inr (3, [.int 0, .int 0, .ref wL, .ref wP, .ref wS])), (d, .inr (3, [.int 0, .int 0, .ref dL, .ref dP, .ref dS]))]) [0, 1, 2] (by decide) rfl
  have hKc := hK.sub (tys' := []) [] rfl
  have hFc := va_free (wc := [(h0, .inr (9, [.ref w, .ref d, .ref co, .ref un, .ref ma, .ref tm, .int 0, .int 0, .int 0])), (w, .inr (3, [.int 0, .int 0, .ref wL, .ref wP, .ref wS])), (d, .inr (3, [.int 0, .int 0, .ref dL, .ref dP, .ref dS]))]) hD hS hA [0, 1, 2] rfl
  refine vx_calli (vx_runV (As := [.int p0, .int p1]) (rest := [.int 0, .ref o0]) ⟨hx, hb, hml, hown, hts⟩ (kX6_areAlike l hfl dC dI h0 w d co un ma tm wL wP wS dL dP dS p0 p1 s.heap.size) (cwV 2 hts gL_areAlike_X6_areAlike rfl rfl rfl (by decide +kernel) ⟨Nat.le_of_ble_eq_true rfl, Nat.le_of_ble_eq_true rfl⟩) (fPreV hN hZ hS (fun q h => hFc q h) hPc hKc hDc (ci := 9) (q0 := 0) rfl rfl) rfl rfl hl.1 rfl (lv_room (Nat.le_of_ble_eq_true rfl)) dL_areAlike_5 ⟨Nat.le_of_ble_eq_true rfl, Nat.le_of_ble_eq_true rfl⟩) hS (fun q _ h => hFc q h) hFc (fun q _ h => hFc q h) (fun E ce q9 u t H locs ht hvm hpx hE hz1 hk1 hS hq9 hv9 hc9 => ?_) (fun r u t H1 locs ht hvm hw hB hz1 hk1 hS => ?_)
  · skip
    obtain ⟨hP, hD⟩ := va_join (wr := [(o0, .inl (cJ, 1, .inr (.inl (fun _ => 0))))]) (w1 := []) hP hD [0, 1, 2] [3] rfl rfl (by decide) (by decide) hk1 hFc (fun k q h => by simp at h) ⟨fun i j p q h => by simp at h, fun k q h => by simp at h⟩
    have hP : va_P (dC, dI) vwCl [(o0, .inl (cJ, 1, .inr (.inl (fun _ => 0))))] _ := hP
    have hD : va_D A [(o0, .inl (cJ, 1, .inr (.inl (fun _ => 0))))] := hD
    have hE9 := hE
    subst hE9
    refine vx_catch (name := "java/util/NoSuchElementException") hown [] { startPc := 0, endPc := 17, handlerPc := 20, catchType := 21 } [] (by rw [htab]; rfl) (fun z hz => by simp at hz) rfl (by decide) (hts (.classLink RL 21 "java/util/NoSuchElementException") (List.mem_cons_of_mem _ (List.mem_append_left _ (List.mem_append_left _ (List.mem_append_left _ (List.mem_append_left _ (List.mem_append_left _ (List.mem_append_left _ (List.mem_append_left _ (List.mem_append_left _ (List.mem_append_left _ (List.mem_of_getElem? (i := 0) rfl)))))))))))) (va_Nw.use rfl (hN.1 _ (List.mem_of_getElem? (i := 55) rfl))) hq9 hv9 hc9 ?_
    refine lv_astore (lv' := [(4, .ref q9), (0, .ref h0), (1, .int p0), (2, .int p1), (3, .ref o0)]) hx hb dL_areAlike_20 hl (Nat.le_of_ble_eq_true rfl) rfl (fun ls hl => ?_)
    refine lv_iconst (v := 1) hx hb dL_areAlike_22 (by decide) ?_
    exact ret _ (fun _ => 0) _ _ _ _ _ _ (rfl) (hP.sub [0] rfl) (hK.sub [0] rfl) (hD.sub [0] (by decide) rfl) hS (Nat.le_of_ble_eq_true rfl) (Nat.le_of_ble_eq_true rfl) dL_areAlike_23
  · skip
    exact hw.elim

set_option maxHeartbeats 4000000 in
set_option maxRecDepth 100000 in
/-- the law: isMatchedByTrying on a fresh object -/
theorem kL_isMatchedByTrying (l : Launch) (hfl : l.stackTraces = false) (dC : Nat → ClassId) (dI : Nat → Nat → Nat) (h0 w d co un ma tm : Nat) (wL wP wS dL dP dS : Nat) (tmI tmO tmP : Nat) (cI : ClassId) (gi go : Nat → Int32) (o0 : Nat) (cJ : ClassId) (sz : Nat) : gHi l yL_isMatchedByTrying wsL_isMatchedByTrying ({ frames := 5, cells := 0, slots := 0, locals := 105 } : Room) dC dI [.ref h0, .ref o0] [(h0, .inr (9, [.ref w, .ref d, .ref co, .ref un, .ref ma, .ref tm, .int 0, .int 0, .int 0])), (w, .inr (3, [.int 0, .int 0, .ref wL, .ref wP, .ref wS])), (d, .inr (3, [.int 0, .int 0, .ref dL, .ref dP, .ref dS])), (tm, .inr (6, [.ref w, .ref d, .ref tmI, .ref tmO, .ref tmP, .int 0])), (tmI, .inl (cI, 10, .inl gi)), (tmO, .inl (cI, 10, .inl go)), (o0, .inl (cJ, 1, .inr (.inl (fun _ => 0))))] [(cI, .int), (cJ, .long)] sz (fun (r : Int32) (u : Nat → Int64) => r = 0 ∧ u 0 = 1) (fun u => [(o0, .inl (cJ, 1, .inr (.inl u)))]) (fun u => [(cJ, .long)]) := by
  refine oH_i (y := yL_isMatchedByTrying) (cc := cL_isMatchedByTrying) (maxL := 3) (by decide) rfl (Nat.le_of_ble_eq_true rfl) ?_
  intro p e s m args below meth c ls A Q hx hb hr hml hown hts hN hZ hA hin hlk hP hK hD hl hX htab ret
  have hS : va_S A s.heap s.heap [] := va_S.rf
  have hl : lv_has ls 3 [(0, .ref h0), (1, .ref o0)] := hl
  have hP : va_P (dC, dI) vwCl [(h0, .inr (9, [.ref w, .ref d, .ref co, .ref un, .ref ma, .ref tm, .int 0, .int 0, .int 0])), (w, .inr (3, [.int 0, .int 0, .ref wL, .ref wP, .ref wS])), (d, .inr (3, [.int 0, .int 0, .ref dL, .ref dP, .ref dS])), (tm, .inr (6, [.ref w, .ref d, .ref tmI, .ref tmO, .ref tmP, .int 0])), (tmI, .inl (cI, 10, .inl gi)), (tmO, .inl (cI, 10, .inl go)), (o0, .inl (cJ, 1, .inr (.inl (fun _ => 0))))] _ := hP
  have hD : va_D A [(h0, .inr (9, [.ref w, .ref d, .ref co, .ref un, .ref ma, .ref tm, .int 0, .int 0, .int 0])), (w, .inr (3, [.int 0, .int 0, .ref wL, .ref wP, .ref wS])), (d, .inr (3, [.int 0, .int 0, .ref dL, .ref dP, .ref dS])), (tm, .inr (6, [.ref w, .ref d, .ref tmI, .ref tmO, .ref tmP, .int 0])), (tmI, .inl (cI, 10, .inl gi)), (tmO, .inl (cI, 10, .inl go)), (o0, .inl (cJ, 1, .inr (.inl (fun _ => 0))))] := hD
  refine lv_aload_n hx hb dL_isMatchedByTrying_0 rfl (lv_at hl 1 rfl) ?_
  refine lv_iconst (v := 0) hx hb dL_isMatchedByTrying_1 (by decide) ?_
  refine lv_aload_n hx hb dL_isMatchedByTrying_2 rfl (lv_at hl 0 rfl) ?_
  have hPc := hP.sub (ws' := [(h0, .inr (9, [.ref w, .ref d, .ref co, .ref un, .ref ma, .ref tm, .int 0, .int 0, .int 0])), (w, .inr (3, [.int 0, .int 0, .ref wL, .ref wP, .ref wS])), (d, .inr (3, [.int 0, .int 0, .ref dL, .ref dP, .ref dS])), (tm, .inr (6, [.ref w, .ref d, .ref tmI, .ref tmO, .ref tmP, .int 0])), (tmI, .inl (cI, 10, .inl gi)), (tmO, .inl (cI, 10, .inl go))]) [0, 1, 2, 3, 4, 5] rfl
  have hDc := hD.sub (ws' := [(h0, .inr (9, [.ref w, .ref d, .ref co, .ref un, .ref ma, .ref tm, .int 0, .int 0, .int 0])), (w, .inr (3, [.int 0, .int 0, .ref wL, .ref wP, .ref wS])), (d, .inr (3, [.int 0, .int 0, .ref dL, .ref dP, .ref dS])), (tm, .inr (6, [.ref w, .ref d, .ref tmI, .ref tmO, .ref tmP, .int 0])), (tmI, .inl (cI, 10, .inl gi)), (tmO, .inl (cI, 10, .inl go))]) [0, 1, 2, 3, 4, 5] (by decide) rfl
  have hKc := hK.sub (tys' := [(cI, .int)]) [0] rfl
  have hFc := va_free (wc := [(h0, .inr (9, [.ref w, .ref d, .ref co, .ref un, .ref ma, .ref tm, .int 0, .int 0, .int 0])), (w, .inr (3, [.int 0, .int 0, .ref wL, .ref wP, .ref wS])), (d, .inr (3, [.int 0, .int 0, .ref dL, .ref dP, .ref dS])), (tm, .inr (6, [.ref w, .ref d, .ref tmI, .ref tmO, .ref tmP, .int 0])), (tmI, .inl (cI, 10, .inl gi)), (tmO, .inl (cI, 10, .inl go))]) hD hS hA [0, 1, 2, 3, 4, 5] rfl
  refine vx_calli (vx_runV (As := []) (rest := [.int 0, .ref o0]) ⟨hx, hb, hml, hown, hts⟩ (kX6_isMatchedByTrying l hfl dC dI h0 w d co un ma tm wL wP wS dL dP dS tmI tmO tmP cI gi go s.heap.size) (cwV 0 hts gL_isMatchedByTrying_X6_isMatchedByTrying rfl rfl rfl (by decide +kernel) ⟨Nat.le_of_ble_eq_true rfl, Nat.le_of_ble_eq_true rfl⟩) (fPreV hN hZ hS (fun q h => hFc q h) hPc hKc hDc (ci := 9) (q0 := 0) rfl rfl) rfl rfl hl.1 rfl (lv_room (Nat.le_of_ble_eq_true rfl)) dL_isMatchedByTrying_3 ⟨Nat.le_of_ble_eq_true rfl, Nat.le_of_ble_eq_true rfl⟩) hS (fun q _ h => hFc q h) hFc (fun q _ h => hFc q h) (fun E ce q9 u t H locs ht hvm hpx hE hz1 hk1 hS hq9 hv9 hc9 => ?_) (fun r u t H1 locs ht hvm hw hB hz1 hk1 hS => ?_)
  · skip
    exact hE.elim
  · skip
    obtain ⟨hP1, hK1, hD1⟩ := hB
    rw [ht] at hP1
    have hK1 := va_K.moved hvm.symm hK1
    obtain ⟨hP, hD⟩ := va_join (wr := [(o0, .inl (cJ, 1, .inr (.inl (fun _ => 0))))]) (w1 := []) hP hD [0, 1, 2, 3, 4, 5] [6] rfl rfl (by decide) (by decide) hk1 hFc hP1 hD1
    generalize H1 = H at hP hS ⊢
    have hP : va_P (dC, dI) vwCl [(o0, .inl (cJ, 1, .inr (.inl (fun _ => 0))))] _ := hP
    have hD : va_D A [(o0, .inl (cJ, 1, .inr (.inl (fun _ => 0))))] := hD
    subst hw
    refine lv_if_eq (tgt := 13) hx hb dL_isMatchedByTrying_6 (by decide) (fun h9 => absurd h9 (by decide)) (fun _ => ?_)
    refine lv_lconst (v := 1) hx hb dL_isMatchedByTrying_9 (by decide) ?_
    refine lv_goto (tgt := 14) hx hb dL_isMatchedByTrying_10 (by decide) ?_
    refine va_last hx hb hK hP hD hS 0 1 rfl rfl (show ¬ (_ ∨ _) by decide) dL_isMatchedByTrying_14 (fun H locs hP hD hS => ?_)
    have hP : va_P (dC, dI) vwCl [(o0, .inl (cJ, 1, .inr (.inl (vp_updL (fun _ => 0) 0 1))))] _ := hP
    have hD : va_D A [(o0, .inl (cJ, 1, .inr (.inl (vp_updL (fun _ => 0) 0 1))))] := hD
    refine lv_goto (tgt := 21) hx hb dL_isMatchedByTrying_15 (by decide) ?_
    refine lv_iconst (v := 0) hx hb dL_isMatchedByTrying_21 (by decide) ?_
    exact ret _ (vp_updL (fun _ => 0) 0 1) _ _ _ _ _ _ (⟨rfl, rfl⟩) (hP.sub [0] rfl) (hK.sub [1] rfl) (hD.sub [0] (by decide) rfl) hS (Nat.le_of_ble_eq_true rfl) (Nat.le_of_ble_eq_true rfl) dL_isMatchedByTrying_22

set_option maxHeartbeats 4000000 in
set_option maxRecDepth 100000 in
/-- the law: matchedNet on a fresh object -/
theorem kL_matchedNet (l : Launch) (hfl : l.stackTraces = false) (dC : Nat → ClassId) (dI : Nat → Nat → Nat) (h0 w d co un ma tm : Nat) (wL wP wS dL dP dS : Nat) (o0 : Nat) (cJ : ClassId) (p0 : Int32) (sz : Nat) : gHi l yL_matchedNet wsL_matchedNet ({ frames := 8, cells := 1, slots := 6, locals := 124 } : Room) dC dI [.ref h0, .int p0, .ref o0] [(h0, .inr (9, [.ref w, .ref d, .ref co, .ref un, .ref ma, .ref tm, .int 0, .int 0, .int 0])), (w, .inr (3, [.int 0, .int 0, .ref wL, .ref wP, .ref wS])), (d, .inr (3, [.int 0, .int 0, .ref dL, .ref dP, .ref dS])), (o0, .inl (cJ, 1, .inr (.inl (fun _ => 0))))] [(cJ, .long)] sz (fun (r : Int32) (u : Nat → Int64) => r = 1) (fun u => [(o0, .inl (cJ, 1, .inr (.inl u)))]) (fun u => [(cJ, .long)]) := by
  refine oH_i (y := yL_matchedNet) (cc := cL_matchedNet) (maxL := 4) (by decide) rfl (Nat.le_of_ble_eq_true rfl) ?_
  intro p e s m args below meth c ls A Q hx hb hr hml hown hts hN hZ hA hin hlk hP hK hD hl hX htab ret
  have hS : va_S A s.heap s.heap [] := va_S.rf
  have hl : lv_has ls 4 [(0, .ref h0), (1, .int p0), (2, .ref o0)] := hl
  have hP : va_P (dC, dI) vwCl [(h0, .inr (9, [.ref w, .ref d, .ref co, .ref un, .ref ma, .ref tm, .int 0, .int 0, .int 0])), (w, .inr (3, [.int 0, .int 0, .ref wL, .ref wP, .ref wS])), (d, .inr (3, [.int 0, .int 0, .ref dL, .ref dP, .ref dS])), (o0, .inl (cJ, 1, .inr (.inl (fun _ => 0))))] _ := hP
  have hD : va_D A [(h0, .inr (9, [.ref w, .ref d, .ref co, .ref un, .ref ma, .ref tm, .int 0, .int 0, .int 0])), (w, .inr (3, [.int 0, .int 0, .ref wL, .ref wP, .ref wS])), (d, .inr (3, [.int 0, .int 0, .ref dL, .ref dP, .ref dS])), (o0, .inl (cJ, 1, .inr (.inl (fun _ => 0))))] := hD
  refine lv_aload_n hx hb dL_matchedNet_0 rfl (lv_at hl 2 rfl) ?_
  refine lv_iconst (v := 0) hx hb dL_matchedNet_1 (by decide) ?_
  refine lv_aload_n hx hb dL_matchedNet_2 rfl (lv_at hl 0 rfl) ?_
  refine lv_iload_n hx hb dL_matchedNet_3 rfl (lv_at hl 1 rfl) ?_
  have hPc := hP.sub (ws' := [(h0, .inr (9, [.ref w, .ref d, .ref co, .ref un, .ref ma, .ref tm, .int 0, .int 0, .int 0])), (w, .inr (3, [.int 0, .int 0, .ref wL, .ref wP, .ref wS])), (d, .inr (3, [.int 0, .int 0, .ref dL, .ref dP, .ref dS]))]) [0, 1, 2] rfl
  have hDc := hD.sub (ws' := [(h0, .inr (9, [.ref w, .ref d, .ref co, .ref un, .ref ma, .ref tm, .int 0, .int 0, .int 0])), (w, .inr (3, [.int 0, .int 0, .ref wL, .ref wP, .ref wS])), (d, .inr (3, [.int 0, .int 0, .ref dL, .ref dP, .ref dS]))]) [0, 1, 2] (by decide) rfl
  have hKc := hK.sub (tys' := []) [] rfl
  have hFc := va_free (wc := [(h0, .inr (9, [.ref w, .ref d, .ref co, .ref un, .ref ma, .ref tm, .int 0, .int 0, .int 0])), (w, .inr (3, [.int 0, .int 0, .ref wL, .ref wP, .ref wS])), (d, .inr (3, [.int 0, .int 0, .ref dL, .ref dP, .ref dS]))]) hD hS hA [0, 1, 2] rfl
  refine vx_calli (vx_runV (As := [.int p0]) (rest := [.int 0, .ref o0]) ⟨hx, hb, hml, hown, hts⟩ (kX6_matchedNet l hfl dC dI h0 w d co un ma tm wL wP wS dL dP dS p0 s.heap.size) (cwV 1 hts gL_matchedNet_X6_matchedNet rfl rfl rfl (by decide +kernel) ⟨Nat.le_of_ble_eq_true rfl, Nat.le_of_ble_eq_true rfl⟩) (fPreV hN hZ hS (fun q h => hFc q h) hPc hKc hDc (ci := 9) (q0 := 0) rfl rfl) rfl rfl hl.1 rfl (lv_room (Nat.le_of_ble_eq_true rfl)) dL_matchedNet_4 ⟨Nat.le_of_ble_eq_true rfl, Nat.le_of_ble_eq_true rfl⟩) hS (fun q _ h => hFc q h) hFc (fun q _ h => hFc q h) (fun E ce q9 u t H locs ht hvm hpx hE hz1 hk1 hS hq9 hv9 hc9 => ?_) (fun r u t H1 locs ht hvm hw hB hz1 hk1 hS => ?_)
  · skip
    obtain ⟨hP, hD⟩ := va_join (wr := [(o0, .inl (cJ, 1, .inr (.inl (fun _ => 0))))]) (w1 := []) hP hD [0, 1, 2] [3] rfl rfl (by decide) (by decide) hk1 hFc (fun k q h => by simp at h) ⟨fun i j p q h => by simp at h, fun k q h => by simp at h⟩
    have hP : va_P (dC, dI) vwCl [(o0, .inl (cJ, 1, .inr (.inl (fun _ => 0))))] _ := hP
    have hD : va_D A [(o0, .inl (cJ, 1, .inr (.inl (fun _ => 0))))] := hD
    have hE9 := hE
    subst hE9
    refine vx_catch (name := "java/util/NoSuchElementException") hown [] { startPc := 0, endPc := 9, handlerPc := 12, catchType := 21 } [{ startPc := 0, endPc := 9, handlerPc := 15, catchType := 15 }] (by rw [htab]; rfl) (fun z hz => by simp at hz) rfl (by decide) (hts (.classLink RL 21 "java/util/NoSuchElementException") (List.mem_cons_of_mem _ (List.mem_append_left _ (List.mem_append_left _ (List.mem_append_left _ (List.mem_append_left _ (List.mem_append_left _ (List.mem_append_left _ (List.mem_append_left _ (List.mem_append_left _ (List.mem_append_left _ (List.mem_append_left _ (List.mem_append_left _ (List.mem_of_getElem? (i := 0) rfl)))))))))))))) (va_Nw.use rfl (hN.1 _ (List.mem_of_getElem? (i := 55) rfl))) hq9 hv9 hc9 ?_
    refine lv_astore_n (lv' := [(3, .ref q9), (0, .ref h0), (1, .int p0), (2, .ref o0)]) hx hb dL_matchedNet_12 rfl hl (Nat.le_of_ble_eq_true rfl) rfl (fun ls hl => ?_)
    refine lv_iconst (v := 1) hx hb dL_matchedNet_13 (by decide) ?_
    exact ret _ (fun _ => 0) _ _ _ _ _ _ (rfl) (hP.sub [0] rfl) (hK.sub [0] rfl) (hD.sub [0] (by decide) rfl) hS (Nat.le_of_ble_eq_true rfl) (Nat.le_of_ble_eq_true rfl) dL_matchedNet_14
  · skip
    exact hw.elim

set_option maxHeartbeats 4000000 in
set_option maxRecDepth 100000 in
/-- the law: netByTrying on a fresh object -/
theorem kL_netByTrying (l : Launch) (hfl : l.stackTraces = false) (dC : Nat → ClassId) (dI : Nat → Nat → Nat) (h0 w d co un ma tm : Nat) (wL wP wS dL dP dS : Nat) (o0 : Nat) (cJ : ClassId) (p0 : Int32) (sz : Nat) : gHi l yL_netByTrying wsL_netByTrying ({ frames := 8, cells := 1, slots := 6, locals := 124 } : Room) dC dI [.ref h0, .int p0, .ref o0] [(h0, .inr (9, [.ref w, .ref d, .ref co, .ref un, .ref ma, .ref tm, .int 0, .int 0, .int 0])), (w, .inr (3, [.int 0, .int 0, .ref wL, .ref wP, .ref wS])), (d, .inr (3, [.int 0, .int 0, .ref dL, .ref dP, .ref dS])), (o0, .inl (cJ, 1, .inr (.inl (fun _ => 0))))] [(cJ, .long)] sz (fun (r : Int32) (u : Nat → Int64) => r = 1) (fun u => [(o0, .inl (cJ, 1, .inr (.inl u)))]) (fun u => [(cJ, .long)]) := by
  refine oH_i (y := yL_netByTrying) (cc := cL_netByTrying) (maxL := 4) (by decide) rfl (Nat.le_of_ble_eq_true rfl) ?_
  intro p e s m args below meth c ls A Q hx hb hr hml hown hts hN hZ hA hin hlk hP hK hD hl hX htab ret
  have hS : va_S A s.heap s.heap [] := va_S.rf
  have hl : lv_has ls 4 [(0, .ref h0), (1, .int p0), (2, .ref o0)] := hl
  have hP : va_P (dC, dI) vwCl [(h0, .inr (9, [.ref w, .ref d, .ref co, .ref un, .ref ma, .ref tm, .int 0, .int 0, .int 0])), (w, .inr (3, [.int 0, .int 0, .ref wL, .ref wP, .ref wS])), (d, .inr (3, [.int 0, .int 0, .ref dL, .ref dP, .ref dS])), (o0, .inl (cJ, 1, .inr (.inl (fun _ => 0))))] _ := hP
  have hD : va_D A [(h0, .inr (9, [.ref w, .ref d, .ref co, .ref un, .ref ma, .ref tm, .int 0, .int 0, .int 0])), (w, .inr (3, [.int 0, .int 0, .ref wL, .ref wP, .ref wS])), (d, .inr (3, [.int 0, .int 0, .ref dL, .ref dP, .ref dS])), (o0, .inl (cJ, 1, .inr (.inl (fun _ => 0))))] := hD
  refine lv_aload_n hx hb dL_netByTrying_0 rfl (lv_at hl 2 rfl) ?_
  refine lv_iconst (v := 0) hx hb dL_netByTrying_1 (by decide) ?_
  refine lv_aload_n hx hb dL_netByTrying_2 rfl (lv_at hl 0 rfl) ?_
  refine lv_iload_n hx hb dL_netByTrying_3 rfl (lv_at hl 1 rfl) ?_
  have hPc := hP.sub (ws' := [(h0, .inr (9, [.ref w, .ref d, .ref co, .ref un, .ref ma, .ref tm, .int 0, .int 0, .int 0])), (w, .inr (3, [.int 0, .int 0, .ref wL, .ref wP, .ref wS])), (d, .inr (3, [.int 0, .int 0, .ref dL, .ref dP, .ref dS]))]) [0, 1, 2] rfl
  have hDc := hD.sub (ws' := [(h0, .inr (9, [.ref w, .ref d, .ref co, .ref un, .ref ma, .ref tm, .int 0, .int 0, .int 0])), (w, .inr (3, [.int 0, .int 0, .ref wL, .ref wP, .ref wS])), (d, .inr (3, [.int 0, .int 0, .ref dL, .ref dP, .ref dS]))]) [0, 1, 2] (by decide) rfl
  have hKc := hK.sub (tys' := []) [] rfl
  have hFc := va_free (wc := [(h0, .inr (9, [.ref w, .ref d, .ref co, .ref un, .ref ma, .ref tm, .int 0, .int 0, .int 0])), (w, .inr (3, [.int 0, .int 0, .ref wL, .ref wP, .ref wS])), (d, .inr (3, [.int 0, .int 0, .ref dL, .ref dP, .ref dS]))]) hD hS hA [0, 1, 2] rfl
  refine vx_calli (vx_runV (As := [.int p0]) (rest := [.int 0, .ref o0]) ⟨hx, hb, hml, hown, hts⟩ (kX6_netByTrying l hfl dC dI h0 w d co un ma tm wL wP wS dL dP dS p0 s.heap.size) (cwV 1 hts gL_netByTrying_X6_netByTrying rfl rfl rfl (by decide +kernel) ⟨Nat.le_of_ble_eq_true rfl, Nat.le_of_ble_eq_true rfl⟩) (fPreV hN hZ hS (fun q h => hFc q h) hPc hKc hDc (ci := 9) (q0 := 0) rfl rfl) rfl rfl hl.1 rfl (lv_room (Nat.le_of_ble_eq_true rfl)) dL_netByTrying_4 ⟨Nat.le_of_ble_eq_true rfl, Nat.le_of_ble_eq_true rfl⟩) hS (fun q _ h => hFc q h) hFc (fun q _ h => hFc q h) (fun E ce q9 u t H locs ht hvm hpx hE hz1 hk1 hS hq9 hv9 hc9 => ?_) (fun r u t H1 locs ht hvm hw hB hz1 hk1 hS => ?_)
  · skip
    obtain ⟨hP, hD⟩ := va_join (wr := [(o0, .inl (cJ, 1, .inr (.inl (fun _ => 0))))]) (w1 := []) hP hD [0, 1, 2] [3] rfl rfl (by decide) (by decide) hk1 hFc (fun k q h => by simp at h) ⟨fun i j p q h => by simp at h, fun k q h => by simp at h⟩
    have hP : va_P (dC, dI) vwCl [(o0, .inl (cJ, 1, .inr (.inl (fun _ => 0))))] _ := hP
    have hD : va_D A [(o0, .inl (cJ, 1, .inr (.inl (fun _ => 0))))] := hD
    have hE9 := hE
    subst hE9
    refine vx_catch (name := "java/util/NoSuchElementException") hown [] { startPc := 0, endPc := 9, handlerPc := 12, catchType := 21 } [{ startPc := 0, endPc := 9, handlerPc := 15, catchType := 41 }, { startPc := 0, endPc := 9, handlerPc := 18, catchType := 15 }] (by rw [htab]; rfl) (fun z hz => by simp at hz) rfl (by decide) (hts (.classLink RL 21 "java/util/NoSuchElementException") (List.mem_cons_of_mem _ (List.mem_append_left _ (List.mem_append_left _ (List.mem_append_left _ (List.mem_append_left _ (List.mem_append_left _ (List.mem_append_left _ (List.mem_append_left _ (List.mem_append_left _ (List.mem_append_left _ (List.mem_of_getElem? (i := 0) rfl)))))))))))) (va_Nw.use rfl (hN.1 _ (List.mem_of_getElem? (i := 55) rfl))) hq9 hv9 hc9 ?_
    refine lv_astore_n (lv' := [(3, .ref q9), (0, .ref h0), (1, .int p0), (2, .ref o0)]) hx hb dL_netByTrying_12 rfl hl (Nat.le_of_ble_eq_true rfl) rfl (fun ls hl => ?_)
    refine lv_iconst (v := 1) hx hb dL_netByTrying_13 (by decide) ?_
    exact ret _ (fun _ => 0) _ _ _ _ _ _ (rfl) (hP.sub [0] rfl) (hK.sub [0] rfl) (hD.sub [0] (by decide) rfl) hS (Nat.le_of_ble_eq_true rfl) (Nat.le_of_ble_eq_true rfl) dL_netByTrying_14
  · skip
    exact hw.elim

set_option maxHeartbeats 4000000 in
set_option maxRecDepth 100000 in
/-- the law: matchedPart on a fresh object -/
theorem kL_matchedPart (l : Launch) (hfl : l.stackTraces = false) (dC : Nat → ClassId) (dI : Nat → Nat → Nat) (h0 w d co un ma tm : Nat) (wL wP wS dL dP dS : Nat) (o0 : Nat) (cJ : ClassId) (p0 : Int32) (sz : Nat) : gHi l yL_matchedPart wsL_matchedPart ({ frames := 8, cells := 1, slots := 6, locals := 124 } : Room) dC dI [.ref h0, .int p0, .ref o0] [(h0, .inr (9, [.ref w, .ref d, .ref co, .ref un, .ref ma, .ref tm, .int 0, .int 0, .int 0])), (w, .inr (3, [.int 0, .int 0, .ref wL, .ref wP, .ref wS])), (d, .inr (3, [.int 0, .int 0, .ref dL, .ref dP, .ref dS])), (o0, .inl (cJ, 1, .inr (.inl (fun _ => 0))))] [(cJ, .long)] sz (fun (r : Int32) (u : Nat → Int64) => r = 1) (fun u => [(o0, .inl (cJ, 1, .inr (.inl u)))]) (fun u => [(cJ, .long)]) := by
  refine oH_i (y := yL_matchedPart) (cc := cL_matchedPart) (maxL := 4) (by decide) rfl (Nat.le_of_ble_eq_true rfl) ?_
  intro p e s m args below meth c ls A Q hx hb hr hml hown hts hN hZ hA hin hlk hP hK hD hl hX htab ret
  have hS : va_S A s.heap s.heap [] := va_S.rf
  have hl : lv_has ls 4 [(0, .ref h0), (1, .int p0), (2, .ref o0)] := hl
  have hP : va_P (dC, dI) vwCl [(h0, .inr (9, [.ref w, .ref d, .ref co, .ref un, .ref ma, .ref tm, .int 0, .int 0, .int 0])), (w, .inr (3, [.int 0, .int 0, .ref wL, .ref wP, .ref wS])), (d, .inr (3, [.int 0, .int 0, .ref dL, .ref dP, .ref dS])), (o0, .inl (cJ, 1, .inr (.inl (fun _ => 0))))] _ := hP
  have hD : va_D A [(h0, .inr (9, [.ref w, .ref d, .ref co, .ref un, .ref ma, .ref tm, .int 0, .int 0, .int 0])), (w, .inr (3, [.int 0, .int 0, .ref wL, .ref wP, .ref wS])), (d, .inr (3, [.int 0, .int 0, .ref dL, .ref dP, .ref dS])), (o0, .inl (cJ, 1, .inr (.inl (fun _ => 0))))] := hD
  refine lv_aload_n hx hb dL_matchedPart_0 rfl (lv_at hl 2 rfl) ?_
  refine lv_iconst (v := 0) hx hb dL_matchedPart_1 (by decide) ?_
  refine lv_aload_n hx hb dL_matchedPart_2 rfl (lv_at hl 0 rfl) ?_
  refine lv_iload_n hx hb dL_matchedPart_3 rfl (lv_at hl 1 rfl) ?_
  have hPc := hP.sub (ws' := [(h0, .inr (9, [.ref w, .ref d, .ref co, .ref un, .ref ma, .ref tm, .int 0, .int 0, .int 0])), (w, .inr (3, [.int 0, .int 0, .ref wL, .ref wP, .ref wS])), (d, .inr (3, [.int 0, .int 0, .ref dL, .ref dP, .ref dS]))]) [0, 1, 2] rfl
  have hDc := hD.sub (ws' := [(h0, .inr (9, [.ref w, .ref d, .ref co, .ref un, .ref ma, .ref tm, .int 0, .int 0, .int 0])), (w, .inr (3, [.int 0, .int 0, .ref wL, .ref wP, .ref wS])), (d, .inr (3, [.int 0, .int 0, .ref dL, .ref dP, .ref dS]))]) [0, 1, 2] (by decide) rfl
  have hKc := hK.sub (tys' := []) [] rfl
  have hFc := va_free (wc := [(h0, .inr (9, [.ref w, .ref d, .ref co, .ref un, .ref ma, .ref tm, .int 0, .int 0, .int 0])), (w, .inr (3, [.int 0, .int 0, .ref wL, .ref wP, .ref wS])), (d, .inr (3, [.int 0, .int 0, .ref dL, .ref dP, .ref dS]))]) hD hS hA [0, 1, 2] rfl
  refine vx_calli (vx_runV (As := [.int p0]) (rest := [.int 0, .ref o0]) ⟨hx, hb, hml, hown, hts⟩ (kX6_matchedPart l hfl dC dI h0 w d co un ma tm wL wP wS dL dP dS p0 s.heap.size) (cwV 1 hts gL_matchedPart_X6_matchedPart rfl rfl rfl (by decide +kernel) ⟨Nat.le_of_ble_eq_true rfl, Nat.le_of_ble_eq_true rfl⟩) (fPreV hN hZ hS (fun q h => hFc q h) hPc hKc hDc (ci := 9) (q0 := 0) rfl rfl) rfl rfl hl.1 rfl (lv_room (Nat.le_of_ble_eq_true rfl)) dL_matchedPart_4 ⟨Nat.le_of_ble_eq_true rfl, Nat.le_of_ble_eq_true rfl⟩) hS (fun q _ h => hFc q h) hFc (fun q _ h => hFc q h) (fun E ce q9 u t H locs ht hvm hpx hE hz1 hk1 hS hq9 hv9 hc9 => ?_) (fun r u t H1 locs ht hvm hw hB hz1 hk1 hS => ?_)
  · skip
    obtain ⟨hP, hD⟩ := va_join (wr := [(o0, .inl (cJ, 1, .inr (.inl (fun _ => 0))))]) (w1 := []) hP hD [0, 1, 2] [3] rfl rfl (by decide) (by decide) hk1 hFc (fun k q h => by simp at h) ⟨fun i j p q h => by simp at h, fun k q h => by simp at h⟩
    have hP : va_P (dC, dI) vwCl [(o0, .inl (cJ, 1, .inr (.inl (fun _ => 0))))] _ := hP
    have hD : va_D A [(o0, .inl (cJ, 1, .inr (.inl (fun _ => 0))))] := hD
    have hE9 := hE
    subst hE9
    refine vx_catch (name := "java/util/NoSuchElementException") hown [] { startPc := 0, endPc := 9, handlerPc := 12, catchType := 21 } [{ startPc := 0, endPc := 9, handlerPc := 15, catchType := 15 }] (by rw [htab]; rfl) (fun z hz => by simp at hz) rfl (by decide) (hts (.classLink RL 21 "java/util/NoSuchElementException") (List.mem_cons_of_mem _ (List.mem_append_left _ (List.mem_append_left _ (List.mem_append_left _ (List.mem_append_left _ (List.mem_append_left _ (List.mem_append_left _ (List.mem_append_left _ (List.mem_append_left _ (List.mem_append_left _ (List.mem_append_left _ (List.mem_append_left _ (List.mem_of_getElem? (i := 0) rfl)))))))))))))) (va_Nw.use rfl (hN.1 _ (List.mem_of_getElem? (i := 55) rfl))) hq9 hv9 hc9 ?_
    refine lv_astore_n (lv' := [(3, .ref q9), (0, .ref h0), (1, .int p0), (2, .ref o0)]) hx hb dL_matchedPart_12 rfl hl (Nat.le_of_ble_eq_true rfl) rfl (fun ls hl => ?_)
    refine lv_iconst (v := 1) hx hb dL_matchedPart_13 (by decide) ?_
    exact ret _ (fun _ => 0) _ _ _ _ _ _ (rfl) (hP.sub [0] rfl) (hK.sub [0] rfl) (hD.sub [0] (by decide) rfl) hS (Nat.le_of_ble_eq_true rfl) (Nat.le_of_ble_eq_true rfl) dL_matchedPart_14
  · skip
    exact hw.elim

set_option maxHeartbeats 4000000 in
set_option maxRecDepth 100000 in
/-- the law: matchedPin on a fresh object -/
theorem kL_matchedPin (l : Launch) (hfl : l.stackTraces = false) (dC : Nat → ClassId) (dI : Nat → Nat → Nat) (h0 w d co un ma tm : Nat) (wL wP wS dL dP dS : Nat) (o0 : Nat) (cJ : ClassId) (p0 p1 : Int32) (sz : Nat) : gHi l yL_matchedPin wsL_matchedPin ({ frames := 8, cells := 1, slots := 6, locals := 125 } : Room) dC dI [.ref h0, .int p0, .int p1, .ref o0] [(h0, .inr (9, [.ref w, .ref d, .ref co, .ref un, .ref ma, .ref tm, .int 0, .int 0, .int 0])), (w, .inr (3, [.int 0, .int 0, .ref wL, .ref wP, .ref wS])), (d, .inr (3, [.int 0, .int 0, .ref dL, .ref dP, .ref dS])), (o0, .inl (cJ, 1, .inr (.inl (fun _ => 0))))] [(cJ, .long)] sz (fun (r : Int32) (u : Nat → Int64) => r = 1) (fun u => [(o0, .inl (cJ, 1, .inr (.inl u)))]) (fun u => [(cJ, .long)]) := by
  refine oH_i (y := yL_matchedPin) (cc := cL_matchedPin) (maxL := 5) (by decide) rfl (Nat.le_of_ble_eq_true rfl) ?_
  intro p e s m args below meth c ls A Q hx hb hr hml hown hts hN hZ hA hin hlk hP hK hD hl hX htab ret
  have hS : va_S A s.heap s.heap [] := va_S.rf
  have hl : lv_has ls 5 [(0, .ref h0), (1, .int p0), (2, .int p1), (3, .ref o0)] := hl
  have hP : va_P (dC, dI) vwCl [(h0, .inr (9, [.ref w, .ref d, .ref co, .ref un, .ref ma, .ref tm, .int 0, .int 0, .int 0])), (w, .inr (3, [.int 0, .int 0, .ref wL, .ref wP, .ref wS])), (d, .inr (3, [.int 0, .int 0, .ref dL, .ref dP, .ref dS])), (o0, .inl (cJ, 1, .inr (.inl (fun _ => 0))))] _ := hP
  have hD : va_D A [(h0, .inr (9, [.ref w, .ref d, .ref co, .ref un, .ref ma, .ref tm, .int 0, .int 0, .int 0])), (w, .inr (3, [.int 0, .int 0, .ref wL, .ref wP, .ref wS])), (d, .inr (3, [.int 0, .int 0, .ref dL, .ref dP, .ref dS])), (o0, .inl (cJ, 1, .inr (.inl (fun _ => 0))))] := hD
  refine lv_aload_n hx hb dL_matchedPin_0 rfl (lv_at hl 3 rfl) ?_
  refine lv_iconst (v := 0) hx hb dL_matchedPin_1 (by decide) ?_
  refine lv_aload_n hx hb dL_matchedPin_2 rfl (lv_at hl 0 rfl) ?_
  refine lv_iload_n hx hb dL_matchedPin_3 rfl (lv_at hl 1 rfl) ?_
  refine lv_iload_n hx hb dL_matchedPin_4 rfl (lv_at hl 2 rfl) ?_
  have hPc := hP.sub (ws' := [(h0, .inr (9, [.ref w, .ref d, .ref co, .ref un, .ref ma, .ref tm, .int 0, .int 0, .int 0])), (w, .inr (3, [.int 0, .int 0, .ref wL, .ref wP, .ref wS])), (d, .inr (3, [.int 0, .int 0, .ref dL, .ref dP, .ref dS]))]) [0, 1, 2] rfl
  have hDc := hD.sub (ws' := [(h0, .inr (9, [.ref w, .ref d, .ref co, .ref un, .ref ma, .ref tm, .int 0, .int 0, .int 0])), (w, .inr (3, [.int 0, .int 0, .ref wL, .ref wP, .ref wS])), (d, .inr (3, [.int 0, .int 0, .ref dL, .ref dP, .ref dS]))]) [0, 1, 2] (by decide) rfl
  have hKc := hK.sub (tys' := []) [] rfl
  have hFc := va_free (wc := [(h0, .inr (9, [.ref w, .ref d, .ref co, .ref un, .ref ma, .ref tm, .int 0, .int 0, .int 0])), (w, .inr (3, [.int 0, .int 0, .ref wL, .ref wP, .ref wS])), (d, .inr (3, [.int 0, .int 0, .ref dL, .ref dP, .ref dS]))]) hD hS hA [0, 1, 2] rfl
  refine vx_calli (vx_runV (As := [.int p0, .int p1]) (rest := [.int 0, .ref o0]) ⟨hx, hb, hml, hown, hts⟩ (kX6_matchedPin l hfl dC dI h0 w d co un ma tm wL wP wS dL dP dS p0 p1 s.heap.size) (cwV 2 hts gL_matchedPin_X6_matchedPin rfl rfl rfl (by decide +kernel) ⟨Nat.le_of_ble_eq_true rfl, Nat.le_of_ble_eq_true rfl⟩) (fPreV hN hZ hS (fun q h => hFc q h) hPc hKc hDc (ci := 9) (q0 := 0) rfl rfl) rfl rfl hl.1 rfl (lv_room (Nat.le_of_ble_eq_true rfl)) dL_matchedPin_5 ⟨Nat.le_of_ble_eq_true rfl, Nat.le_of_ble_eq_true rfl⟩) hS (fun q _ h => hFc q h) hFc (fun q _ h => hFc q h) (fun E ce q9 u t H locs ht hvm hpx hE hz1 hk1 hS hq9 hv9 hc9 => ?_) (fun r u t H1 locs ht hvm hw hB hz1 hk1 hS => ?_)
  · skip
    obtain ⟨hP, hD⟩ := va_join (wr := [(o0, .inl (cJ, 1, .inr (.inl (fun _ => 0))))]) (w1 := []) hP hD [0, 1, 2] [3] rfl rfl (by decide) (by decide) hk1 hFc (fun k q h => by simp at h) ⟨fun i j p q h => by simp at h, fun k q h => by simp at h⟩
    have hP : va_P (dC, dI) vwCl [(o0, .inl (cJ, 1, .inr (.inl (fun _ => 0))))] _ := hP
    have hD : va_D A [(o0, .inl (cJ, 1, .inr (.inl (fun _ => 0))))] := hD
    have hE9 := hE
    subst hE9
    refine vx_catch (name := "java/util/NoSuchElementException") hown [] { startPc := 0, endPc := 10, handlerPc := 13, catchType := 21 } [{ startPc := 0, endPc := 10, handlerPc := 17, catchType := 39 }, { startPc := 0, endPc := 10, handlerPc := 21, catchType := 15 }] (by rw [htab]; rfl) (fun z hz => by simp at hz) rfl (by decide) (hts (.classLink RL 21 "java/util/NoSuchElementException") (List.mem_cons_of_mem _ (List.mem_append_left _ (List.mem_append_left _ (List.mem_append_left _ (List.mem_append_left _ (List.mem_append_left _ (List.mem_append_left _ (List.mem_append_left _ (List.mem_append_left _ (List.mem_append_left _ (List.mem_append_left _ (List.mem_append_left _ (List.mem_append_left _ (List.mem_of_getElem? (i := 0) rfl))))))))))))))) (va_Nw.use rfl (hN.1 _ (List.mem_of_getElem? (i := 55) rfl))) hq9 hv9 hc9 ?_
    refine lv_astore (lv' := [(4, .ref q9), (0, .ref h0), (1, .int p0), (2, .int p1), (3, .ref o0)]) hx hb dL_matchedPin_13 hl (Nat.le_of_ble_eq_true rfl) rfl (fun ls hl => ?_)
    refine lv_iconst (v := 1) hx hb dL_matchedPin_15 (by decide) ?_
    exact ret _ (fun _ => 0) _ _ _ _ _ _ (rfl) (hP.sub [0] rfl) (hK.sub [0] rfl) (hD.sub [0] (by decide) rfl) hS (Nat.le_of_ble_eq_true rfl) (Nat.le_of_ble_eq_true rfl) dL_matchedPin_16
  · skip
    exact hw.elim

set_option maxHeartbeats 4000000 in
set_option maxRecDepth 100000 in
/-- the law: differenceKind on a fresh object -/
theorem kL_differenceKind (l : Launch) (hfl : l.stackTraces = false) (dC : Nat → ClassId) (dI : Nat → Nat → Nat) (h0 ma tm un unK co : Nat) (w wL wP wS d dL dP dS : Nat) (on onR onL onC onD op opR opL opC opD : Nat) (cI : ClassId) (gn gp : Nat → Int32) (o0 : Nat) (cJ : ClassId) (p0 : Int32) (sz : Nat) : gHi l yL_differenceKind wsL_differenceKind ({ frames := 8, cells := 1, slots := 6, locals := 127 } : Room) dC dI [.ref h0, .int p0, .ref o0] [(h0, .inr (9, [.ref w, .ref d, .ref co, .ref un, .ref ma, .ref tm, .int 0, .int 0, .int 0])), (co, .inr (4, [.ref w, .ref d, .ref on, .ref op, .int 0])), (w, .inr (3, [.int 0, .int 0, .ref wL, .ref wP, .ref wS])), (d, .inr (3, [.int 0, .int 0, .ref dL, .ref dP, .ref dS])), (on, .inr (7, [.ref onR, .ref onL, .ref onC, .ref onD, .int 0])), (onL, .inl (cI, 20, .inl (fun _ => 0))), (onC, .inl (cI, 20, .inl gn)), (op, .inr (7, [.ref opR, .ref opL, .ref opC, .ref opD, .int 0])), (opL, .inl (cI, 20, .inl (fun _ => 0))), (opC, .inl (cI, 20, .inl gp)), (un, .inr (5, [.ref unK, .int 0])), (o0, .inl (cJ, 1, .inr (.inl (fun _ => 0))))] [(cI, .int), (cJ, .long)] sz (fun (r : Int32) (u : Nat → Int64) => r = 1) (fun u => [(o0, .inl (cJ, 1, .inr (.inl u)))]) (fun u => [(cJ, .long)]) := by
  refine oH_i (y := yL_differenceKind) (cc := cL_differenceKind) (maxL := 4) (by decide) rfl (Nat.le_of_ble_eq_true rfl) ?_
  intro p e s m args below meth c ls A Q hx hb hr hml hown hts hN hZ hA hin hlk hP hK hD hl hX htab ret
  have hS : va_S A s.heap s.heap [] := va_S.rf
  have hl : lv_has ls 4 [(0, .ref h0), (1, .int p0), (2, .ref o0)] := hl
  have hP : va_P (dC, dI) vwCl [(h0, .inr (9, [.ref w, .ref d, .ref co, .ref un, .ref ma, .ref tm, .int 0, .int 0, .int 0])), (co, .inr (4, [.ref w, .ref d, .ref on, .ref op, .int 0])), (w, .inr (3, [.int 0, .int 0, .ref wL, .ref wP, .ref wS])), (d, .inr (3, [.int 0, .int 0, .ref dL, .ref dP, .ref dS])), (on, .inr (7, [.ref onR, .ref onL, .ref onC, .ref onD, .int 0])), (onL, .inl (cI, 20, .inl (fun _ => 0))), (onC, .inl (cI, 20, .inl gn)), (op, .inr (7, [.ref opR, .ref opL, .ref opC, .ref opD, .int 0])), (opL, .inl (cI, 20, .inl (fun _ => 0))), (opC, .inl (cI, 20, .inl gp)), (un, .inr (5, [.ref unK, .int 0])), (o0, .inl (cJ, 1, .inr (.inl (fun _ => 0))))] _ := hP
  have hD : va_D A [(h0, .inr (9, [.ref w, .ref d, .ref co, .ref un, .ref ma, .ref tm, .int 0, .int 0, .int 0])), (co, .inr (4, [.ref w, .ref d, .ref on, .ref op, .int 0])), (w, .inr (3, [.int 0, .int 0, .ref wL, .ref wP, .ref wS])), (d, .inr (3, [.int 0, .int 0, .ref dL, .ref dP, .ref dS])), (on, .inr (7, [.ref onR, .ref onL, .ref onC, .ref onD, .int 0])), (onL, .inl (cI, 20, .inl (fun _ => 0))), (onC, .inl (cI, 20, .inl gn)), (op, .inr (7, [.ref opR, .ref opL, .ref opC, .ref opD, .int 0])), (opL, .inl (cI, 20, .inl (fun _ => 0))), (opC, .inl (cI, 20, .inl gp)), (un, .inr (5, [.ref unK, .int 0])), (o0, .inl (cJ, 1, .inr (.inl (fun _ => 0))))] := hD
  refine lv_aload_n hx hb dL_differenceKind_0 rfl (lv_at hl 2 rfl) ?_
  refine lv_iconst (v := 0) hx hb dL_differenceKind_1 (by decide) ?_
  refine lv_aload_n hx hb dL_differenceKind_2 rfl (lv_at hl 0 rfl) ?_
  refine lv_iload_n hx hb dL_differenceKind_3 rfl (lv_at hl 1 rfl) ?_
  have hPc := hP.sub (ws' := [(h0, .inr (9, [.ref w, .ref d, .ref co, .ref un, .ref ma, .ref tm, .int 0, .int 0, .int 0])), (co, .inr (4, [.ref w, .ref d, .ref on, .ref op, .int 0])), (w, .inr (3, [.int 0, .int 0, .ref wL, .ref wP, .ref wS])), (d, .inr (3, [.int 0, .int 0, .ref dL, .ref dP, .ref dS])), (on, .inr (7, [.ref onR, .ref onL, .ref onC, .ref onD, .int 0])), (onL, .inl (cI, 20, .inl (fun _ => 0))), (onC, .inl (cI, 20, .inl gn)), (op, .inr (7, [.ref opR, .ref opL, .ref opC, .ref opD, .int 0])), (opL, .inl (cI, 20, .inl (fun _ => 0))), (opC, .inl (cI, 20, .inl gp)), (un, .inr (5, [.ref unK, .int 0]))]) [0, 1, 2, 3, 4, 5, 6, 7, 8, 9, 10] rfl
  have hDc := hD.sub (ws' := [(h0, .inr (9, [.ref w, .ref d, .ref co, .ref un, .ref ma, .ref tm, .int 0, .int 0, .int 0])), (co, .inr (4, [.ref w, .ref d, .ref on, .ref op, .int 0])), (w, .inr (3, [.int 0, .int 0, .ref wL, .ref wP, .ref wS])), (d, .inr (3, [.int 0, .int 0, .ref dL, .ref dP, .ref dS])), (on, .inr (7, [.ref onR, .ref onL, .ref onC, .ref onD, .int 0])), (onL, .inl (cI, 20, .inl (fun _ => 0))), (onC, .inl (cI, 20, .inl gn)), (op, .inr (7, [.ref opR, .ref opL, .ref opC, .ref opD, .int 0])), (opL, .inl (cI, 20, .inl (fun _ => 0))), (opC, .inl (cI, 20, .inl gp)), (un, .inr (5, [.ref unK, .int 0]))]) [0, 1, 2, 3, 4, 5, 6, 7, 8, 9, 10] (by decide) rfl
  have hKc := hK.sub (tys' := [(cI, .int)]) [0] rfl
  have hFc := va_free (wc := [(h0, .inr (9, [.ref w, .ref d, .ref co, .ref un, .ref ma, .ref tm, .int 0, .int 0, .int 0])), (co, .inr (4, [.ref w, .ref d, .ref on, .ref op, .int 0])), (w, .inr (3, [.int 0, .int 0, .ref wL, .ref wP, .ref wS])), (d, .inr (3, [.int 0, .int 0, .ref dL, .ref dP, .ref dS])), (on, .inr (7, [.ref onR, .ref onL, .ref onC, .ref onD, .int 0])), (onL, .inl (cI, 20, .inl (fun _ => 0))), (onC, .inl (cI, 20, .inl gn)), (op, .inr (7, [.ref opR, .ref opL, .ref opC, .ref opD, .int 0])), (opL, .inl (cI, 20, .inl (fun _ => 0))), (opC, .inl (cI, 20, .inl gp)), (un, .inr (5, [.ref unK, .int 0]))]) hD hS hA [0, 1, 2, 3, 4, 5, 6, 7, 8, 9, 10] rfl
  refine vx_calli (vx_runV (As := [.int p0]) (rest := [.int 0, .ref o0]) ⟨hx, hb, hml, hown, hts⟩ (kX6_differenceKind l hfl dC dI h0 ma tm un unK co w wL wP wS d dL dP dS on onR onL onC onD op opR opL opC opD cI gn gp p0 s.heap.size) (cwV 1 hts gL_differenceKind_X6_differenceKind rfl rfl rfl (by decide +kernel) ⟨Nat.le_of_ble_eq_true rfl, Nat.le_of_ble_eq_true rfl⟩) (fPreV hN hZ hS (fun q h => hFc q h) hPc hKc hDc (ci := 9) (q0 := 0) rfl rfl) rfl rfl hl.1 rfl (lv_room (Nat.le_of_ble_eq_true rfl)) dL_differenceKind_4 ⟨Nat.le_of_ble_eq_true rfl, Nat.le_of_ble_eq_true rfl⟩) hS (fun q _ h => hFc q h) hFc (fun q _ h => hFc q h) (fun E ce q9 u t H locs ht hvm hpx hE hz1 hk1 hS hq9 hv9 hc9 => ?_) (fun r u t H1 locs ht hvm hw hB hz1 hk1 hS => ?_)
  · skip
    obtain ⟨hP, hD⟩ := va_join (wr := [(o0, .inl (cJ, 1, .inr (.inl (fun _ => 0))))]) (w1 := []) hP hD [0, 1, 2, 3, 4, 5, 6, 7, 8, 9, 10] [11] rfl rfl (by decide) (by decide) hk1 hFc (fun k q h => by simp at h) ⟨fun i j p q h => by simp at h, fun k q h => by simp at h⟩
    have hP : va_P (dC, dI) vwCl [(o0, .inl (cJ, 1, .inr (.inl (fun _ => 0))))] _ := hP
    have hD : va_D A [(o0, .inl (cJ, 1, .inr (.inl (fun _ => 0))))] := hD
    have hE9 := hE
    subst hE9
    refine vx_catch (name := "java/lang/IndexOutOfBoundsException") hown [] { startPc := 0, endPc := 9, handlerPc := 12, catchType := 39 } [] (by rw [htab]; rfl) (fun z hz => by simp at hz) rfl (by decide) (hts (.classLink RL 39 "java/lang/IndexOutOfBoundsException") (List.mem_cons_of_mem _ (List.mem_append_left _ (List.mem_append_left _ (List.mem_append_left _ (List.mem_append_left _ (List.mem_append_left _ (List.mem_append_left _ (List.mem_append_left _ (List.mem_append_left _ (List.mem_append_left _ (List.mem_of_getElem? (i := 0) rfl)))))))))))) (va_Nw.use rfl (hN.1 _ (List.mem_of_getElem? (i := 58) rfl))) hq9 hv9 hc9 ?_
    refine lv_astore_n (lv' := [(3, .ref q9), (0, .ref h0), (1, .int p0), (2, .ref o0)]) hx hb dL_differenceKind_12 rfl hl (Nat.le_of_ble_eq_true rfl) rfl (fun ls hl => ?_)
    refine lv_iconst (v := 1) hx hb dL_differenceKind_13 (by decide) ?_
    exact ret _ (fun _ => 0) _ _ _ _ _ _ (rfl) (hP.sub [0] rfl) (hK.sub [1] rfl) (hD.sub [0] (by decide) rfl) hS (Nat.le_of_ble_eq_true rfl) (Nat.le_of_ble_eq_true rfl) dL_differenceKind_14
  · skip
    exact hw.elim

set_option maxHeartbeats 4000000 in
set_option maxRecDepth 100000 in
/-- the law: differenceMember on a fresh object -/
theorem kL_differenceMember (l : Launch) (hfl : l.stackTraces = false) (dC : Nat → ClassId) (dI : Nat → Nat → Nat) (h0 ma tm un unK co : Nat) (w wL wP wS d dL dP dS : Nat) (on onR onL onC onD op opR opL opC opD : Nat) (cI : ClassId) (gn gp : Nat → Int32) (o0 : Nat) (cJ : ClassId) (p0 : Int32) (sz : Nat) : gHi l yL_differenceMember wsL_differenceMember ({ frames := 8, cells := 1, slots := 6, locals := 127 } : Room) dC dI [.ref h0, .int p0, .ref o0] [(h0, .inr (9, [.ref w, .ref d, .ref co, .ref un, .ref ma, .ref tm, .int 0, .int 0, .int 0])), (co, .inr (4, [.ref w, .ref d, .ref on, .ref op, .int 0])), (w, .inr (3, [.int 0, .int 0, .ref wL, .ref wP, .ref wS])), (d, .inr (3, [.int 0, .int 0, .ref dL, .ref dP, .ref dS])), (on, .inr (7, [.ref onR, .ref onL, .ref onC, .ref onD, .int 0])), (onL, .inl (cI, 20, .inl (fun _ => 0))), (onC, .inl (cI, 20, .inl gn)), (op, .inr (7, [.ref opR, .ref opL, .ref opC, .ref opD, .int 0])), (opL, .inl (cI, 20, .inl (fun _ => 0))), (opC, .inl (cI, 20, .inl gp)), (un, .inr (5, [.ref unK, .int 0])), (o0, .inl (cJ, 1, .inr (.inl (fun _ => 0))))] [(cI, .int), (cJ, .long)] sz (fun (r : Int32) (u : Nat → Int64) => r = 1) (fun u => [(o0, .inl (cJ, 1, .inr (.inl u)))]) (fun u => [(cJ, .long)]) := by
  refine oH_i (y := yL_differenceMember) (cc := cL_differenceMember) (maxL := 4) (by decide) rfl (Nat.le_of_ble_eq_true rfl) ?_
  intro p e s m args below meth c ls A Q hx hb hr hml hown hts hN hZ hA hin hlk hP hK hD hl hX htab ret
  have hS : va_S A s.heap s.heap [] := va_S.rf
  have hl : lv_has ls 4 [(0, .ref h0), (1, .int p0), (2, .ref o0)] := hl
  have hP : va_P (dC, dI) vwCl [(h0, .inr (9, [.ref w, .ref d, .ref co, .ref un, .ref ma, .ref tm, .int 0, .int 0, .int 0])), (co, .inr (4, [.ref w, .ref d, .ref on, .ref op, .int 0])), (w, .inr (3, [.int 0, .int 0, .ref wL, .ref wP, .ref wS])), (d, .inr (3, [.int 0, .int 0, .ref dL, .ref dP, .ref dS])), (on, .inr (7, [.ref onR, .ref onL, .ref onC, .ref onD, .int 0])), (onL, .inl (cI, 20, .inl (fun _ => 0))), (onC, .inl (cI, 20, .inl gn)), (op, .inr (7, [.ref opR, .ref opL, .ref opC, .ref opD, .int 0])), (opL, .inl (cI, 20, .inl (fun _ => 0))), (opC, .inl (cI, 20, .inl gp)), (un, .inr (5, [.ref unK, .int 0])), (o0, .inl (cJ, 1, .inr (.inl (fun _ => 0))))] _ := hP
  have hD : va_D A [(h0, .inr (9, [.ref w, .ref d, .ref co, .ref un, .ref ma, .ref tm, .int 0, .int 0, .int 0])), (co, .inr (4, [.ref w, .ref d, .ref on, .ref op, .int 0])), (w, .inr (3, [.int 0, .int 0, .ref wL, .ref wP, .ref wS])), (d, .inr (3, [.int 0, .int 0, .ref dL, .ref dP, .ref dS])), (on, .inr (7, [.ref onR, .ref onL, .ref onC, .ref onD, .int 0])), (onL, .inl (cI, 20, .inl (fun _ => 0))), (onC, .inl (cI, 20, .inl gn)), (op, .inr (7, [.ref opR, .ref opL, .ref opC, .ref opD, .int 0])), (opL, .inl (cI, 20, .inl (fun _ => 0))), (opC, .inl (cI, 20, .inl gp)), (un, .inr (5, [.ref unK, .int 0])), (o0, .inl (cJ, 1, .inr (.inl (fun _ => 0))))] := hD
  refine lv_aload_n hx hb dL_differenceMember_0 rfl (lv_at hl 2 rfl) ?_
  refine lv_iconst (v := 0) hx hb dL_differenceMember_1 (by decide) ?_
  refine lv_aload_n hx hb dL_differenceMember_2 rfl (lv_at hl 0 rfl) ?_
  refine lv_iload_n hx hb dL_differenceMember_3 rfl (lv_at hl 1 rfl) ?_
  have hPc := hP.sub (ws' := [(h0, .inr (9, [.ref w, .ref d, .ref co, .ref un, .ref ma, .ref tm, .int 0, .int 0, .int 0])), (co, .inr (4, [.ref w, .ref d, .ref on, .ref op, .int 0])), (w, .inr (3, [.int 0, .int 0, .ref wL, .ref wP, .ref wS])), (d, .inr (3, [.int 0, .int 0, .ref dL, .ref dP, .ref dS])), (on, .inr (7, [.ref onR, .ref onL, .ref onC, .ref onD, .int 0])), (onL, .inl (cI, 20, .inl (fun _ => 0))), (onC, .inl (cI, 20, .inl gn)), (op, .inr (7, [.ref opR, .ref opL, .ref opC, .ref opD, .int 0])), (opL, .inl (cI, 20, .inl (fun _ => 0))), (opC, .inl (cI, 20, .inl gp)), (un, .inr (5, [.ref unK, .int 0]))]) [0, 1, 2, 3, 4, 5, 6, 7, 8, 9, 10] rfl
  have hDc := hD.sub (ws' := [(h0, .inr (9, [.ref w, .ref d, .ref co, .ref un, .ref ma, .ref tm, .int 0, .int 0, .int 0])), (co, .inr (4, [.ref w, .ref d, .ref on, .ref op, .int 0])), (w, .inr (3, [.int 0, .int 0, .ref wL, .ref wP, .ref wS])), (d, .inr (3, [.int 0, .int 0, .ref dL, .ref dP, .ref dS])), (on, .inr (7, [.ref onR, .ref onL, .ref onC, .ref onD, .int 0])), (onL, .inl (cI, 20, .inl (fun _ => 0))), (onC, .inl (cI, 20, .inl gn)), (op, .inr (7, [.ref opR, .ref opL, .ref opC, .ref opD, .int 0])), (opL, .inl (cI, 20, .inl (fun _ => 0))), (opC, .inl (cI, 20, .inl gp)), (un, .inr (5, [.ref unK, .int 0]))]) [0, 1, 2, 3, 4, 5, 6, 7, 8, 9, 10] (by decide) rfl
  have hKc := hK.sub (tys' := [(cI, .int)]) [0] rfl
  have hFc := va_free (wc := [(h0, .inr (9, [.ref w, .ref d, .ref co, .ref un, .ref ma, .ref tm, .int 0, .int 0, .int 0])), (co, .inr (4, [.ref w, .ref d, .ref on, .ref op, .int 0])), (w, .inr (3, [.int 0, .int 0, .ref wL, .ref wP, .ref wS])), (d, .inr (3, [.int 0, .int 0, .ref dL, .ref dP, .ref dS])), (on, .inr (7, [.ref onR, .ref onL, .ref onC, .ref onD, .int 0])), (onL, .inl (cI, 20, .inl (fun _ => 0))), (onC, .inl (cI, 20, .inl gn)), (op, .inr (7, [.ref opR, .ref opL, .ref opC, .ref opD, .int 0])), (opL, .inl (cI, 20, .inl (fun _ => 0))), (opC, .inl (cI, 20, .inl gp)), (un, .inr (5, [.ref unK, .int 0]))]) hD hS hA [0, 1, 2, 3, 4, 5, 6, 7, 8, 9, 10] rfl
  refine vx_calli (vx_runV (As := [.int p0]) (rest := [.int 0, .ref o0]) ⟨hx, hb, hml, hown, hts⟩ (kX6_differenceMember l hfl dC dI h0 ma tm un unK co w wL wP wS d dL dP dS on onR onL onC onD op opR opL opC opD cI gn gp p0 s.heap.size) (cwV 1 hts gL_differenceMember_X6_differenceMember rfl rfl rfl (by decide +kernel) ⟨Nat.le_of_ble_eq_true rfl, Nat.le_of_ble_eq_true rfl⟩) (fPreV hN hZ hS (fun q h => hFc q h) hPc hKc hDc (ci := 9) (q0 := 0) rfl rfl) rfl rfl hl.1 rfl (lv_room (Nat.le_of_ble_eq_true rfl)) dL_differenceMember_4 ⟨Nat.le_of_ble_eq_true rfl, Nat.le_of_ble_eq_true rfl⟩) hS (fun q _ h => hFc q h) hFc (fun q _ h => hFc q h) (fun E ce q9 u t H locs ht hvm hpx hE hz1 hk1 hS hq9 hv9 hc9 => ?_) (fun r u t H1 locs ht hvm hw hB hz1 hk1 hS => ?_)
  · skip
    obtain ⟨hP, hD⟩ := va_join (wr := [(o0, .inl (cJ, 1, .inr (.inl (fun _ => 0))))]) (w1 := []) hP hD [0, 1, 2, 3, 4, 5, 6, 7, 8, 9, 10] [11] rfl rfl (by decide) (by decide) hk1 hFc (fun k q h => by simp at h) ⟨fun i j p q h => by simp at h, fun k q h => by simp at h⟩
    have hP : va_P (dC, dI) vwCl [(o0, .inl (cJ, 1, .inr (.inl (fun _ => 0))))] _ := hP
    have hD : va_D A [(o0, .inl (cJ, 1, .inr (.inl (fun _ => 0))))] := hD
    have hE9 := hE
    subst hE9
    refine vx_catch (name := "java/lang/IndexOutOfBoundsException") hown [] { startPc := 0, endPc := 9, handlerPc := 12, catchType := 39 } [] (by rw [htab]; rfl) (fun z hz => by simp at hz) rfl (by decide) (hts (.classLink RL 39 "java/lang/IndexOutOfBoundsException") (List.mem_cons_of_mem _ (List.mem_append_left _ (List.mem_append_left _ (List.mem_append_left _ (List.mem_append_left _ (List.mem_append_left _ (List.mem_append_left _ (List.mem_append_left _ (List.mem_append_left _ (List.mem_append_left _ (List.mem_of_getElem? (i := 0) rfl)))))))))))) (va_Nw.use rfl (hN.1 _ (List.mem_of_getElem? (i := 58) rfl))) hq9 hv9 hc9 ?_
    refine lv_astore_n (lv' := [(3, .ref q9), (0, .ref h0), (1, .int p0), (2, .ref o0)]) hx hb dL_differenceMember_12 rfl hl (Nat.le_of_ble_eq_true rfl) rfl (fun ls hl => ?_)
    refine lv_iconst (v := 1) hx hb dL_differenceMember_13 (by decide) ?_
    exact ret _ (fun _ => 0) _ _ _ _ _ _ (rfl) (hP.sub [0] rfl) (hK.sub [1] rfl) (hD.sub [0] (by decide) rfl) hS (Nat.le_of_ble_eq_true rfl) (Nat.le_of_ble_eq_true rfl) dL_differenceMember_14
  · skip
    exact hw.elim

set_option maxHeartbeats 4000000 in
set_option maxRecDepth 100000 in
/-- the law: differenceDistance on a fresh object -/
theorem kL_differenceDistance (l : Launch) (hfl : l.stackTraces = false) (dC : Nat → ClassId) (dI : Nat → Nat → Nat) (h0 ma tm un unK co : Nat) (w wL wP wS d dL dP dS : Nat) (on onR onL onC onD op opR opL opC opD : Nat) (cI : ClassId) (gn gp : Nat → Int32) (o0 : Nat) (cJ : ClassId) (p0 : Int32) (sz : Nat) : gHi l yL_differenceDistance wsL_differenceDistance ({ frames := 8, cells := 1, slots := 6, locals := 127 } : Room) dC dI [.ref h0, .int p0, .ref o0] [(h0, .inr (9, [.ref w, .ref d, .ref co, .ref un, .ref ma, .ref tm, .int 0, .int 0, .int 0])), (co, .inr (4, [.ref w, .ref d, .ref on, .ref op, .int 0])), (w, .inr (3, [.int 0, .int 0, .ref wL, .ref wP, .ref wS])), (d, .inr (3, [.int 0, .int 0, .ref dL, .ref dP, .ref dS])), (on, .inr (7, [.ref onR, .ref onL, .ref onC, .ref onD, .int 0])), (onL, .inl (cI, 20, .inl (fun _ => 0))), (onC, .inl (cI, 20, .inl gn)), (op, .inr (7, [.ref opR, .ref opL, .ref opC, .ref opD, .int 0])), (opL, .inl (cI, 20, .inl (fun _ => 0))), (opC, .inl (cI, 20, .inl gp)), (un, .inr (5, [.ref unK, .int 0])), (o0, .inl (cJ, 1, .inr (.inl (fun _ => 0))))] [(cI, .int), (cJ, .long)] sz (fun (r : Int32) (u : Nat → Int64) => r = 1) (fun u => [(o0, .inl (cJ, 1, .inr (.inl u)))]) (fun u => [(cJ, .long)]) := by
  refine oH_i (y := yL_differenceDistance) (cc := cL_differenceDistance) (maxL := 4) (by decide) rfl (Nat.le_of_ble_eq_true rfl) ?_
  intro p e s m args below meth c ls A Q hx hb hr hml hown hts hN hZ hA hin hlk hP hK hD hl hX htab ret
  have hS : va_S A s.heap s.heap [] := va_S.rf
  have hl : lv_has ls 4 [(0, .ref h0), (1, .int p0), (2, .ref o0)] := hl
  have hP : va_P (dC, dI) vwCl [(h0, .inr (9, [.ref w, .ref d, .ref co, .ref un, .ref ma, .ref tm, .int 0, .int 0, .int 0])), (co, .inr (4, [.ref w, .ref d, .ref on, .ref op, .int 0])), (w, .inr (3, [.int 0, .int 0, .ref wL, .ref wP, .ref wS])), (d, .inr (3, [.int 0, .int 0, .ref dL, .ref dP, .ref dS])), (on, .inr (7, [.ref onR, .ref onL, .ref onC, .ref onD, .int 0])), (onL, .inl (cI, 20, .inl (fun _ => 0))), (onC, .inl (cI, 20, .inl gn)), (op, .inr (7, [.ref opR, .ref opL, .ref opC, .ref opD, .int 0])), (opL, .inl (cI, 20, .inl (fun _ => 0))), (opC, .inl (cI, 20, .inl gp)), (un, .inr (5, [.ref unK, .int 0])), (o0, .inl (cJ, 1, .inr (.inl (fun _ => 0))))] _ := hP
  have hD : va_D A [(h0, .inr (9, [.ref w, .ref d, .ref co, .ref un, .ref ma, .ref tm, .int 0, .int 0, .int 0])), (co, .inr (4, [.ref w, .ref d, .ref on, .ref op, .int 0])), (w, .inr (3, [.int 0, .int 0, .ref wL, .ref wP, .ref wS])), (d, .inr (3, [.int 0, .int 0, .ref dL, .ref dP, .ref dS])), (on, .inr (7, [.ref onR, .ref onL, .ref onC, .ref onD, .int 0])), (onL, .inl (cI, 20, .inl (fun _ => 0))), (onC, .inl (cI, 20, .inl gn)), (op, .inr (7, [.ref opR, .ref opL, .ref opC, .ref opD, .int 0])), (opL, .inl (cI, 20, .inl (fun _ => 0))), (opC, .inl (cI, 20, .inl gp)), (un, .inr (5, [.ref unK, .int 0])), (o0, .inl (cJ, 1, .inr (.inl (fun _ => 0))))] := hD
  refine lv_aload_n hx hb dL_differenceDistance_0 rfl (lv_at hl 2 rfl) ?_
  refine lv_iconst (v := 0) hx hb dL_differenceDistance_1 (by decide) ?_
  refine lv_aload_n hx hb dL_differenceDistance_2 rfl (lv_at hl 0 rfl) ?_
  refine lv_iload_n hx hb dL_differenceDistance_3 rfl (lv_at hl 1 rfl) ?_
  have hPc := hP.sub (ws' := [(h0, .inr (9, [.ref w, .ref d, .ref co, .ref un, .ref ma, .ref tm, .int 0, .int 0, .int 0])), (co, .inr (4, [.ref w, .ref d, .ref on, .ref op, .int 0])), (w, .inr (3, [.int 0, .int 0, .ref wL, .ref wP, .ref wS])), (d, .inr (3, [.int 0, .int 0, .ref dL, .ref dP, .ref dS])), (on, .inr (7, [.ref onR, .ref onL, .ref onC, .ref onD, .int 0])), (onL, .inl (cI, 20, .inl (fun _ => 0))), (onC, .inl (cI, 20, .inl gn)), (op, .inr (7, [.ref opR, .ref opL, .ref opC, .ref opD, .int 0])), (opL, .inl (cI, 20, .inl (fun _ => 0))), (opC, .inl (cI, 20, .inl gp)), (un, .inr (5, [.ref unK, .int 0]))]) [0, 1, 2, 3, 4, 5, 6, 7, 8, 9, 10] rfl
  have hDc := hD.sub (ws' := [(h0, .inr (9, [.ref w, .ref d, .ref co, .ref un, .ref ma, .ref tm, .int 0, .int 0, .int 0])), (co, .inr (4, [.ref w, .ref d, .ref on, .ref op, .int 0])), (w, .inr (3, [.int 0, .int 0, .ref wL, .ref wP, .ref wS])), (d, .inr (3, [.int 0, .int 0, .ref dL, .ref dP, .ref dS])), (on, .inr (7, [.ref onR, .ref onL, .ref onC, .ref onD, .int 0])), (onL, .inl (cI, 20, .inl (fun _ => 0))), (onC, .inl (cI, 20, .inl gn)), (op, .inr (7, [.ref opR, .ref opL, .ref opC, .ref opD, .int 0])), (opL, .inl (cI, 20, .inl (fun _ => 0))), (opC, .inl (cI, 20, .inl gp)), (un, .inr (5, [.ref unK, .int 0]))]) [0, 1, 2, 3, 4, 5, 6, 7, 8, 9, 10] (by decide) rfl
  have hKc := hK.sub (tys' := [(cI, .int)]) [0] rfl
  have hFc := va_free (wc := [(h0, .inr (9, [.ref w, .ref d, .ref co, .ref un, .ref ma, .ref tm, .int 0, .int 0, .int 0])), (co, .inr (4, [.ref w, .ref d, .ref on, .ref op, .int 0])), (w, .inr (3, [.int 0, .int 0, .ref wL, .ref wP, .ref wS])), (d, .inr (3, [.int 0, .int 0, .ref dL, .ref dP, .ref dS])), (on, .inr (7, [.ref onR, .ref onL, .ref onC, .ref onD, .int 0])), (onL, .inl (cI, 20, .inl (fun _ => 0))), (onC, .inl (cI, 20, .inl gn)), (op, .inr (7, [.ref opR, .ref opL, .ref opC, .ref opD, .int 0])), (opL, .inl (cI, 20, .inl (fun _ => 0))), (opC, .inl (cI, 20, .inl gp)), (un, .inr (5, [.ref unK, .int 0]))]) hD hS hA [0, 1, 2, 3, 4, 5, 6, 7, 8, 9, 10] rfl
  refine vx_calli (vx_runV (As := [.int p0]) (rest := [.int 0, .ref o0]) ⟨hx, hb, hml, hown, hts⟩ (kX6_differenceDistance l hfl dC dI h0 ma tm un unK co w wL wP wS d dL dP dS on onR onL onC onD op opR opL opC opD cI gn gp p0 s.heap.size) (cwV 1 hts gL_differenceDistance_X6_differenceDistance rfl rfl rfl (by decide +kernel) ⟨Nat.le_of_ble_eq_true rfl, Nat.le_of_ble_eq_true rfl⟩) (fPreV hN hZ hS (fun q h => hFc q h) hPc hKc hDc (ci := 9) (q0 := 0) rfl rfl) rfl rfl hl.1 rfl (lv_room (Nat.le_of_ble_eq_true rfl)) dL_differenceDistance_4 ⟨Nat.le_of_ble_eq_true rfl, Nat.le_of_ble_eq_true rfl⟩) hS (fun q _ h => hFc q h) hFc (fun q _ h => hFc q h) (fun E ce q9 u t H locs ht hvm hpx hE hz1 hk1 hS hq9 hv9 hc9 => ?_) (fun r u t H1 locs ht hvm hw hB hz1 hk1 hS => ?_)
  · skip
    obtain ⟨hP, hD⟩ := va_join (wr := [(o0, .inl (cJ, 1, .inr (.inl (fun _ => 0))))]) (w1 := []) hP hD [0, 1, 2, 3, 4, 5, 6, 7, 8, 9, 10] [11] rfl rfl (by decide) (by decide) hk1 hFc (fun k q h => by simp at h) ⟨fun i j p q h => by simp at h, fun k q h => by simp at h⟩
    have hP : va_P (dC, dI) vwCl [(o0, .inl (cJ, 1, .inr (.inl (fun _ => 0))))] _ := hP
    have hD : va_D A [(o0, .inl (cJ, 1, .inr (.inl (fun _ => 0))))] := hD
    have hE9 := hE
    subst hE9
    refine vx_catch (name := "java/lang/IndexOutOfBoundsException") hown [] { startPc := 0, endPc := 9, handlerPc := 12, catchType := 39 } [] (by rw [htab]; rfl) (fun z hz => by simp at hz) rfl (by decide) (hts (.classLink RL 39 "java/lang/IndexOutOfBoundsException") (List.mem_cons_of_mem _ (List.mem_append_left _ (List.mem_append_left _ (List.mem_append_left _ (List.mem_append_left _ (List.mem_append_left _ (List.mem_append_left _ (List.mem_append_left _ (List.mem_append_left _ (List.mem_append_left _ (List.mem_of_getElem? (i := 0) rfl)))))))))))) (va_Nw.use rfl (hN.1 _ (List.mem_of_getElem? (i := 58) rfl))) hq9 hv9 hc9 ?_
    refine lv_astore_n (lv' := [(3, .ref q9), (0, .ref h0), (1, .int p0), (2, .ref o0)]) hx hb dL_differenceDistance_12 rfl hl (Nat.le_of_ble_eq_true rfl) rfl (fun ls hl => ?_)
    refine lv_iconst (v := 1) hx hb dL_differenceDistance_13 (by decide) ?_
    exact ret _ (fun _ => 0) _ _ _ _ _ _ (rfl) (hP.sub [0] rfl) (hK.sub [1] rfl) (hD.sub [0] (by decide) rfl) hS (Nat.le_of_ble_eq_true rfl) (Nat.le_of_ble_eq_true rfl) dL_differenceDistance_14
  · skip
    exact hw.elim

set_option maxHeartbeats 4000000 in
set_option maxRecDepth 100000 in
/-- the law: differenceSize on a fresh object -/
theorem kL_differenceSize (l : Launch) (hfl : l.stackTraces = false) (dC : Nat → ClassId) (dI : Nat → Nat → Nat) (h0 ma tm un unK co : Nat) (w wL wP wS d dL dP dS : Nat) (on onR onL onC onD op opR opL opC opD : Nat) (cI : ClassId) (gn gp : Nat → Int32) (o0 : Nat) (cJ : ClassId) (p0 p1 : Int32) (sz : Nat) : gHi l yL_differenceSize wsL_differenceSize ({ frames := 8, cells := 1, slots := 6, locals := 128 } : Room) dC dI [.ref h0, .int p0, .int p1, .ref o0] [(h0, .inr (9, [.ref w, .ref d, .ref co, .ref un, .ref ma, .ref tm, .int 0, .int 0, .int 0])), (co, .inr (4, [.ref w, .ref d, .ref on, .ref op, .int 0])), (w, .inr (3, [.int 0, .int 0, .ref wL, .ref wP, .ref wS])), (d, .inr (3, [.int 0, .int 0, .ref dL, .ref dP, .ref dS])), (on, .inr (7, [.ref onR, .ref onL, .ref onC, .ref onD, .int 0])), (onL, .inl (cI, 20, .inl (fun _ => 0))), (onC, .inl (cI, 20, .inl gn)), (op, .inr (7, [.ref opR, .ref opL, .ref opC, .ref opD, .int 0])), (opL, .inl (cI, 20, .inl (fun _ => 0))), (opC, .inl (cI, 20, .inl gp)), (un, .inr (5, [.ref unK, .int 0])), (o0, .inl (cJ, 1, .inr (.inl (fun _ => 0))))] [(cI, .int), (cJ, .long)] sz (fun (r : Int32) (u : Nat → Int64) => r = 1) (fun u => [(o0, .inl (cJ, 1, .inr (.inl u)))]) (fun u => [(cJ, .long)]) := by
  refine oH_i (y := yL_differenceSize) (cc := cL_differenceSize) (maxL := 5) (by decide) rfl (Nat.le_of_ble_eq_true rfl) ?_
  intro p e s m args below meth c ls A Q hx hb hr hml hown hts hN hZ hA hin hlk hP hK hD hl hX htab ret
  have hS : va_S A s.heap s.heap [] := va_S.rf
  have hl : lv_has ls 5 [(0, .ref h0), (1, .int p0), (2, .int p1), (3, .ref o0)] := hl
  have hP : va_P (dC, dI) vwCl [(h0, .inr (9, [.ref w, .ref d, .ref co, .ref un, .ref ma, .ref tm, .int 0, .int 0, .int 0])), (co, .inr (4, [.ref w, .ref d, .ref on, .ref op, .int 0])), (w, .inr (3, [.int 0, .int 0, .ref wL, .ref wP, .ref wS])), (d, .inr (3, [.int 0, .int 0, .ref dL, .ref dP, .ref dS])), (on, .inr (7, [.ref onR, .ref onL, .ref onC, .ref onD, .int 0])), (onL, .inl (cI, 20, .inl (fun _ => 0))), (onC, .inl (cI, 20, .inl gn)), (op, .inr (7, [.ref opR, .ref opL, .ref opC, .ref opD, .int 0])), (opL, .inl (cI, 20, .inl (fun _ => 0))), (opC, .inl (cI, 20, .inl gp)), (un, .inr (5, [.ref unK, .int 0])), (o0, .inl (cJ, 1, .inr (.inl (fun _ => 0))))] _ := hP
  have hD : va_D A [(h0, .inr (9, [.ref w, .ref d, .ref co, .ref un, .ref ma, .ref tm, .int 0, .int 0, .int 0])), (co, .inr (4, [.ref w, .ref d, .ref on, .ref op, .int 0])), (w, .inr (3, [.int 0, .int 0, .ref wL, .ref wP, .ref wS])), (d, .inr (3, [.int 0, .int 0, .ref dL, .ref dP, .ref dS])), (on, .inr (7, [.ref onR, .ref onL, .ref onC, .ref onD, .int 0])), (onL, .inl (cI, 20, .inl (fun _ => 0))), (onC, .inl (cI, 20, .inl gn)), (op, .inr (7, [.ref opR, .ref opL, .ref opC, .ref opD, .int 0])), (opL, .inl (cI, 20, .inl (fun _ => 0))), (opC, .inl (cI, 20, .inl gp)), (un, .inr (5, [.ref unK, .int 0])), (o0, .inl (cJ, 1, .inr (.inl (fun _ => 0))))] := hD
  refine lv_aload_n hx hb dL_differenceSize_0 rfl (lv_at hl 3 rfl) ?_
  refine lv_iconst (v := 0) hx hb dL_differenceSize_1 (by decide) ?_
  refine lv_aload_n hx hb dL_differenceSize_2 rfl (lv_at hl 0 rfl) ?_
  refine lv_iload_n hx hb dL_differenceSize_3 rfl (lv_at hl 1 rfl) ?_
  refine lv_iload_n hx hb dL_differenceSize_4 rfl (lv_at hl 2 rfl) ?_
  have hPc := hP.sub (ws' := [(h0, .inr (9, [.ref w, .ref d, .ref co, .ref un, .ref ma, .ref tm, .int 0, .int 0, .int 0])), (co, .inr (4, [.ref w, .ref d, .ref on, .ref op, .int 0])), (w, .inr (3, [.int 0, .int 0, .ref wL, .ref wP, .ref wS])), (d, .inr (3, [.int 0, .int 0, .ref dL, .ref dP, .ref dS])), (on, .inr (7, [.ref onR, .ref onL, .ref onC, .ref onD, .int 0])), (onL, .inl (cI, 20, .inl (fun _ => 0))), (onC, .inl (cI, 20, .inl gn)), (op, .inr (7, [.ref opR, .ref opL, .ref opC, .ref opD, .int 0])), (opL, .inl (cI, 20, .inl (fun _ => 0))), (opC, .inl (cI, 20, .inl gp)), (un, .inr (5, [.ref unK, .int 0]))]) [0, 1, 2, 3, 4, 5, 6, 7, 8, 9, 10] rfl
  have hDc := hD.sub (ws' := [(h0, .inr (9, [.ref w, .ref d, .ref co, .ref un, .ref ma, .ref tm, .int 0, .int 0, .int 0])), (co, .inr (4, [.ref w, .ref d, .ref on, .ref op, .int 0])), (w, .inr (3, [.int 0, .int 0, .ref wL, .ref wP, .ref wS])), (d, .inr (3, [.int 0, .int 0, .ref dL, .ref dP, .ref dS])), (on, .inr (7, [.ref onR, .ref onL, .ref onC, .ref onD, .int 0])), (onL, .inl (cI, 20, .inl (fun _ => 0))), (onC, .inl (cI, 20, .inl gn)), (op, .inr (7, [.ref opR, .ref opL, .ref opC, .ref opD, .int 0])), (opL, .inl (cI, 20, .inl (fun _ => 0))), (opC, .inl (cI, 20, .inl gp)), (un, .inr (5, [.ref unK, .int 0]))]) [0, 1, 2, 3, 4, 5, 6, 7, 8, 9, 10] (by decide) rfl
  have hKc := hK.sub (tys' := [(cI, .int)]) [0] rfl
  have hFc := va_free (wc := [(h0, .inr (9, [.ref w, .ref d, .ref co, .ref un, .ref ma, .ref tm, .int 0, .int 0, .int 0])), (co, .inr (4, [.ref w, .ref d, .ref on, .ref op, .int 0])), (w, .inr (3, [.int 0, .int 0, .ref wL, .ref wP, .ref wS])), (d, .inr (3, [.int 0, .int 0, .ref dL, .ref dP, .ref dS])), (on, .inr (7, [.ref onR, .ref onL, .ref onC, .ref onD, .int 0])), (onL, .inl (cI, 20, .inl (fun _ => 0))), (onC, .inl (cI, 20, .inl gn)), (op, .inr (7, [.ref opR, .ref opL, .ref opC, .ref opD, .int 0])), (opL, .inl (cI, 20, .inl (fun _ => 0))), (opC, .inl (cI, 20, .inl gp)), (un, .inr (5, [.ref unK, .int 0]))]) hD hS hA [0, 1, 2, 3, 4, 5, 6, 7, 8, 9, 10] rfl
  refine vx_calli (vx_runV (As := [.int p0, .int p1]) (rest := [.int 0, .ref o0]) ⟨hx, hb, hml, hown, hts⟩ (kX6_differenceSize l hfl dC dI h0 ma tm un unK co w wL wP wS d dL dP dS on onR onL onC onD op opR opL opC opD cI gn gp p0 p1 s.heap.size) (cwV 2 hts gL_differenceSize_X6_differenceSize rfl rfl rfl (by decide +kernel) ⟨Nat.le_of_ble_eq_true rfl, Nat.le_of_ble_eq_true rfl⟩) (fPreV hN hZ hS (fun q h => hFc q h) hPc hKc hDc (ci := 9) (q0 := 0) rfl rfl) rfl rfl hl.1 rfl (lv_room (Nat.le_of_ble_eq_true rfl)) dL_differenceSize_5 ⟨Nat.le_of_ble_eq_true rfl, Nat.le_of_ble_eq_true rfl⟩) hS (fun q _ h => hFc q h) hFc (fun q _ h => hFc q h) (fun E ce q9 u t H locs ht hvm hpx hE hz1 hk1 hS hq9 hv9 hc9 => ?_) (fun r u t H1 locs ht hvm hw hB hz1 hk1 hS => ?_)
  · skip
    obtain ⟨hP, hD⟩ := va_join (wr := [(o0, .inl (cJ, 1, .inr (.inl (fun _ => 0))))]) (w1 := []) hP hD [0, 1, 2, 3, 4, 5, 6, 7, 8, 9, 10] [11] rfl rfl (by decide) (by decide) hk1 hFc (fun k q h => by simp at h) ⟨fun i j p q h => by simp at h, fun k q h => by simp at h⟩
    have hP : va_P (dC, dI) vwCl [(o0, .inl (cJ, 1, .inr (.inl (fun _ => 0))))] _ := hP
    have hD : va_D A [(o0, .inl (cJ, 1, .inr (.inl (fun _ => 0))))] := hD
    have hE9 := hE
    subst hE9
    refine vx_catch (name := "java/lang/IndexOutOfBoundsException") hown [] { startPc := 0, endPc := 10, handlerPc := 13, catchType := 39 } [{ startPc := 0, endPc := 10, handlerPc := 17, catchType := 13 }] (by rw [htab]; rfl) (fun z hz => by simp at hz) rfl (by decide) (hts (.classLink RL 39 "java/lang/IndexOutOfBoundsException") (List.mem_cons_of_mem _ (List.mem_append_left _ (List.mem_append_left _ (List.mem_append_left _ (List.mem_append_left _ (List.mem_append_left _ (List.mem_append_left _ (List.mem_append_left _ (List.mem_append_left _ (List.mem_append_left _ (List.mem_append_left _ (List.mem_of_getElem? (i := 0) rfl))))))))))))) (va_Nw.use rfl (hN.1 _ (List.mem_of_getElem? (i := 58) rfl))) hq9 hv9 hc9 ?_
    refine lv_astore (lv' := [(4, .ref q9), (0, .ref h0), (1, .int p0), (2, .int p1), (3, .ref o0)]) hx hb dL_differenceSize_13 hl (Nat.le_of_ble_eq_true rfl) rfl (fun ls hl => ?_)
    refine lv_iconst (v := 1) hx hb dL_differenceSize_15 (by decide) ?_
    exact ret _ (fun _ => 0) _ _ _ _ _ _ (rfl) (hP.sub [0] rfl) (hK.sub [1] rfl) (hD.sub [0] (by decide) rfl) hS (Nat.le_of_ble_eq_true rfl) (Nat.le_of_ble_eq_true rfl) dL_differenceSize_16
  · skip
    exact hw.elim

set_option maxHeartbeats 4000000 in
set_option maxRecDepth 100000 in
/-- the law: equalShare on a fresh object -/
theorem kL_equalShare (l : Launch) (hfl : l.stackTraces = false) (dC : Nat → ClassId) (dI : Nat → Nat → Nat) (h0 ma tm un unK co : Nat) (w wL wP wS d dL dP dS : Nat) (on onR onL onC onD op opR opL opC opD : Nat) (cI : ClassId) (gn gp : Nat → Int32) (o0 : Nat) (cO : ClassId) (sz : Nat) : gHi l yL_equalShare wsL_equalShare ({ frames := 7, cells := 1, slots := 6, locals := 106 } : Room) dC dI [.ref h0, .ref o0] [(h0, .inr (9, [.ref w, .ref d, .ref co, .ref un, .ref ma, .ref tm, .int 0, .int 0, .int 0])), (co, .inr (4, [.ref w, .ref d, .ref on, .ref op, .int 0])), (w, .inr (3, [.int 0, .int 0, .ref wL, .ref wP, .ref wS])), (d, .inr (3, [.int 0, .int 0, .ref dL, .ref dP, .ref dS])), (on, .inr (7, [.ref onR, .ref onL, .ref onC, .ref onD, .int 0])), (onL, .inl (cI, 20, .inl (fun _ => 0))), (onC, .inl (cI, 20, .inl gn)), (op, .inr (7, [.ref opR, .ref opL, .ref opC, .ref opD, .int 0])), (opL, .inl (cI, 20, .inl (fun _ => 0))), (opC, .inl (cI, 20, .inl gp)), (un, .inr (5, [.ref unK, .int 0])), (o0, .inl (cO, 1, .inr (.inr (.inr (.inl (fun _ => FP.dconst0))))))] [(cI, .int), (cO, .double)] sz (fun (r : Int32) (u : Nat → UInt64) => r = 1) (fun u => [(o0, .inl (cO, 1, .inr (.inr (.inr (.inl u)))))]) (fun u => [(cO, .double)]) := by
  refine oH_i (y := yL_equalShare) (cc := cL_equalShare) (maxL := 3) (by decide) rfl (Nat.le_of_ble_eq_true rfl) ?_
  intro p e s m args below meth c ls A Q hx hb hr hml hown hts hN hZ hA hin hlk hP hK hD hl hX htab ret
  have hS : va_S A s.heap s.heap [] := va_S.rf
  have hl : lv_has ls 3 [(0, .ref h0), (1, .ref o0)] := hl
  have hP : va_P (dC, dI) vwCl [(h0, .inr (9, [.ref w, .ref d, .ref co, .ref un, .ref ma, .ref tm, .int 0, .int 0, .int 0])), (co, .inr (4, [.ref w, .ref d, .ref on, .ref op, .int 0])), (w, .inr (3, [.int 0, .int 0, .ref wL, .ref wP, .ref wS])), (d, .inr (3, [.int 0, .int 0, .ref dL, .ref dP, .ref dS])), (on, .inr (7, [.ref onR, .ref onL, .ref onC, .ref onD, .int 0])), (onL, .inl (cI, 20, .inl (fun _ => 0))), (onC, .inl (cI, 20, .inl gn)), (op, .inr (7, [.ref opR, .ref opL, .ref opC, .ref opD, .int 0])), (opL, .inl (cI, 20, .inl (fun _ => 0))), (opC, .inl (cI, 20, .inl gp)), (un, .inr (5, [.ref unK, .int 0])), (o0, .inl (cO, 1, .inr (.inr (.inr (.inl (fun _ => FP.dconst0))))))] _ := hP
  have hD : va_D A [(h0, .inr (9, [.ref w, .ref d, .ref co, .ref un, .ref ma, .ref tm, .int 0, .int 0, .int 0])), (co, .inr (4, [.ref w, .ref d, .ref on, .ref op, .int 0])), (w, .inr (3, [.int 0, .int 0, .ref wL, .ref wP, .ref wS])), (d, .inr (3, [.int 0, .int 0, .ref dL, .ref dP, .ref dS])), (on, .inr (7, [.ref onR, .ref onL, .ref onC, .ref onD, .int 0])), (onL, .inl (cI, 20, .inl (fun _ => 0))), (onC, .inl (cI, 20, .inl gn)), (op, .inr (7, [.ref opR, .ref opL, .ref opC, .ref opD, .int 0])), (opL, .inl (cI, 20, .inl (fun _ => 0))), (opC, .inl (cI, 20, .inl gp)), (un, .inr (5, [.ref unK, .int 0])), (o0, .inl (cO, 1, .inr (.inr (.inr (.inl (fun _ => FP.dconst0))))))] := hD
  refine lv_aload_n hx hb dL_equalShare_0 rfl (lv_at hl 1 rfl) ?_
  refine lv_iconst (v := 0) hx hb dL_equalShare_1 (by decide) ?_
  refine lv_aload_n hx hb dL_equalShare_2 rfl (lv_at hl 0 rfl) ?_
  have hPc := hP.sub (ws' := [(h0, .inr (9, [.ref w, .ref d, .ref co, .ref un, .ref ma, .ref tm, .int 0, .int 0, .int 0])), (co, .inr (4, [.ref w, .ref d, .ref on, .ref op, .int 0])), (w, .inr (3, [.int 0, .int 0, .ref wL, .ref wP, .ref wS])), (d, .inr (3, [.int 0, .int 0, .ref dL, .ref dP, .ref dS])), (on, .inr (7, [.ref onR, .ref onL, .ref onC, .ref onD, .int 0])), (onL, .inl (cI, 20, .inl (fun _ => 0))), (onC, .inl (cI, 20, .inl gn)), (op, .inr (7, [.ref opR, .ref opL, .ref opC, .ref opD, .int 0])), (opL, .inl (cI, 20, .inl (fun _ => 0))), (opC, .inl (cI, 20, .inl gp)), (un, .inr (5, [.ref unK, .int 0]))]) [0, 1, 2, 3, 4, 5, 6, 7, 8, 9, 10] rfl
  have hDc := hD.sub (ws' := [(h0, .inr (9, [.ref w, .ref d, .ref co, .ref un, .ref ma, .ref tm, .int 0, .int 0, .int 0])), (co, .inr (4, [.ref w, .ref d, .ref on, .ref op, .int 0])), (w, .inr (3, [.int 0, .int 0, .ref wL, .ref wP, .ref wS])), (d, .inr (3, [.int 0, .int 0, .ref dL, .ref dP, .ref dS])), (on, .inr (7, [.ref onR, .ref onL, .ref onC, .ref onD, .int 0])), (onL, .inl (cI, 20, .inl (fun _ => 0))), (onC, .inl (cI, 20, .inl gn)), (op, .inr (7, [.ref opR, .ref opL, .ref opC, .ref opD, .int 0])), (opL, .inl (cI, 20, .inl (fun _ => 0))), (opC, .inl (cI, 20, .inl gp)), (un, .inr (5, [.ref unK, .int 0]))]) [0, 1, 2, 3, 4, 5, 6, 7, 8, 9, 10] (by decide) rfl
  have hKc := hK.sub (tys' := [(cI, .int)]) [0] rfl
  have hFc := va_free (wc := [(h0, .inr (9, [.ref w, .ref d, .ref co, .ref un, .ref ma, .ref tm, .int 0, .int 0, .int 0])), (co, .inr (4, [.ref w, .ref d, .ref on, .ref op, .int 0])), (w, .inr (3, [.int 0, .int 0, .ref wL, .ref wP, .ref wS])), (d, .inr (3, [.int 0, .int 0, .ref dL, .ref dP, .ref dS])), (on, .inr (7, [.ref onR, .ref onL, .ref onC, .ref onD, .int 0])), (onL, .inl (cI, 20, .inl (fun _ => 0))), (onC, .inl (cI, 20, .inl gn)), (op, .inr (7, [.ref opR, .ref opL, .ref opC, .ref opD, .int 0])), (opL, .inl (cI, 20, .inl (fun _ => 0))), (opC, .inl (cI, 20, .inl gp)), (un, .inr (5, [.ref unK, .int 0]))]) hD hS hA [0, 1, 2, 3, 4, 5, 6, 7, 8, 9, 10] rfl
  refine vx_callf (vx_runV (As := []) (rest := [.int 0, .ref o0]) ⟨hx, hb, hml, hown, hts⟩ (kX6_equalShare l hfl dC dI h0 ma tm un unK co w wL wP wS d dL dP dS on onR onL onC onD op opR opL opC opD cI gn gp s.heap.size) (cwV 0 hts gL_equalShare_X6_equalShare rfl rfl rfl (by decide +kernel) ⟨Nat.le_of_ble_eq_true rfl, Nat.le_of_ble_eq_true rfl⟩) (fPreV hN hZ hS (fun q h => hFc q h) hPc hKc hDc (ci := 9) (q0 := 0) rfl rfl) rfl rfl hl.1 rfl (lv_room (Nat.le_of_ble_eq_true rfl)) dL_equalShare_3 ⟨Nat.le_of_ble_eq_true rfl, Nat.le_of_ble_eq_true rfl⟩) hS (fun q _ h => hFc q h) hFc (fun q _ h => hFc q h) (fun E ce q9 u t H locs ht hvm hpx hE hz1 hk1 hS hq9 hv9 hc9 => ?_) (fun r u t H1 locs ht hvm hw hB hz1 hk1 hS => ?_)
  · skip
    obtain ⟨hP, hD⟩ := va_join (wr := [(o0, .inl (cO, 1, .inr (.inr (.inr (.inl (fun _ => FP.dconst0))))))]) (w1 := []) hP hD [0, 1, 2, 3, 4, 5, 6, 7, 8, 9, 10] [11] rfl rfl (by decide) (by decide) hk1 hFc (fun k q h => by simp at h) ⟨fun i j p q h => by simp at h, fun k q h => by simp at h⟩
    have hP : va_P (dC, dI) vwCl [(o0, .inl (cO, 1, .inr (.inr (.inr (.inl (fun _ => FP.dconst0))))))] _ := hP
    have hD : va_D A [(o0, .inl (cO, 1, .inr (.inr (.inr (.inl (fun _ => FP.dconst0))))))] := hD
    have hE9 := hE
    subst hE9
    refine vx_catch (name := "java/lang/ArithmeticException") hown [] { startPc := 0, endPc := 8, handlerPc := 11, catchType := 130 } [] (by rw [htab]; rfl) (fun z hz => by simp at hz) rfl (by decide) (hts (.classLink RL 130 "java/lang/ArithmeticException") (List.mem_cons_of_mem _ (List.mem_append_left _ (List.mem_append_left _ (List.mem_append_left _ (List.mem_append_left _ (List.mem_append_left _ (List.mem_append_left _ (List.mem_append_left _ (List.mem_append_left _ (List.mem_append_left _ (List.mem_of_getElem? (i := 0) rfl)))))))))))) (va_Nw.use rfl (hN.1 _ (List.mem_of_getElem? (i := 61) rfl))) hq9 hv9 hc9 ?_
    refine lv_astore_n (lv' := [(2, .ref q9), (0, .ref h0), (1, .ref o0)]) hx hb dL_equalShare_11 rfl hl (Nat.le_of_ble_eq_true rfl) rfl (fun ls hl => ?_)
    refine lv_iconst (v := 1) hx hb dL_equalShare_12 (by decide) ?_
    exact ret _ (fun _ => FP.dconst0) _ _ _ _ _ _ (rfl) (hP.sub [0] rfl) (hK.sub [1] rfl) (hD.sub [0] (by decide) rfl) hS (Nat.le_of_ble_eq_true rfl) (Nat.le_of_ble_eq_true rfl) dL_equalShare_13
  · skip
    exact hw.elim

set_option maxHeartbeats 4000000 in
set_option maxRecDepth 100000 in
/-- the law: meanDistance on a fresh object -/
theorem kL_meanDistance (l : Launch) (hfl : l.stackTraces = false) (dC : Nat → ClassId) (dI : Nat → Nat → Nat) (h0 w d co un ma tm : Nat) (wL wP wS dL dP dS : Nat) (o0 : Nat) (cO : ClassId) (p0 : Int32) (sz : Nat) : gHi l yL_meanDistance wsL_meanDistance ({ frames := 9, cells := 2, slots := 12, locals := 148 } : Room) dC dI [.ref h0, .int p0, .ref o0] [(h0, .inr (9, [.ref w, .ref d, .ref co, .ref un, .ref ma, .ref tm, .int 0, .int 0, .int 0])), (w, .inr (3, [.int 0, .int 0, .ref wL, .ref wP, .ref wS])), (d, .inr (3, [.int 0, .int 0, .ref dL, .ref dP, .ref dS])), (o0, .inl (cO, 1, .inr (.inr (.inr (.inl (fun _ => FP.dconst0))))))] [(cO, .double)] sz (fun (r : Int32) (u : Nat → UInt64) => r = 1 ∧ (¬ ((p0 = 0) ∨ (p0 = 1))) ∨ r = 2 ∧ ((p0 = 0) ∨ (p0 = 1))) (fun u => [(o0, .inl (cO, 1, .inr (.inr (.inr (.inl u)))))]) (fun u => [(cO, .double)]) := by
  refine oH_i (y := yL_meanDistance) (cc := cL_meanDistance) (maxL := 4) (by decide) rfl (Nat.le_of_ble_eq_true rfl) ?_
  intro p e s m args below meth c ls A Q hx hb hr hml hown hts hN hZ hA hin hlk hP hK hD hl hX htab ret
  have hS : va_S A s.heap s.heap [] := va_S.rf
  have hl : lv_has ls 4 [(0, .ref h0), (1, .int p0), (2, .ref o0)] := hl
  have hP : va_P (dC, dI) vwCl [(h0, .inr (9, [.ref w, .ref d, .ref co, .ref un, .ref ma, .ref tm, .int 0, .int 0, .int 0])), (w, .inr (3, [.int 0, .int 0, .ref wL, .ref wP, .ref wS])), (d, .inr (3, [.int 0, .int 0, .ref dL, .ref dP, .ref dS])), (o0, .inl (cO, 1, .inr (.inr (.inr (.inl (fun _ => FP.dconst0))))))] _ := hP
  have hD : va_D A [(h0, .inr (9, [.ref w, .ref d, .ref co, .ref un, .ref ma, .ref tm, .int 0, .int 0, .int 0])), (w, .inr (3, [.int 0, .int 0, .ref wL, .ref wP, .ref wS])), (d, .inr (3, [.int 0, .int 0, .ref dL, .ref dP, .ref dS])), (o0, .inl (cO, 1, .inr (.inr (.inr (.inl (fun _ => FP.dconst0))))))] := hD
  refine lv_aload_n hx hb dL_meanDistance_0 rfl (lv_at hl 2 rfl) ?_
  refine lv_iconst (v := 0) hx hb dL_meanDistance_1 (by decide) ?_
  refine lv_aload_n hx hb dL_meanDistance_2 rfl (lv_at hl 0 rfl) ?_
  refine lv_iload_n hx hb dL_meanDistance_3 rfl (lv_at hl 1 rfl) ?_
  have hPc := hP.sub (ws' := [(h0, .inr (9, [.ref w, .ref d, .ref co, .ref un, .ref ma, .ref tm, .int 0, .int 0, .int 0])), (w, .inr (3, [.int 0, .int 0, .ref wL, .ref wP, .ref wS])), (d, .inr (3, [.int 0, .int 0, .ref dL, .ref dP, .ref dS]))]) [0, 1, 2] rfl
  have hDc := hD.sub (ws' := [(h0, .inr (9, [.ref w, .ref d, .ref co, .ref un, .ref ma, .ref tm, .int 0, .int 0, .int 0])), (w, .inr (3, [.int 0, .int 0, .ref wL, .ref wP, .ref wS])), (d, .inr (3, [.int 0, .int 0, .ref dL, .ref dP, .ref dS]))]) [0, 1, 2] (by decide) rfl
  have hKc := hK.sub (tys' := []) [] rfl
  have hFc := va_free (wc := [(h0, .inr (9, [.ref w, .ref d, .ref co, .ref un, .ref ma, .ref tm, .int 0, .int 0, .int 0])), (w, .inr (3, [.int 0, .int 0, .ref wL, .ref wP, .ref wS])), (d, .inr (3, [.int 0, .int 0, .ref dL, .ref dP, .ref dS]))]) hD hS hA [0, 1, 2] rfl
  refine vx_calld (vx_runV (As := [.int p0]) (rest := [.int 0, .ref o0]) ⟨hx, hb, hml, hown, hts⟩ (kX6_meanDistance l hfl dC dI h0 w d co un ma tm wL wP wS dL dP dS p0 s.heap.size) (cwV 1 hts gL_meanDistance_X6_meanDistance rfl rfl rfl (by decide +kernel) ⟨Nat.le_of_ble_eq_true rfl, Nat.le_of_ble_eq_true rfl⟩) (fPreV hN hZ hS (fun q h => hFc q h) hPc hKc hDc (ci := 9) (q0 := 0) rfl rfl) rfl rfl hl.1 rfl (lv_room (Nat.le_of_ble_eq_true rfl)) dL_meanDistance_4 ⟨Nat.le_of_ble_eq_true rfl, Nat.le_of_ble_eq_true rfl⟩) hS (fun q _ h => hFc q h) hFc (fun q _ h => hFc q h) (fun E ce q9 u t H locs ht hvm hpx hE hz1 hk1 hS hq9 hv9 hc9 => ?_) (fun r u t H1 locs ht hvm hw hB hz1 hk1 hS => ?_)
  · skip
    obtain ⟨hP, hD⟩ := va_join (wr := [(o0, .inl (cO, 1, .inr (.inr (.inr (.inl (fun _ => FP.dconst0))))))]) (w1 := []) hP hD [0, 1, 2] [3] rfl rfl (by decide) (by decide) hk1 hFc (fun k q h => by simp at h) ⟨fun i j p q h => by simp at h, fun k q h => by simp at h⟩
    have hP : va_P (dC, dI) vwCl [(o0, .inl (cO, 1, .inr (.inr (.inr (.inl (fun _ => FP.dconst0))))))] _ := hP
    have hD : va_D A [(o0, .inl (cO, 1, .inr (.inr (.inr (.inl (fun _ => FP.dconst0))))))] := hD
    rcases hE with ⟨hE9, hq9f⟩ | ⟨hE9, hq9f⟩
    · skip
      subst hE9
      have hf1 := hq9f
      refine vx_catch (name := "java/lang/IllegalArgumentException") hown [] { startPc := 0, endPc := 8, handlerPc := 11, catchType := 13 } [{ startPc := 0, endPc := 8, handlerPc := 14, catchType := 130 }] (by rw [htab]; rfl) (fun z hz => by simp at hz) rfl (by decide) (hts (.classLink RL 13 "java/lang/IllegalArgumentException") (List.mem_cons_of_mem _ (List.mem_append_left _ (List.mem_append_left _ (List.mem_append_left _ (List.mem_append_left _ (List.mem_append_left _ (List.mem_append_left _ (List.mem_append_left _ (List.mem_of_getElem? (i := 0) rfl)))))))))) (va_Nw.use rfl (hN.1 _ (List.mem_of_getElem? (i := 50) rfl))) hq9 hv9 hc9 ?_
      refine lv_astore_n (lv' := [(3, .ref q9), (0, .ref h0), (1, .int p0), (2, .ref o0)]) hx hb dL_meanDistance_11 rfl hl (Nat.le_of_ble_eq_true rfl) rfl (fun ls hl => ?_)
      refine lv_iconst (v := 1) hx hb dL_meanDistance_12 (by decide) ?_
      exact ret _ (fun _ => FP.dconst0) _ _ _ _ _ _ (Or.inl (⟨rfl, hf1⟩)) (hP.sub [0] rfl) (hK.sub [0] rfl) (hD.sub [0] (by decide) rfl) hS (Nat.le_of_ble_eq_true rfl) (Nat.le_of_ble_eq_true rfl) dL_meanDistance_13
    · skip
      subst hE9
      have hf2 := hq9f
      refine vx_catch (name := "java/lang/ArithmeticException") hown [{ startPc := 0, endPc := 8, handlerPc := 11, catchType := 13 }] { startPc := 0, endPc := 8, handlerPc := 14, catchType := 130 } [] (by rw [htab]; rfl) (fun z hz => by rw [List.mem_singleton.mp hz]; exact Or.inr ⟨by decide, "java/lang/IllegalArgumentException", hts (.classLink RL 13 "java/lang/IllegalArgumentException") (List.mem_cons_of_mem _ (List.mem_append_left _ (List.mem_append_left _ (List.mem_append_left _ (List.mem_append_left _ (List.mem_append_left _ (List.mem_append_left _ (List.mem_append_left _ (List.mem_of_getElem? (i := 0) rfl))))))))), hX.2.2⟩) rfl (by decide) (hts (.classLink RL 130 "java/lang/ArithmeticException") (List.mem_cons_of_mem _ (List.mem_append_left _ (List.mem_append_left _ (List.mem_append_left _ (List.mem_append_left _ (List.mem_append_left _ (List.mem_append_left _ (List.mem_append_left _ (List.mem_of_getElem? (i := 1) rfl)))))))))) (va_Nw.use rfl (hN.1 _ (List.mem_of_getElem? (i := 61) rfl))) hq9 hv9 hc9 ?_
      refine lv_astore_n (lv' := [(3, .ref q9), (0, .ref h0), (1, .int p0), (2, .ref o0)]) hx hb dL_meanDistance_14 rfl hl (Nat.le_of_ble_eq_true rfl) rfl (fun ls hl => ?_)
      refine lv_iconst (v := 2) hx hb dL_meanDistance_15 (by decide) ?_
      exact ret _ (fun _ => FP.dconst0) _ _ _ _ _ _ (Or.inr (⟨rfl, hf2⟩)) (hP.sub [0] rfl) (hK.sub [0] rfl) (hD.sub [0] (by decide) rfl) hS (Nat.le_of_ble_eq_true rfl) (Nat.le_of_ble_eq_true rfl) dL_meanDistance_16
  · skip
    exact hw.elim

set_option maxHeartbeats 4000000 in
set_option maxRecDepth 100000 in
/-- the law: valueSum on a fresh object -/
theorem kL_valueSum (l : Launch) (hfl : l.stackTraces = false) (dC : Nat → ClassId) (dI : Nat → Nat → Nat) (h0 w d co un ma tm : Nat) (wL wP wS dL dP dS : Nat) (o0 : Nat) (cJ : ClassId) (p0 : Int32) (sz : Nat) : gHi l yL_valueSum wsL_valueSum ({ frames := 9, cells := 1, slots := 6, locals := 148 } : Room) dC dI [.ref h0, .int p0, .ref o0] [(h0, .inr (9, [.ref w, .ref d, .ref co, .ref un, .ref ma, .ref tm, .int 0, .int 0, .int 0])), (w, .inr (3, [.int 0, .int 0, .ref wL, .ref wP, .ref wS])), (d, .inr (3, [.int 0, .int 0, .ref dL, .ref dP, .ref dS])), (o0, .inl (cJ, 1, .inr (.inl (fun _ => 0))))] [(cJ, .long)] sz (fun (r : Int32) (u : Nat → Int64) => r = 0 ∧ u 0 = 0 ∧ ((p0 = 0) ∨ (p0 = 1)) ∨ r = 1 ∧ (¬ ((p0 = 0) ∨ (p0 = 1)))) (fun u => [(o0, .inl (cJ, 1, .inr (.inl u)))]) (fun u => [(cJ, .long)]) := by
  refine oH_i (y := yL_valueSum) (cc := cL_valueSum) (maxL := 4) (by decide) rfl (Nat.le_of_ble_eq_true rfl) ?_
  intro p e s m args below meth c ls A Q hx hb hr hml hown hts hN hZ hA hin hlk hP hK hD hl hX htab ret
  have hS : va_S A s.heap s.heap [] := va_S.rf
  have hl : lv_has ls 4 [(0, .ref h0), (1, .int p0), (2, .ref o0)] := hl
  have hP : va_P (dC, dI) vwCl [(h0, .inr (9, [.ref w, .ref d, .ref co, .ref un, .ref ma, .ref tm, .int 0, .int 0, .int 0])), (w, .inr (3, [.int 0, .int 0, .ref wL, .ref wP, .ref wS])), (d, .inr (3, [.int 0, .int 0, .ref dL, .ref dP, .ref dS])), (o0, .inl (cJ, 1, .inr (.inl (fun _ => 0))))] _ := hP
  have hD : va_D A [(h0, .inr (9, [.ref w, .ref d, .ref co, .ref un, .ref ma, .ref tm, .int 0, .int 0, .int 0])), (w, .inr (3, [.int 0, .int 0, .ref wL, .ref wP, .ref wS])), (d, .inr (3, [.int 0, .int 0, .ref dL, .ref dP, .ref dS])), (o0, .inl (cJ, 1, .inr (.inl (fun _ => 0))))] := hD
  refine lv_aload_n hx hb dL_valueSum_0 rfl (lv_at hl 2 rfl) ?_
  refine lv_iconst (v := 0) hx hb dL_valueSum_1 (by decide) ?_
  refine lv_aload_n hx hb dL_valueSum_2 rfl (lv_at hl 0 rfl) ?_
  refine lv_iload_n hx hb dL_valueSum_3 rfl (lv_at hl 1 rfl) ?_
  have hPc := hP.sub (ws' := [(h0, .inr (9, [.ref w, .ref d, .ref co, .ref un, .ref ma, .ref tm, .int 0, .int 0, .int 0])), (w, .inr (3, [.int 0, .int 0, .ref wL, .ref wP, .ref wS])), (d, .inr (3, [.int 0, .int 0, .ref dL, .ref dP, .ref dS]))]) [0, 1, 2] rfl
  have hDc := hD.sub (ws' := [(h0, .inr (9, [.ref w, .ref d, .ref co, .ref un, .ref ma, .ref tm, .int 0, .int 0, .int 0])), (w, .inr (3, [.int 0, .int 0, .ref wL, .ref wP, .ref wS])), (d, .inr (3, [.int 0, .int 0, .ref dL, .ref dP, .ref dS]))]) [0, 1, 2] (by decide) rfl
  have hKc := hK.sub (tys' := []) [] rfl
  have hFc := va_free (wc := [(h0, .inr (9, [.ref w, .ref d, .ref co, .ref un, .ref ma, .ref tm, .int 0, .int 0, .int 0])), (w, .inr (3, [.int 0, .int 0, .ref wL, .ref wP, .ref wS])), (d, .inr (3, [.int 0, .int 0, .ref dL, .ref dP, .ref dS]))]) hD hS hA [0, 1, 2] rfl
  refine vx_calll (vx_runV (As := [.int p0]) (rest := [.int 0, .ref o0]) ⟨hx, hb, hml, hown, hts⟩ (kX6_valueSum l hfl dC dI h0 w d co un ma tm wL wP wS dL dP dS p0 s.heap.size) (cwV 1 hts gL_valueSum_X6_valueSum rfl rfl rfl (by decide +kernel) ⟨Nat.le_of_ble_eq_true rfl, Nat.le_of_ble_eq_true rfl⟩) (fPreV hN hZ hS (fun q h => hFc q h) hPc hKc hDc (ci := 9) (q0 := 0) rfl rfl) rfl rfl hl.1 rfl (lv_room (Nat.le_of_ble_eq_true rfl)) dL_valueSum_4 ⟨Nat.le_of_ble_eq_true rfl, Nat.le_of_ble_eq_true rfl⟩) hS (fun q _ h => hFc q h) hFc (fun q _ h => hFc q h) (fun E ce q9 u t H locs ht hvm hpx hE hz1 hk1 hS hq9 hv9 hc9 => ?_) (fun r u t H1 locs ht hvm hw hB hz1 hk1 hS => ?_)
  · skip
    obtain ⟨hP, hD⟩ := va_join (wr := [(o0, .inl (cJ, 1, .inr (.inl (fun _ => 0))))]) (w1 := []) hP hD [0, 1, 2] [3] rfl rfl (by decide) (by decide) hk1 hFc (fun k q h => by simp at h) ⟨fun i j p q h => by simp at h, fun k q h => by simp at h⟩
    have hP : va_P (dC, dI) vwCl [(o0, .inl (cJ, 1, .inr (.inl (fun _ => 0))))] _ := hP
    have hD : va_D A [(o0, .inl (cJ, 1, .inr (.inl (fun _ => 0))))] := hD
    obtain ⟨hE9, hq9f⟩ := hE
    subst hE9
    have hf1 := hq9f
    refine vx_catch (name := "java/lang/IllegalArgumentException") hown [] { startPc := 0, endPc := 8, handlerPc := 11, catchType := 13 } [] (by rw [htab]; rfl) (fun z hz => by simp at hz) rfl (by decide) (hts (.classLink RL 13 "java/lang/IllegalArgumentException") (List.mem_cons_of_mem _ (List.mem_append_left _ (List.mem_append_left _ (List.mem_append_left _ (List.mem_append_left _ (List.mem_append_left _ (List.mem_of_getElem? (i := 0) rfl)))))))) (va_Nw.use rfl (hN.1 _ (List.mem_of_getElem? (i := 50) rfl))) hq9 hv9 hc9 ?_
    refine lv_astore_n (lv' := [(3, .ref q9), (0, .ref h0), (1, .int p0), (2, .ref o0)]) hx hb dL_valueSum_11 rfl hl (Nat.le_of_ble_eq_true rfl) rfl (fun ls hl => ?_)
    refine lv_iconst (v := 1) hx hb dL_valueSum_12 (by decide) ?_
    exact ret _ (fun _ => 0) _ _ _ _ _ _ (Or.inr (⟨rfl, hf1⟩)) (hP.sub [0] rfl) (hK.sub [0] rfl) (hD.sub [0] (by decide) rfl) hS (Nat.le_of_ble_eq_true rfl) (Nat.le_of_ble_eq_true rfl) dL_valueSum_13
  · skip
    obtain ⟨hP1, hK1, hD1⟩ := hB
    rw [ht] at hP1
    have hK1 := va_K.moved hvm.symm hK1
    obtain ⟨hP, hD⟩ := va_join (wr := [(o0, .inl (cJ, 1, .inr (.inl (fun _ => 0))))]) (w1 := []) hP hD [0, 1, 2] [3] rfl rfl (by decide) (by decide) hk1 hFc hP1 hD1
    generalize H1 = H at hP hS ⊢
    have hP : va_P (dC, dI) vwCl [(o0, .inl (cJ, 1, .inr (.inl (fun _ => 0))))] _ := hP
    have hD : va_D A [(o0, .inl (cJ, 1, .inr (.inl (fun _ => 0))))] := hD
    refine W.widen (k := 1) (n := 6) (Nat.le_of_ble_eq_true rfl) (Nat.le_of_ble_eq_true rfl) ?_
    obtain ⟨rfl, hr2⟩ := hw
    refine va_last hx hb hK hP hD hS 0 0 rfl rfl (show ¬ (_ ∨ _) by decide) dL_valueSum_7 (fun H locs hP hD hS => ?_)
    have hP : va_P (dC, dI) vwCl [(o0, .inl (cJ, 1, .inr (.inl (vp_updL (fun _ => 0) 0 0))))] _ := hP
    have hD : va_D A [(o0, .inl (cJ, 1, .inr (.inl (vp_updL (fun _ => 0) 0 0))))] := hD
    refine lv_goto (tgt := 14) hx hb dL_valueSum_8 (by decide) ?_
    refine lv_iconst (v := 0) hx hb dL_valueSum_14 (by decide) ?_
    exact ret _ (vp_updL (fun _ => 0) 0 0) _ _ _ _ _ _ (Or.inl (⟨rfl, rfl, hr2⟩)) (hP.sub [0] rfl) (hK.sub [0] rfl) (hD.sub [0] (by decide) rfl) hS (Nat.le_of_ble_eq_true rfl) (Nat.le_of_ble_eq_true rfl) dL_valueSum_15
