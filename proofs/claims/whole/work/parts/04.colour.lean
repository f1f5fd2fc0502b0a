theorem dX0_countParts_0 : decode cX0_countParts 0 = .ok (.iconst 0, 1) := by decide +kernel
theorem dX0_countParts_1 : decode cX0_countParts 1 = .ok (.istore_n 1, 1) := by decide +kernel
theorem dX0_countParts_2 : decode cX0_countParts 2 = .ok (.iconst 0, 1) := by decide +kernel
theorem dX0_countParts_3 : decode cX0_countParts 3 = .ok (.istore_n 2, 1) := by decide +kernel
theorem dX0_countParts_4 : decode cX0_countParts 4 = .ok (.iload_n 2, 1) := by decide +kernel
theorem dX0_countParts_5 : decode cX0_countParts 5 = .ok (.aload_n 0, 1) := by decide +kernel
theorem dX0_countParts_6 : decode cX0_countParts 6 = .ok (.getfield 30, 3) := by decide +kernel
theorem dX0_countParts_9 : decode cX0_countParts 9 = .ok (.if_icmp .ge 24, 3) := by decide +kernel
theorem dX0_countParts_33 : decode cX0_countParts 33 = .ok (.iload_n 1, 1) := by decide +kernel
theorem dX0_countParts_34 : decode cX0_countParts 34 = .ok (.ireturn, 1) := by decide +kernel
theorem dX0_measure_0 : decode cX0_measure 0 = .ok (.iconst 0, 1) := by decide +kernel
theorem dX0_measure_1 : decode cX0_measure 1 = .ok (.istore_n 1, 1) := by decide +kernel
theorem dX0_measure_2 : decode cX0_measure 2 = .ok (.iload_n 1, 1) := by decide +kernel
theorem dX0_measure_3 : decode cX0_measure 3 = .ok (.aload_n 0, 1) := by decide +kernel
theorem dX0_measure_4 : decode cX0_measure 4 = .ok (.getfield 26, 3) := by decide +kernel
theorem dX0_measure_7 : decode cX0_measure 7 = .ok (.if_icmp .ge 32, 3) := by decide +kernel
theorem dX0_measure_39 : decode cX0_measure 39 = .ok (.iconst 1, 1) := by decide +kernel
theorem dX0_measure_40 : decode cX0_measure 40 = .ok (.istore_n 1, 1) := by decide +kernel
theorem dX0_measure_41 : decode cX0_measure 41 = .ok (.iload_n 1, 1) := by decide +kernel
theorem dX0_measure_42 : decode cX0_measure 42 = .ok (.bipush 10, 2) := by decide +kernel
theorem dX0_measure_44 : decode cX0_measure 44 = .ok (.if_icmp .ge 64, 3) := by decide +kernel
theorem dX0_measure_47 : decode cX0_measure 47 = .ok (.iconst 0, 1) := by decide +kernel
theorem dX0_measure_48 : decode cX0_measure 48 = .ok (.istore_n 2, 1) := by decide +kernel
theorem dX0_measure_49 : decode cX0_measure 49 = .ok (.iload_n 2, 1) := by decide +kernel
theorem dX0_measure_50 : decode cX0_measure 50 = .ok (.aload_n 0, 1) := by decide +kernel
theorem dX0_measure_51 : decode cX0_measure 51 = .ok (.getfield 30, 3) := by decide +kernel
theorem dX0_measure_54 : decode cX0_measure 54 = .ok (.if_icmp .ge 48, 3) := by decide +kernel
theorem dX0_measure_102 : decode cX0_measure 102 = .ok (.iinc 1 1, 3) := by decide +kernel
theorem dX0_measure_105 : decode cX0_measure 105 = .ok (.goto (-64), 3) := by decide +kernel
theorem dX0_measure_108 : decode cX0_measure 108 = .ok (.return_, 1) := by decide +kernel
set_option maxRecDepth 20000 in
theorem ggX0_joinWhilePossible_X0_joinFirstPair : GoodIn wsX0_joinWhilePossible wsX0_joinFirstPair := goodIn_ca (goodIn_ca (goodIn_r _ [5, 6, 7, 8, 9, 4, 10, 11, 12, 13, 14, 15, 16, 17, 18, 19, 20, 21, 22, 23, 24, 25, 26, 27, 28, 29, 30, 31, 32, 33, 34, 35, 36, 37, 38, 39, 40, 41, 42, 43, 44, 45, 46, 47, 48, 49, 50, 51, 52, 53, 54, 55, 56, 57, 58, 59, 60, 61, 62, 63, 64, 65, 66, 67, 68, 69, 70, 71, 72, 73, 74] (by decide +kernel) (by decide +kernel)) (goodIn_sub (fun _ h => List.mem_cons_of_mem _ (List.mem_append_left _ (List.mem_append_right _ h))) (by decide +kernel))) (goodIn_sub (fun _ h => List.mem_cons_of_mem _ (List.mem_append_right _ h)) (by decide +kernel))
set_option maxRecDepth 20000 in
theorem gX0_joinWhilePossible_X0_joinFirstPair : GoodIn wsX0_joinWhilePossible (wsV RX0 102 RX0 yX0_joinFirstPair wsX0_joinFirstPair) := goodIn_app (goodIn_of _ (by decide +kernel)) ggX0_joinWhilePossible_X0_joinFirstPair
theorem dX0_joinWhilePossible_0 : decode cX0_joinWhilePossible 0 = .ok (.iconst 0, 1) := by decide +kernel
theorem dX0_joinWhilePossible_1 : decode cX0_joinWhilePossible 1 = .ok (.istore_n 1, 1) := by decide +kernel
theorem dX0_joinWhilePossible_2 : decode cX0_joinWhilePossible 2 = .ok (.iload_n 1, 1) := by decide +kernel
theorem dX0_joinWhilePossible_3 : decode cX0_joinWhilePossible 3 = .ok (.bipush 10, 2) := by decide +kernel
theorem dX0_joinWhilePossible_5 : decode cX0_joinWhilePossible 5 = .ok (.if_icmp .ge 16, 3) := by decide +kernel
theorem dX0_joinWhilePossible_8 : decode cX0_joinWhilePossible 8 = .ok (.aload_n 0, 1) := by decide +kernel
theorem dX0_joinWhilePossible_9 : decode cX0_joinWhilePossible 9 = .ok (.invokevirtual 102, 3) := by decide +kernel
theorem dX0_joinWhilePossible_12 : decode cX0_joinWhilePossible 12 = .ok (.ifCond .eq 9, 3) := by decide +kernel
theorem dX0_joinWhilePossible_21 : decode cX0_joinWhilePossible 21 = .ok (.iload_n 1, 1) := by decide +kernel
theorem dX0_joinWhilePossible_22 : decode cX0_joinWhilePossible 22 = .ok (.ireturn, 1) := by decide +kernel
theorem dX0_joinFirstPair_0 : decode cX0_joinFirstPair 0 = .ok (.iconst 0, 1) := by decide +kernel
theorem dX0_joinFirstPair_1 : decode cX0_joinFirstPair 1 = .ok (.istore_n 1, 1) := by decide +kernel
theorem dX0_joinFirstPair_2 : decode cX0_joinFirstPair 2 = .ok (.iload_n 1, 1) := by decide +kernel
theorem dX0_joinFirstPair_3 : decode cX0_joinFirstPair 3 = .ok (.aload_n 0, 1) := by decide +kernel
theorem dX0_joinFirstPair_4 : decode cX0_joinFirstPair 4 = .ok (.getfield 30, 3) := by decide +kernel
theorem dX0_joinFirstPair_7 : decode cX0_joinFirstPair 7 = .ok (.if_icmp .ge 63, 3) := by decide +kernel
theorem dX0_joinFirstPair_70 : decode cX0_joinFirstPair 70 = .ok (.iconst 0, 1) := by decide +kernel
theorem dX0_joinFirstPair_71 : decode cX0_joinFirstPair 71 = .ok (.ireturn, 1) := by decide +kernel
theorem dX1_countClasses_0 : decode cX1_countClasses 0 = .ok (.aload_n 0, 1) := by decide +kernel
theorem dX1_countClasses_1 : decode cX1_countClasses 1 = .ok (.getfield 12, 3) := by decide +kernel
theorem dX1_countClasses_4 : decode cX1_countClasses 4 = .ok (.getfield 28, 3) := by decide +kernel
theorem dX1_countClasses_7 : decode cX1_countClasses 7 = .ok (.aload_n 0, 1) := by decide +kernel
theorem dX1_countClasses_8 : decode cX1_countClasses 8 = .ok (.getfield 18, 3) := by decide +kernel
theorem dX1_countClasses_11 : decode cX1_countClasses 11 = .ok (.getfield 28, 3) := by decide +kernel
theorem dX1_countClasses_14 : decode cX1_countClasses 14 = .ok (.iadd, 1) := by decide +kernel
theorem dX1_countClasses_15 : decode cX1_countClasses 15 = .ok (.ireturn, 1) := by decide +kernel
set_option maxRecDepth 20000 in
theorem ggX1_refine_X1_startColours : GoodIn wsX1_refine wsX1_startColours := goodIn_ca (goodIn_r _ [6, 7, 8, 9, 10, 11, 12, 13, 14, 15, 16, 17, 18, 19, 5, 20, 21, 22, 23, 24, 25, 26, 27, 28, 29, 30, 31, 32, 33, 34, 35, 36, 37, 38, 39, 40, 41, 42, 43, 44, 45, 46, 47, 48, 49, 50, 51, 52, 53, 54, 55, 56, 57, 58, 59, 60, 61, 62, 63, 64, 65, 66, 67, 68, 69, 70, 71, 88, 89, 90, 91, 92, 93, 94, 95, 96, 97, 98, 99, 100, 101, 102, 103, 104, 105, 106, 107, 108] (by decide +kernel) (by decide +kernel)) (goodIn_sub (fun _ h => List.mem_cons_of_mem _ (List.mem_append_right _ h)) (by decide +kernel))
set_option maxRecDepth 20000 in
theorem gX1_refine_X1_startColours : GoodIn wsX1_refine (wsV RX1 32 RX1 yX1_startColours wsX1_startColours) := goodIn_app (goodIn_of _ (by decide +kernel)) ggX1_refine_X1_startColours
set_option maxRecDepth 20000 in
theorem ggX1_refine_X1_goRound : GoodIn wsX1_refine wsX1_goRound := goodIn_ca (goodIn_r _ [75, 7, 8, 9, 10, 76, 77, 78, 5, 79, 11, 12, 13, 14, 15, 16, 80, 81, 82, 83, 21, 22, 23, 24, 25, 26, 27, 28, 48, 37, 38, 39, 40, 41, 84, 85, 86, 87, 58, 59, 60, 61, 62, 63, 64, 65, 66, 67, 68, 69, 70, 71, 88, 89, 90, 91, 92, 93, 94, 95, 96, 97, 98, 99, 100, 101, 102, 103, 104, 105, 106, 107, 108] (by decide +kernel) (by decide +kernel)) (goodIn_sub (fun _ h => List.mem_cons_of_mem _ (List.mem_append_right _ h)) (by decide +kernel))
set_option maxRecDepth 20000 in
theorem gX1_refine_X1_goRound : GoodIn wsX1_refine (wsV RX1 38 RX1 yX1_goRound wsX1_goRound) := goodIn_app (goodIn_of _ (by decide +kernel)) ggX1_refine_X1_goRound
theorem dX1_refine_0 : decode cX1_refine 0 = .ok (.aload_n 0, 1) := by decide +kernel
theorem dX1_refine_1 : decode cX1_refine 1 = .ok (.invokevirtual 32, 3) := by decide +kernel
theorem dX1_refine_4 : decode cX1_refine 4 = .ok (.aload_n 0, 1) := by decide +kernel
theorem dX1_refine_5 : decode cX1_refine 5 = .ok (.iconst 0, 1) := by decide +kernel
theorem dX1_refine_6 : decode cX1_refine 6 = .ok (.putfield 35, 3) := by decide +kernel
theorem dX1_refine_9 : decode cX1_refine 9 = .ok (.aload_n 0, 1) := by decide +kernel
theorem dX1_refine_10 : decode cX1_refine 10 = .ok (.getfield 35, 3) := by decide +kernel
theorem dX1_refine_13 : decode cX1_refine 13 = .ok (.bipush 40, 2) := by decide +kernel
theorem dX1_refine_15 : decode cX1_refine 15 = .ok (.if_icmp .ge 23, 3) := by decide +kernel
theorem dX1_refine_18 : decode cX1_refine 18 = .ok (.aload_n 0, 1) := by decide +kernel
theorem dX1_refine_19 : decode cX1_refine 19 = .ok (.invokevirtual 38, 3) := by decide +kernel
theorem dX1_refine_22 : decode cX1_refine 22 = .ok (.ifCond .eq 16, 3) := by decide +kernel
theorem dX1_refine_38 : decode cX1_refine 38 = .ok (.return_, 1) := by decide +kernel
set_option maxRecDepth 20000 in
theorem ggX1_startColours_X4_startRows : GoodIn wsX1_startColours wsX4_startRows := goodIn_ca (goodIn_r _ [9, 10, 72, 73, 74, 75, 76] (by decide +kernel) (by decide +kernel)) (goodIn_sub (fun _ h => List.mem_cons_of_mem _ (List.mem_append_right _ h)) (by decide +kernel))
set_option maxRecDepth 20000 in
theorem gX1_startColours_X4_startRows : GoodIn wsX1_startColours (wsV RX1 42 RX4 yX4_startRows wsX4_startRows) := goodIn_app (goodIn_of _ (by decide +kernel)) ggX1_startColours_X4_startRows
set_option maxRecDepth 20000 in
theorem ggX1_startColours_X1_writeFirstRows : GoodIn wsX1_startColours wsX1_writeFirstRows := goodIn_ca (goodIn_r _ [15, 1, 2, 16, 17, 18, 19, 20, 21, 8, 22, 10, 23, 24, 25, 26, 27, 28, 29, 30, 31, 32, 33, 34, 35, 36, 37, 38, 39, 40, 41, 42, 43, 44, 45, 46, 47, 48, 49, 50, 51, 52, 77, 78, 79, 80, 81, 67, 68, 69, 70, 71, 72, 73, 74, 75, 76, 82, 83, 84, 85, 86, 87] (by decide +kernel) (by decide +kernel)) (goodIn_sub (fun _ h => List.mem_cons_of_mem _ (List.mem_append_right _ h)) (by decide +kernel))
set_option maxRecDepth 20000 in
theorem gX1_startColours_X1_writeFirstRows : GoodIn wsX1_startColours (wsV RX1 45 RX1 yX1_writeFirstRows wsX1_writeFirstRows) := goodIn_app (goodIn_of _ (by decide +kernel)) ggX1_startColours_X1_writeFirstRows
set_option maxRecDepth 20000 in
theorem ggX1_startColours_X4_colourByRows : GoodIn wsX1_startColours wsX4_colourByRows := goodIn_ca (goodIn_r _ [56, 57, 10, 58, 59, 60, 61, 8, 62, 63, 64, 65, 66, 23, 72, 73, 74, 75, 76] (by decide +kernel) (by decide +kernel)) (goodIn_sub (fun _ h => List.mem_cons_of_mem _ (List.mem_append_right _ h)) (by decide +kernel))
set_option maxRecDepth 20000 in
theorem gX1_startColours_X4_colourByRows : GoodIn wsX1_startColours (wsV RX1 49 RX4 yX4_colourByRows wsX4_colourByRows) := goodIn_app (goodIn_of _ (by decide +kernel)) ggX1_startColours_X4_colourByRows
theorem dX1_startColours_0 : decode cX1_startColours 0 = .ok (.aload_n 0, 1) := by decide +kernel
theorem dX1_startColours_1 : decode cX1_startColours 1 = .ok (.getfield 12, 3) := by decide +kernel
theorem dX1_startColours_4 : decode cX1_startColours 4 = .ok (.invokevirtual 42, 3) := by decide +kernel
theorem dX1_startColours_7 : decode cX1_startColours 7 = .ok (.aload_n 0, 1) := by decide +kernel
theorem dX1_startColours_8 : decode cX1_startColours 8 = .ok (.getfield 18, 3) := by decide +kernel
theorem dX1_startColours_11 : decode cX1_startColours 11 = .ok (.invokevirtual 42, 3) := by decide +kernel
theorem dX1_startColours_14 : decode cX1_startColours 14 = .ok (.aload_n 0, 1) := by decide +kernel
theorem dX1_startColours_15 : decode cX1_startColours 15 = .ok (.aload_n 0, 1) := by decide +kernel
theorem dX1_startColours_16 : decode cX1_startColours 16 = .ok (.getfield 21, 3) := by decide +kernel
theorem dX1_startColours_19 : decode cX1_startColours 19 = .ok (.iconst 0, 1) := by decide +kernel
theorem dX1_startColours_20 : decode cX1_startColours 20 = .ok (.invokevirtual 45, 3) := by decide +kernel
theorem dX1_startColours_23 : decode cX1_startColours 23 = .ok (.aload_n 0, 1) := by decide +kernel
theorem dX1_startColours_24 : decode cX1_startColours 24 = .ok (.aload_n 0, 1) := by decide +kernel
theorem dX1_startColours_25 : decode cX1_startColours 25 = .ok (.getfield 25, 3) := by decide +kernel
theorem dX1_startColours_28 : decode cX1_startColours 28 = .ok (.iconst 1, 1) := by decide +kernel
theorem dX1_startColours_29 : decode cX1_startColours 29 = .ok (.invokevirtual 45, 3) := by decide +kernel
theorem dX1_startColours_32 : decode cX1_startColours 32 = .ok (.aload_n 0, 1) := by decide +kernel
theorem dX1_startColours_33 : decode cX1_startColours 33 = .ok (.getfield 12, 3) := by decide +kernel
theorem dX1_startColours_36 : decode cX1_startColours 36 = .ok (.invokevirtual 49, 3) := by decide +kernel
theorem dX1_startColours_39 : decode cX1_startColours 39 = .ok (.aload_n 0, 1) := by decide +kernel
theorem dX1_startColours_40 : decode cX1_startColours 40 = .ok (.getfield 18, 3) := by decide +kernel
theorem dX1_startColours_43 : decode cX1_startColours 43 = .ok (.invokevirtual 49, 3) := by decide +kernel
theorem dX1_startColours_46 : decode cX1_startColours 46 = .ok (.return_, 1) := by decide +kernel
theorem dX1_writeFirstRows_0 : decode cX1_writeFirstRows 0 = .ok (.iconst 0, 1) := by decide +kernel
theorem dX1_writeFirstRows_1 : decode cX1_writeFirstRows 1 = .ok (.istore_n 3, 1) := by decide +kernel
theorem dX1_writeFirstRows_2 : decode cX1_writeFirstRows 2 = .ok (.iload_n 3, 1) := by decide +kernel
theorem dX1_writeFirstRows_3 : decode cX1_writeFirstRows 3 = .ok (.aload_n 1, 1) := by decide +kernel
theorem dX1_writeFirstRows_4 : decode cX1_writeFirstRows 4 = .ok (.getfield 52, 3) := by decide +kernel
theorem dX1_writeFirstRows_7 : decode cX1_writeFirstRows 7 = .ok (.if_icmp .ge 63, 3) := by decide +kernel
theorem dX1_writeFirstRows_70 : decode cX1_writeFirstRows 70 = .ok (.iconst 0, 1) := by decide +kernel
theorem dX1_writeFirstRows_71 : decode cX1_writeFirstRows 71 = .ok (.istore_n 3, 1) := by decide +kernel
theorem dX1_writeFirstRows_72 : decode cX1_writeFirstRows 72 = .ok (.iload_n 3, 1) := by decide +kernel
theorem dX1_writeFirstRows_73 : decode cX1_writeFirstRows 73 = .ok (.aload_n 1, 1) := by decide +kernel
theorem dX1_writeFirstRows_74 : decode cX1_writeFirstRows 74 = .ok (.getfield 80, 3) := by decide +kernel
theorem dX1_writeFirstRows_77 : decode cX1_writeFirstRows 77 = .ok (.if_icmp .ge 78, 3) := by decide +kernel
theorem dX1_writeFirstRows_155 : decode cX1_writeFirstRows 155 = .ok (.return_, 1) := by decide +kernel
set_option maxRecDepth 20000 in
theorem ggX1_goRound_X1_countClasses : GoodIn wsX1_goRound wsX1_countClasses := goodIn_r _ [9, 1, 2, 52, 53, 54, 55, 56, 57, 58, 59, 60, 61] (by decide +kernel) (by decide +kernel)
set_option maxRecDepth 20000 in
theorem gX1_goRound_X1_countClasses : GoodIn wsX1_goRound (wsV RX1 103 RX1 yX1_countClasses wsX1_countClasses) := goodIn_app (goodIn_of _ (by decide +kernel)) ggX1_goRound_X1_countClasses
set_option maxRecDepth 20000 in
theorem ggX1_goRound_X4_startRows : GoodIn wsX1_goRound wsX4_startRows := goodIn_ca (goodIn_r _ [14, 15, 57, 58, 59, 60, 61] (by decide +kernel) (by decide +kernel)) (goodIn_sub (fun _ h => List.mem_cons_of_mem _ (List.mem_append_right _ h)) (by decide +kernel))
set_option maxRecDepth 20000 in
theorem gX1_goRound_X4_startRows : GoodIn wsX1_goRound (wsV RX1 42 RX4 yX4_startRows wsX4_startRows) := goodIn_app (goodIn_of _ (by decide +kernel)) ggX1_goRound_X4_startRows
set_option maxRecDepth 20000 in
theorem ggX1_goRound_X1_writeRows : GoodIn wsX1_goRound wsX1_writeRows := goodIn_ca (goodIn_r _ [19, 1, 20, 21, 22, 23, 24, 25, 13, 26, 15, 27, 28, 29, 30, 31, 32, 33, 34, 35, 36, 8, 37, 2, 62, 63, 64, 65, 66, 52, 53, 54, 55, 56, 57, 58, 59, 60, 61, 67, 68, 69, 70, 71, 72] (by decide +kernel) (by decide +kernel)) (goodIn_sub (fun _ h => List.mem_cons_of_mem _ (List.mem_append_right _ h)) (by decide +kernel))
set_option maxRecDepth 20000 in
theorem gX1_goRound_X1_writeRows : GoodIn wsX1_goRound (wsV RX1 107 RX1 yX1_writeRows wsX1_writeRows) := goodIn_app (goodIn_of _ (by decide +kernel)) ggX1_goRound_X1_writeRows
set_option maxRecDepth 20000 in
theorem ggX1_goRound_X4_colourByRows : GoodIn wsX1_goRound wsX4_colourByRows := goodIn_ca (goodIn_r _ [41, 42, 15, 43, 44, 45, 46, 13, 47, 48, 49, 50, 51, 27, 57, 58, 59, 60, 61] (by decide +kernel) (by decide +kernel)) (goodIn_sub (fun _ h => List.mem_cons_of_mem _ (List.mem_append_right _ h)) (by decide +kernel))
set_option maxRecDepth 20000 in
theorem gX1_goRound_X4_colourByRows : GoodIn wsX1_goRound (wsV RX1 49 RX4 yX4_colourByRows wsX4_colourByRows) := goodIn_app (goodIn_of _ (by decide +kernel)) ggX1_goRound_X4_colourByRows
theorem dX1_goRound_0 : decode cX1_goRound 0 = .ok (.aload_n 0, 1) := by decide +kernel
theorem dX1_goRound_1 : decode cX1_goRound 1 = .ok (.invokevirtual 103, 3) := by decide +kernel
theorem dX1_goRound_4 : decode cX1_goRound 4 = .ok (.istore_n 1, 1) := by decide +kernel
theorem dX1_goRound_5 : decode cX1_goRound 5 = .ok (.aload_n 0, 1) := by decide +kernel
theorem dX1_goRound_6 : decode cX1_goRound 6 = .ok (.getfield 12, 3) := by decide +kernel
theorem dX1_goRound_9 : decode cX1_goRound 9 = .ok (.invokevirtual 42, 3) := by decide +kernel
theorem dX1_goRound_12 : decode cX1_goRound 12 = .ok (.aload_n 0, 1) := by decide +kernel
theorem dX1_goRound_13 : decode cX1_goRound 13 = .ok (.getfield 18, 3) := by decide +kernel
theorem dX1_goRound_16 : decode cX1_goRound 16 = .ok (.invokevirtual 42, 3) := by decide +kernel
theorem dX1_goRound_19 : decode cX1_goRound 19 = .ok (.aload_n 0, 1) := by decide +kernel
theorem dX1_goRound_20 : decode cX1_goRound 20 = .ok (.aload_n 0, 1) := by decide +kernel
theorem dX1_goRound_21 : decode cX1_goRound 21 = .ok (.getfield 21, 3) := by decide +kernel
theorem dX1_goRound_24 : decode cX1_goRound 24 = .ok (.iconst 0, 1) := by decide +kernel
theorem dX1_goRound_25 : decode cX1_goRound 25 = .ok (.invokevirtual 107, 3) := by decide +kernel
theorem dX1_goRound_28 : decode cX1_goRound 28 = .ok (.aload_n 0, 1) := by decide +kernel
theorem dX1_goRound_29 : decode cX1_goRound 29 = .ok (.aload_n 0, 1) := by decide +kernel
theorem dX1_goRound_30 : decode cX1_goRound 30 = .ok (.getfield 25, 3) := by decide +kernel
theorem dX1_goRound_33 : decode cX1_goRound 33 = .ok (.iconst 1, 1) := by decide +kernel
theorem dX1_goRound_34 : decode cX1_goRound 34 = .ok (.invokevirtual 107, 3) := by decide +kernel
theorem dX1_goRound_37 : decode cX1_goRound 37 = .ok (.aload_n 0, 1) := by decide +kernel
theorem dX1_goRound_38 : decode cX1_goRound 38 = .ok (.getfield 12, 3) := by decide +kernel
theorem dX1_goRound_41 : decode cX1_goRound 41 = .ok (.invokevirtual 49, 3) := by decide +kernel
theorem dX1_goRound_44 : decode cX1_goRound 44 = .ok (.aload_n 0, 1) := by decide +kernel
theorem dX1_goRound_45 : decode cX1_goRound 45 = .ok (.getfield 18, 3) := by decide +kernel
theorem dX1_goRound_48 : decode cX1_goRound 48 = .ok (.invokevirtual 49, 3) := by decide +kernel
theorem dX1_goRound_51 : decode cX1_goRound 51 = .ok (.aload_n 0, 1) := by decide +kernel
theorem dX1_goRound_52 : decode cX1_goRound 52 = .ok (.invokevirtual 103, 3) := by decide +kernel
theorem dX1_goRound_55 : decode cX1_goRound 55 = .ok (.iload_n 1, 1) := by decide +kernel
theorem dX1_goRound_56 : decode cX1_goRound 56 = .ok (.if_icmp .le 7, 3) := by decide +kernel
theorem dX1_goRound_63 : decode cX1_goRound 63 = .ok (.iconst 0, 1) := by decide +kernel
theorem dX1_goRound_64 : decode cX1_goRound 64 = .ok (.ireturn, 1) := by decide +kernel
theorem dX1_writeRows_0 : decode cX1_writeRows 0 = .ok (.iconst 0, 1) := by decide +kernel
theorem dX1_writeRows_1 : decode cX1_writeRows 1 = .ok (.istore_n 3, 1) := by decide +kernel
theorem dX1_writeRows_2 : decode cX1_writeRows 2 = .ok (.iload_n 3, 1) := by decide +kernel
theorem dX1_writeRows_3 : decode cX1_writeRows 3 = .ok (.aload_n 1, 1) := by decide +kernel
theorem dX1_writeRows_4 : decode cX1_writeRows 4 = .ok (.getfield 52, 3) := by decide +kernel
theorem dX1_writeRows_7 : decode cX1_writeRows 7 = .ok (.if_icmp .ge 36, 3) := by decide +kernel
theorem dX1_writeRows_43 : decode cX1_writeRows 43 = .ok (.iconst 0, 1) := by decide +kernel
theorem dX1_writeRows_44 : decode cX1_writeRows 44 = .ok (.istore_n 3, 1) := by decide +kernel
theorem dX1_writeRows_45 : decode cX1_writeRows 45 = .ok (.iload_n 3, 1) := by decide +kernel
theorem dX1_writeRows_46 : decode cX1_writeRows 46 = .ok (.aload_n 1, 1) := by decide +kernel
theorem dX1_writeRows_47 : decode cX1_writeRows 47 = .ok (.getfield 80, 3) := by decide +kernel
theorem dX1_writeRows_50 : decode cX1_writeRows 50 = .ok (.if_icmp .ge 37, 3) := by decide +kernel
theorem dX1_writeRows_87 : decode cX1_writeRows 87 = .ok (.return_, 1) := by decide +kernel
set_option maxRecDepth 20000 in
theorem ggX2_collect_X2_collectFrom : GoodIn wsX2_collect wsX2_collectFrom := goodIn_ca (goodIn_r _ [6, 7, 8, 9, 10, 11, 12, 13, 14, 15, 16, 17, 18, 19, 20, 21, 22, 23, 24, 25, 26, 27, 28, 29, 30, 31, 5, 32, 1, 33, 41, 42, 43, 44, 45, 34, 35] (by decide +kernel) (by decide +kernel)) (goodIn_sub (fun _ h => List.mem_cons_of_mem _ (List.mem_append_right _ h)) (by decide +kernel))
set_option maxRecDepth 20000 in
theorem gX2_collect_X2_collectFrom : GoodIn wsX2_collect (wsV RX2 25 RX2 yX2_collectFrom wsX2_collectFrom) := goodIn_app (goodIn_of _ (by decide +kernel)) ggX2_collect_X2_collectFrom
theorem dX2_collect_0 : decode cX2_collect 0 = .ok (.aload_n 0, 1) := by decide +kernel
theorem dX2_collect_1 : decode cX2_collect 1 = .ok (.iconst 0, 1) := by decide +kernel
theorem dX2_collect_2 : decode cX2_collect 2 = .ok (.putfield 15, 3) := by decide +kernel
theorem dX2_collect_5 : decode cX2_collect 5 = .ok (.aload_n 0, 1) := by decide +kernel
theorem dX2_collect_6 : decode cX2_collect 6 = .ok (.aload_n 1, 1) := by decide +kernel
theorem dX2_collect_7 : decode cX2_collect 7 = .ok (.getfield 19, 3) := by decide +kernel
theorem dX2_collect_10 : decode cX2_collect 10 = .ok (.iconst 0, 1) := by decide +kernel
theorem dX2_collect_11 : decode cX2_collect 11 = .ok (.invokevirtual 25, 3) := by decide +kernel
theorem dX2_collect_14 : decode cX2_collect 14 = .ok (.aload_n 0, 1) := by decide +kernel
theorem dX2_collect_15 : decode cX2_collect 15 = .ok (.aload_n 1, 1) := by decide +kernel
theorem dX2_collect_16 : decode cX2_collect 16 = .ok (.getfield 29, 3) := by decide +kernel
theorem dX2_collect_19 : decode cX2_collect 19 = .ok (.sipush 200, 3) := by decide +kernel
theorem dX2_collect_22 : decode cX2_collect 22 = .ok (.invokevirtual 25, 3) := by decide +kernel
theorem dX2_collect_25 : decode cX2_collect 25 = .ok (.return_, 1) := by decide +kernel
theorem dX2_collectFrom_0 : decode cX2_collectFrom 0 = .ok (.iconst 0, 1) := by decide +kernel
theorem dX2_collectFrom_1 : decode cX2_collectFrom 1 = .ok (.istore_n 3, 1) := by decide +kernel
theorem dX2_collectFrom_2 : decode cX2_collectFrom 2 = .ok (.iload_n 3, 1) := by decide +kernel
theorem dX2_collectFrom_3 : decode cX2_collectFrom 3 = .ok (.aload_n 1, 1) := by decide +kernel
theorem dX2_collectFrom_4 : decode cX2_collectFrom 4 = .ok (.getfield 32, 3) := by decide +kernel
theorem dX2_collectFrom_7 : decode cX2_collectFrom 7 = .ok (.if_icmp .ge 71, 3) := by decide +kernel
theorem dX2_collectFrom_78 : decode cX2_collectFrom 78 = .ok (.return_, 1) := by decide +kernel
theorem dX4_startRows_0 : decode cX4_startRows 0 = .ok (.iconst 0, 1) := by decide +kernel
theorem dX4_startRows_1 : decode cX4_startRows 1 = .ok (.istore_n 1, 1) := by decide +kernel
theorem dX4_startRows_2 : decode cX4_startRows 2 = .ok (.iload_n 1, 1) := by decide +kernel
theorem dX4_startRows_3 : decode cX4_startRows 3 = .ok (.bipush 20, 2) := by decide +kernel
theorem dX4_startRows_5 : decode cX4_startRows 5 = .ok (.if_icmp .ge 16, 3) := by decide +kernel
theorem dX4_startRows_8 : decode cX4_startRows 8 = .ok (.aload_n 0, 1) := by decide +kernel
theorem dX4_startRows_9 : decode cX4_startRows 9 = .ok (.getfield 16, 3) := by decide +kernel
theorem dX4_startRows_12 : decode cX4_startRows 12 = .ok (.iload_n 1, 1) := by decide +kernel
theorem dX4_startRows_13 : decode cX4_startRows 13 = .ok (.iconst 0, 1) := by decide +kernel
theorem dX4_startRows_14 : decode cX4_startRows 14 = .ok (.iastore, 1) := by decide +kernel
theorem dX4_startRows_15 : decode cX4_startRows 15 = .ok (.iinc 1 1, 3) := by decide +kernel
theorem dX4_startRows_18 : decode cX4_startRows 18 = .ok (.goto (-16), 3) := by decide +kernel
theorem dX4_startRows_21 : decode cX4_startRows 21 = .ok (.return_, 1) := by decide +kernel
theorem dX4_colourByRows_0 : decode cX4_colourByRows 0 = .ok (.aload_n 0, 1) := by decide +kernel
theorem dX4_colourByRows_1 : decode cX4_colourByRows 1 = .ok (.iconst 0, 1) := by decide +kernel
theorem dX4_colourByRows_2 : decode cX4_colourByRows 2 = .ok (.putfield 26, 3) := by decide +kernel
theorem dX4_colourByRows_5 : decode cX4_colourByRows 5 = .ok (.iconst 0, 1) := by decide +kernel
theorem dX4_colourByRows_6 : decode cX4_colourByRows 6 = .ok (.istore_n 1, 1) := by decide +kernel
theorem dX4_colourByRows_7 : decode cX4_colourByRows 7 = .ok (.iload_n 1, 1) := by decide +kernel
theorem dX4_colourByRows_8 : decode cX4_colourByRows 8 = .ok (.bipush 20, 2) := by decide +kernel
theorem dX4_colourByRows_10 : decode cX4_colourByRows 10 = .ok (.if_icmp .ge 65, 3) := by decide +kernel
theorem dX4_colourByRows_13 : decode cX4_colourByRows 13 = .ok (.aload_n 0, 1) := by decide +kernel
theorem dX4_colourByRows_14 : decode cX4_colourByRows 14 = .ok (.getfield 16, 3) := by decide +kernel
theorem dX4_colourByRows_17 : decode cX4_colourByRows 17 = .ok (.iload_n 1, 1) := by decide +kernel
theorem dX4_colourByRows_18 : decode cX4_colourByRows 18 = .ok (.iaload, 1) := by decide +kernel
theorem dX4_colourByRows_19 : decode cX4_colourByRows 19 = .ok (.ifCond .ne 13, 3) := by decide +kernel
theorem dX4_colourByRows_22 : decode cX4_colourByRows 22 = .ok (.aload_n 0, 1) := by decide +kernel
theorem dX4_colourByRows_23 : decode cX4_colourByRows 23 = .ok (.getfield 20, 3) := by decide +kernel
theorem dX4_colourByRows_26 : decode cX4_colourByRows 26 = .ok (.iload_n 1, 1) := by decide +kernel
theorem dX4_colourByRows_27 : decode cX4_colourByRows 27 = .ok (.iconst (-1), 1) := by decide +kernel
theorem dX4_colourByRows_28 : decode cX4_colourByRows 28 = .ok (.iastore, 1) := by decide +kernel
theorem dX4_colourByRows_29 : decode cX4_colourByRows 29 = .ok (.goto 40, 3) := by decide +kernel
theorem dX4_colourByRows_69 : decode cX4_colourByRows 69 = .ok (.iinc 1 1, 3) := by decide +kernel
theorem dX4_colourByRows_72 : decode cX4_colourByRows 72 = .ok (.goto (-65), 3) := by decide +kernel
theorem dX4_colourByRows_75 : decode cX4_colourByRows 75 = .ok (.return_, 1) := by decide +kernel
set_option maxRecDepth 20000 in
theorem ggX6_colour_X0_measure : GoodIn wsX6_colour wsX0_measure := goodIn_ca (goodIn_r _ [10, 11, 12, 13, 14, 15, 16, 17, 18, 19, 20, 21, 22, 23, 24, 9, 25, 26, 27, 28, 29, 30, 31, 32, 33, 146, 147, 148, 149, 150, 151, 152, 153, 154, 155, 156] (by decide +kernel) (by decide +kernel)) (goodIn_sub (fun _ h => List.mem_cons_of_mem _ (List.mem_append_right _ h)) (by decide +kernel))
set_option maxRecDepth 20000 in
theorem gX6_colour_X0_measure : GoodIn wsX6_colour (wsV RX6 179 RX0 yX0_measure wsX0_measure) := goodIn_app (goodIn_of _ (by decide +kernel)) ggX6_colour_X0_measure
set_option maxRecDepth 20000 in
theorem ggX6_colour_X1_refine : GoodIn wsX6_colour wsX1_refine := goodIn_ca (goodIn_r _ [38, 39, 40, 41, 42, 37, 43, 44, 45, 46, 47, 48, 49, 50, 51, 52, 53, 54, 55, 56, 57, 58, 59, 60, 61, 62, 63, 64, 65, 66, 67, 68, 9, 69, 14, 15, 16, 17, 18, 19, 20, 21, 70, 71, 72, 73, 74, 75, 76, 77, 23, 24, 25, 12, 26, 27, 28, 29, 78, 79, 80, 81, 82, 83, 84, 85, 86, 87, 88, 89, 90, 91, 92, 93, 94, 95, 96, 97, 98, 99, 100, 101, 102, 103, 104, 105, 106, 107, 157, 158, 159, 160, 161, 162, 163, 164, 165, 166, 146, 147, 148, 149, 150, 151, 152, 153, 154, 155, 156] (by decide +kernel) (by decide +kernel)) (goodIn_sub (fun _ h => List.mem_cons_of_mem _ (List.mem_append_right _ h)) (by decide +kernel))
set_option maxRecDepth 20000 in
theorem gX6_colour_X1_refine : GoodIn wsX6_colour (wsV RX6 317 RX1 yX1_refine wsX1_refine) := goodIn_app (goodIn_of _ (by decide +kernel)) ggX6_colour_X1_refine
set_option maxRecDepth 20000 in
theorem ggX6_colour_X2_collect : GoodIn wsX6_colour wsX2_collect := goodIn_ca (goodIn_r _ [112, 113, 114, 115, 116, 111, 117, 118, 119, 120, 51, 121, 83, 58, 59, 60, 122, 123, 124, 125, 126, 127, 128, 129, 130, 131, 27, 28, 29, 132, 133, 134, 135, 136, 167, 168, 157, 158, 159, 160, 161, 162, 163, 164, 165, 166] (by decide +kernel) (by decide +kernel)) (goodIn_sub (fun _ h => List.mem_cons_of_mem _ (List.mem_append_right _ h)) (by decide +kernel))
set_option maxRecDepth 20000 in
theorem gX6_colour_X2_collect : GoodIn wsX6_colour (wsV RX6 320 RX2 yX2_collect wsX2_collect) := goodIn_app (goodIn_of _ (by decide +kernel)) ggX6_colour_X2_collect
theorem dX6_colour_0 : decode cX6_colour 0 = .ok (.aload_n 0, 1) := by decide +kernel
theorem dX6_colour_1 : decode cX6_colour 1 = .ok (.getfield 308, 3) := by decide +kernel
theorem dX6_colour_4 : decode cX6_colour 4 = .ok (.ifCond .ne 40, 3) := by decide +kernel
theorem dX6_colour_7 : decode cX6_colour 7 = .ok (.aload_n 0, 1) := by decide +kernel
theorem dX6_colour_8 : decode cX6_colour 8 = .ok (.getfield 10, 3) := by decide +kernel
theorem dX6_colour_11 : decode cX6_colour 11 = .ok (.invokevirtual 179, 3) := by decide +kernel
theorem dX6_colour_14 : decode cX6_colour 14 = .ok (.aload_n 0, 1) := by decide +kernel
theorem dX6_colour_15 : decode cX6_colour 15 = .ok (.getfield 16, 3) := by decide +kernel
theorem dX6_colour_18 : decode cX6_colour 18 = .ok (.invokevirtual 179, 3) := by decide +kernel
theorem dX6_colour_21 : decode cX6_colour 21 = .ok (.aload_n 0, 1) := by decide +kernel
theorem dX6_colour_22 : decode cX6_colour 22 = .ok (.getfield 24, 3) := by decide +kernel
theorem dX6_colour_25 : decode cX6_colour 25 = .ok (.invokevirtual 317, 3) := by decide +kernel
theorem dX6_colour_28 : decode cX6_colour 28 = .ok (.aload_n 0, 1) := by decide +kernel
theorem dX6_colour_29 : decode cX6_colour 29 = .ok (.getfield 31, 3) := by decide +kernel
theorem dX6_colour_32 : decode cX6_colour 32 = .ok (.aload_n 0, 1) := by decide +kernel
theorem dX6_colour_33 : decode cX6_colour 33 = .ok (.getfield 24, 3) := by decide +kernel
theorem dX6_colour_36 : decode cX6_colour 36 = .ok (.invokevirtual 320, 3) := by decide +kernel
theorem dX6_colour_39 : decode cX6_colour 39 = .ok (.aload_n 0, 1) := by decide +kernel
theorem dX6_colour_40 : decode cX6_colour 40 = .ok (.iconst 1, 1) := by decide +kernel
theorem dX6_colour_41 : decode cX6_colour 41 = .ok (.putfield 308, 3) := by decide +kernel
theorem dX6_colour_44 : decode cX6_colour 44 = .ok (.return_, 1) := by decide +kernel
set_option maxHeartbeats 4000000 in
set_option maxRecDepth 100000 in
/-- countParts of an empty circuit -/
theorem kX0_countParts (l : Launch) (dC : Nat → ClassId) (dI : Nat → Nat → Nat) (a aL aP aS : Nat) (sz : Nat) : fMi l yX0_countParts wsX0_countParts ({ frames := 0, cells := 0, slots := 0, locals := 0 } : Room) dC dI [.ref a] [(a, .inr (3, [.int 0, .int 0, .ref aL, .ref aP, .ref aS]))] [] sz (fun (r : Int32) (u : Unit) => r = 0) (fun u => [(a, .inr (3, [.int 0, .int 0, .ref aL, .ref aP, .ref aS]))]) (fun u => []) := by
  refine oP_i (y := yX0_countParts) (cc := cX0_countParts) (maxL := 3) (by decide) rfl (Nat.le_of_ble_eq_true rfl) ?_
  intro p e s m args below meth c ls A Q hx hb hr hml hown hts hN hZ hA hin hlk hP hK hD hl ret
  have hS : va_S A s.heap s.heap [] := va_S.rf
  have hl : lv_has ls 3 [(0, .ref a)] := hl
  have hP : va_P (dC, dI) vwCl [(a, .inr (3, [.int 0, .int 0, .ref aL, .ref aP, .ref aS]))] _ := hP
  have hD : va_D A [(a, .inr (3, [.int 0, .int 0, .ref aL, .ref aP, .ref aS]))] := hD
  refine lv_iconst (v := 0) hx hb dX0_countParts_0 (by decide) ?_
  refine lv_istore_n (lv' := [(1, .int 0), (0, .ref a)]) hx hb dX0_countParts_1 rfl hl (Nat.le_of_ble_eq_true rfl) rfl (fun ls hl => ?_)
  refine lv_iconst (v := 0) hx hb dX0_countParts_2 (by decide) ?_
  refine lv_istore_n (lv' := [(2, .int 0), (1, .int 0), (0, .ref a)]) hx hb dX0_countParts_3 rfl hl (Nat.le_of_ble_eq_true rfl) rfl (fun ls hl => ?_)
  refine lv_iload_n hx hb dX0_countParts_4 rfl (lv_at hl 0 rfl) ?_
  refine lv_aload_n hx hb dX0_countParts_5 rfl (lv_at hl 2 rfl) ?_
  refine va_get (D := (dC, dI)) (ci := 3) (v := .int 0) (C := RX0) (T := TX0) (N := 5) hx hb hts (fun w h => List.mem_cons_of_mem _ (List.mem_append_left _ (List.mem_append_right _ (h)))) hown hK hP 0 rfl rfl 1 (by decide) (hts (.fieldLink RX0 30 "Netcompare$Circuit" "addedParts" "I") (List.mem_cons_of_mem _ (List.mem_append_left _ (List.mem_append_left _ (List.mem_of_getElem? (i := 0) rfl))))) (fun _ h9 => h9) rfl dX0_countParts_6 ?_
  refine lv_icmp_ge (tgt := 33) hx hb dX0_countParts_9 (by decide) (fun _ => ?_) (fun h9 => absurd (by decide) h9)
  refine lv_iload_n hx hb dX0_countParts_33 rfl (lv_at hl 1 rfl) ?_
  exact ret _ () _ _ _ _ _ _ (rfl) (hP.sub [0] rfl) (hK.sub [] rfl) (hD.sub [0] (by decide) rfl) hS (Nat.le_of_ble_eq_true rfl) (Nat.le_of_ble_eq_true rfl) dX0_countParts_34

set_option maxHeartbeats 4000000 in
set_option maxRecDepth 100000 in
/-- measure: an empty circuit has nothing to measure -/
theorem kX0_measure (l : Launch) (dC : Nat → ClassId) (dI : Nat → Nat → Nat) (a aL aP aS : Nat) (sz : Nat) : fMv l yX0_measure wsX0_measure ({ frames := 0, cells := 0, slots := 0, locals := 0 } : Room) dC dI [.ref a] [(a, .inr (3, [.int 0, .int 0, .ref aL, .ref aP, .ref aS]))] [] sz (fun (u : Unit) => True) (fun u => [(a, .inr (3, [.int 0, .int 0, .ref aL, .ref aP, .ref aS]))]) (fun u => []) := by
  refine oP_v (y := yX0_measure) (cc := cX0_measure) (maxL := 3) (by decide) rfl (Nat.le_of_ble_eq_true rfl) ?_
  intro p e s m args below meth c ls A Q hx hb hr hml hown hts hN hZ hA hin hlk hP hK hD hl ret
  have hS : va_S A s.heap s.heap [] := va_S.rf
  have hl : lv_has ls 3 [(0, .ref a)] := hl
  have hP : va_P (dC, dI) vwCl [(a, .inr (3, [.int 0, .int 0, .ref aL, .ref aP, .ref aS]))] _ := hP
  have hD : va_D A [(a, .inr (3, [.int 0, .int 0, .ref aL, .ref aP, .ref aS]))] := hD
  refine lv_iconst (v := 0) hx hb dX0_measure_0 (by decide) ?_
  refine lv_istore_n (lv' := [(1, .int 0), (0, .ref a)]) hx hb dX0_measure_1 rfl hl (Nat.le_of_ble_eq_true rfl) rfl (fun ls hl => ?_)
  refine lv_iload_n hx hb dX0_measure_2 rfl (lv_at hl 0 rfl) ?_
  refine lv_aload_n hx hb dX0_measure_3 rfl (lv_at hl 1 rfl) ?_
  refine va_get (D := (dC, dI)) (ci := 3) (v := .int 0) (C := RX0) (T := TX0) (N := 5) hx hb hts (fun w h => List.mem_cons_of_mem _ (List.mem_append_left _ (List.mem_append_left _ (List.mem_append_right _ (h))))) hown hK hP 0 rfl rfl 0 (by decide) (hts (.fieldLink RX0 26 "Netcompare$Circuit" "netCount" "I") (List.mem_cons_of_mem _ (List.mem_append_left _ (List.mem_append_left _ (List.mem_append_left _ (List.mem_of_getElem? (i := 0) rfl)))))) (fun _ h9 => h9) rfl dX0_measure_4 ?_
  refine lv_icmp_ge (tgt := 39) hx hb dX0_measure_7 (by decide) (fun _ => ?_) (fun h9 => absurd (by decide) h9)
  refine lv_iconst (v := 1) hx hb dX0_measure_39 (by decide) ?_
  refine lv_istore_n (lv' := [(1, .int 1), (0, .ref a)]) hx hb dX0_measure_40 rfl hl (Nat.le_of_ble_eq_true rfl) rfl (fun ls hl => ?_)
  have lp41 : ∀ (n i : Nat), i ≤ 10 → 10 - i < n → ∀  (ls : Array Slot) (H : Heap) (locs : List Loc), lv_has ls 3 [(1, .int (nI i)), (0, .ref a)] → va_P (dC, dI) vwCl [(a, .inr (3, [.int 0, .int 0, .ref aL, .ref aP, .ref aS]))] H → va_D A [(a, .inr (3, [.int 0, .int 0, .ref aL, .ref aP, .ref aS]))] → va_S A s.heap H locs → W p l e ({ frames := 0, cells := 0, slots := 0, locals := 0 } : Room) s m args below meth c H locs 0 0 Q (F0 m 41 ls []) := by
    intro n
    induction n with
    | zero => intro i _ h9; exact absurd h9 (Nat.not_lt_zero _)
    | succ n ih =>
      intro i hi hn  ls H locs hl hP hD hS
      rcases Nat.lt_or_ge i 10 with hlt | hge
      · skip
        refine lv_iload_n hx hb dX0_measure_41 rfl (lv_at hl 0 rfl) ?_
        refine lv_bipush (v := 10) hx hb dX0_measure_42 (by decide) ?_
        refine lv_icmp_ge (tgt := 108) hx hb dX0_measure_44 (by decide) (fun h9 => absurd h9 (show ¬ nI 10 ≤ nI i from nI_ge hlt (by decide))) (fun _ => ?_)
        refine lv_iconst (v := 0) hx hb dX0_measure_47 (by decide) ?_
        refine lv_istore_n (lv' := [(2, .int 0), (1, .int (nI i)), (0, .ref a)]) hx hb dX0_measure_48 rfl hl (Nat.le_of_ble_eq_true rfl) rfl (fun ls hl => ?_)
        refine lv_iload_n hx hb dX0_measure_49 rfl (lv_at hl 0 rfl) ?_
        refine lv_aload_n hx hb dX0_measure_50 rfl (lv_at hl 2 rfl) ?_
        refine va_get (D := (dC, dI)) (ci := 3) (v := .int 0) (C := RX0) (T := TX0) (N := 5) hx hb hts (fun w h => List.mem_cons_of_mem _ (List.mem_append_left _ (List.mem_append_left _ (List.mem_append_right _ (h))))) hown hK hP 0 rfl rfl 1 (by decide) (hts (.fieldLink RX0 30 "Netcompare$Circuit" "addedParts" "I") (List.mem_cons_of_mem _ (List.mem_append_left _ (List.mem_append_left _ (List.mem_append_left _ (List.mem_of_getElem? (i := 3) rfl)))))) (fun _ h9 => h9) rfl dX0_measure_51 ?_
        refine lv_icmp_ge (tgt := 102) hx hb dX0_measure_54 (by decide) (fun _ => ?_) (fun h9 => absurd (by decide) h9)
        refine lv_iinc (v := (nI (i + 1))) (lv' := [(1, .int (nI (i + 1))), (2, .int 0), (0, .ref a)]) hx hb dX0_measure_102 hl (k := 1) rfl (nI_1 _) (Nat.le_of_ble_eq_true rfl) rfl (fun ls hl => ?_)
        refine lv_goto (tgt := 41) hx hb dX0_measure_105 (by decide) ?_
        exact ih (i + 1) hlt (by omega) _ _ _ (lv_sub hl [0, 2] rfl) (hP.sub [0] rfl) (hD.sub [0] (by decide) rfl) hS
      · skip
        refine lv_iload_n hx hb dX0_measure_41 rfl (lv_at hl 0 rfl) ?_
        refine lv_bipush (v := 10) hx hb dX0_measure_42 (by decide) ?_
        refine lv_icmp_ge (tgt := 108) hx hb dX0_measure_44 (by decide) (fun _ => ?_) (fun h9 => absurd (show nI 10 ≤ nI i from nI_le hge (Nat.lt_of_le_of_lt hi (by decide))) h9)
        exact ret () _ _ _ _ _ _ (trivial) (hP.sub [0] rfl) (hK.sub [] rfl) (hD.sub [0] (by decide) rfl) hS (Nat.le_of_ble_eq_true rfl) (Nat.le_of_ble_eq_true rfl) dX0_measure_108
  exact lp41 (10 + 1) 1 (Nat.le_of_ble_eq_true rfl) (by decide) _ _ _ (lv_sub hl [0, 1] rfl) (hP.sub [0] rfl) (hD.sub [0] (by decide) rfl) hS

set_option maxHeartbeats 4000000 in
set_option maxRecDepth 100000 in
/-- joinFirstPair of an empty circuit -/
theorem kX0_joinFirstPair (l : Launch) (dC : Nat → ClassId) (dI : Nat → Nat → Nat) (a aL aP aS : Nat) (sz : Nat) : fMi l yX0_joinFirstPair wsX0_joinFirstPair ({ frames := 0, cells := 0, slots := 0, locals := 0 } : Room) dC dI [.ref a] [(a, .inr (3, [.int 0, .int 0, .ref aL, .ref aP, .ref aS]))] [] sz (fun (r : Int32) (u : Unit) => r = 0) (fun u => [(a, .inr (3, [.int 0, .int 0, .ref aL, .ref aP, .ref aS]))]) (fun u => []) := by
  refine oP_z (y := yX0_joinFirstPair) (cc := cX0_joinFirstPair) (maxL := 3) (by decide) rfl (Nat.le_of_ble_eq_true rfl) ?_
  intro p e s m args below meth c ls A Q hx hb hr hml hown hts hN hZ hA hin hlk hP hK hD hl ret
  have hS : va_S A s.heap s.heap [] := va_S.rf
  have hl : lv_has ls 3 [(0, .ref a)] := hl
  have hP : va_P (dC, dI) vwCl [(a, .inr (3, [.int 0, .int 0, .ref aL, .ref aP, .ref aS]))] _ := hP
  have hD : va_D A [(a, .inr (3, [.int 0, .int 0, .ref aL, .ref aP, .ref aS]))] := hD
  refine lv_iconst (v := 0) hx hb dX0_joinFirstPair_0 (by decide) ?_
  refine lv_istore_n (lv' := [(1, .int 0), (0, .ref a)]) hx hb dX0_joinFirstPair_1 rfl hl (Nat.le_of_ble_eq_true rfl) rfl (fun ls hl => ?_)
  refine lv_iload_n hx hb dX0_joinFirstPair_2 rfl (lv_at hl 0 rfl) ?_
  refine lv_aload_n hx hb dX0_joinFirstPair_3 rfl (lv_at hl 1 rfl) ?_
  refine va_get (D := (dC, dI)) (ci := 3) (v := .int 0) (C := RX0) (T := TX0) (N := 5) hx hb hts (fun w h => List.mem_cons_of_mem _ (List.mem_append_left _ (List.mem_append_left _ (List.mem_append_left _ (List.mem_append_right _ (h)))))) hown hK hP 0 rfl rfl 1 (by decide) (hts (.fieldLink RX0 30 "Netcompare$Circuit" "addedParts" "I") (List.mem_cons_of_mem _ (List.mem_append_left _ (List.mem_append_left _ (List.mem_append_left _ (List.mem_append_left _ (List.mem_append_left _ (List.mem_of_getElem? (i := 0) rfl)))))))) (fun _ h9 => h9) rfl dX0_joinFirstPair_4 ?_
  refine lv_icmp_ge (tgt := 70) hx hb dX0_joinFirstPair_7 (by decide) (fun _ => ?_) (fun h9 => absurd (by decide) h9)
  refine lv_iconst (v := 0) hx hb dX0_joinFirstPair_70 (by decide) ?_
  exact ret _ () _ _ _ _ _ _ (rfl) (rfl) (hP.sub [0] rfl) (hK.sub [] rfl) (hD.sub [0] (by decide) rfl) hS (Nat.le_of_ble_eq_true rfl) (Nat.le_of_ble_eq_true rfl) dX0_joinFirstPair_71

set_option maxHeartbeats 4000000 in
set_option maxRecDepth 100000 in
/-- joinWhilePossible of an empty circuit -/
theorem kX0_joinWhilePossible (l : Launch) (dC : Nat → ClassId) (dI : Nat → Nat → Nat) (a aL aP aS : Nat) (sz : Nat) : fMi l yX0_joinWhilePossible wsX0_joinWhilePossible ({ frames := 1, cells := 0, slots := 0, locals := 22 } : Room) dC dI [.ref a] [(a, .inr (3, [.int 0, .int 0, .ref aL, .ref aP, .ref aS]))] [] sz (fun (r : Int32) (u : Unit) => r = 0) (fun u => [(a, .inr (3, [.int 0, .int 0, .ref aL, .ref aP, .ref aS]))]) (fun u => []) := by
  refine oP_i (y := yX0_joinWhilePossible) (cc := cX0_joinWhilePossible) (maxL := 2) (by decide) rfl (Nat.le_of_ble_eq_true rfl) ?_
  intro p e s m args below meth c ls A Q hx hb hr hml hown hts hN hZ hA hin hlk hP hK hD hl ret
  have hS : va_S A s.heap s.heap [] := va_S.rf
  have hl : lv_has ls 2 [(0, .ref a)] := hl
  have hP : va_P (dC, dI) vwCl [(a, .inr (3, [.int 0, .int 0, .ref aL, .ref aP, .ref aS]))] _ := hP
  have hD : va_D A [(a, .inr (3, [.int 0, .int 0, .ref aL, .ref aP, .ref aS]))] := hD
  refine lv_iconst (v := 0) hx hb dX0_joinWhilePossible_0 (by decide) ?_
  refine lv_istore_n (lv' := [(1, .int 0), (0, .ref a)]) hx hb dX0_joinWhilePossible_1 rfl hl (Nat.le_of_ble_eq_true rfl) rfl (fun ls hl => ?_)
  refine lv_iload_n hx hb dX0_joinWhilePossible_2 rfl (lv_at hl 0 rfl) ?_
  refine lv_bipush (v := 10) hx hb dX0_joinWhilePossible_3 (by decide) ?_
  refine lv_icmp_ge (tgt := 21) hx hb dX0_joinWhilePossible_5 (by decide) (fun h9 => absurd h9 (by decide)) (fun _ => ?_)
  refine lv_aload_n hx hb dX0_joinWhilePossible_8 rfl (lv_at hl 1 rfl) ?_
  have hPc := hP.sub (ws' := [(a, .inr (3, [.int 0, .int 0, .ref aL, .ref aP, .ref aS]))]) [0] rfl
  have hDc := hD.sub (ws' := [(a, .inr (3, [.int 0, .int 0, .ref aL, .ref aP, .ref aS]))]) [0] (by decide) rfl
  have hKc := hK.sub (tys' := []) [] rfl
  have hFc := va_free (wc := [(a, .inr (3, [.int 0, .int 0, .ref aL, .ref aP, .ref aS]))]) hD hS hA [0] rfl
  refine va_calli (va_runV (As := []) (rest := []) ⟨hx, hb, hml, hown, hts⟩ (kX0_joinFirstPair l dC dI a aL aP aS s.heap.size) (cwV 0 hts gX0_joinWhilePossible_X0_joinFirstPair rfl rfl rfl (by decide +kernel) ⟨Nat.le_of_ble_eq_true rfl, Nat.le_of_ble_eq_true rfl⟩) (fPreV hN hZ hS (fun q h => hFc q h) hPc hKc hDc (ci := 3) (q0 := 0) rfl rfl) rfl rfl hl.1 rfl (lv_room (Nat.le_of_ble_eq_true rfl)) dX0_joinWhilePossible_9 ⟨Nat.le_of_ble_eq_true rfl, Nat.le_of_ble_eq_true rfl⟩) hS (fun q _ h => hFc q h) hFc (fun r u t H1 locs ht hvm hw hB hz1 hk1 hS => ?_)
  obtain ⟨hP1, hK1, hD1⟩ := hB
  rw [ht] at hP1
  have hK1 := va_K.moved hvm.symm hK1
  obtain ⟨hP, hD⟩ := va_join (wr := []) (w1 := [(a, .inr (3, [.int 0, .int 0, .ref aL, .ref aP, .ref aS]))]) hP hD [0] [] rfl rfl (by decide) (by decide) hk1 hFc hP1 hD1
  generalize H1 = H at hP hS ⊢
  have hP : va_P (dC, dI) vwCl [(a, .inr (3, [.int 0, .int 0, .ref aL, .ref aP, .ref aS]))] _ := hP
  have hD : va_D A [(a, .inr (3, [.int 0, .int 0, .ref aL, .ref aP, .ref aS]))] := hD
  subst hw
  refine lv_if_eq (tgt := 21) hx hb dX0_joinWhilePossible_12 (by decide) (fun _ => ?_) (fun h9 => absurd (by decide) h9)
  refine lv_iload_n hx hb dX0_joinWhilePossible_21 rfl (lv_at hl 0 rfl) ?_
  exact ret _ () _ _ _ _ _ _ (rfl) (hP.sub [0] rfl) (hK.sub [] rfl) (hD.sub [0] (by decide) rfl) hS (Nat.le_of_ble_eq_true rfl) (Nat.le_of_ble_eq_true rfl) dX0_joinWhilePossible_22

set_option maxHeartbeats 4000000 in
set_option maxRecDepth 100000 in
/-- startRows: the lengths are 0 already -/
theorem kX4_startRows (l : Launch) (dC : Nat → ClassId) (dI : Nat → Nat → Nat) (o oR oL oC oD : Nat) (cI : ClassId) (sz : Nat) : fMv l yX4_startRows wsX4_startRows ({ frames := 0, cells := 0, slots := 0, locals := 0 } : Room) dC dI [.ref o] [(o, .inr (7, [.ref oR, .ref oL, .ref oC, .ref oD, .int 0])), (oL, .inl (cI, 20, .inl (fun _ => 0)))] [(cI, .int)] sz (fun (u : Unit) => True) (fun u => [(o, .inr (7, [.ref oR, .ref oL, .ref oC, .ref oD, .int 0])), (oL, .inl (cI, 20, .inl (fun _ => 0)))]) (fun u => [(cI, .int)]) := by
  refine oP_v (y := yX4_startRows) (cc := cX4_startRows) (maxL := 2) (by decide) rfl (Nat.le_of_ble_eq_true rfl) ?_
  intro p e s m args below meth c ls A Q hx hb hr hml hown hts hN hZ hA hin hlk hP hK hD hl ret
  have hS : va_S A s.heap s.heap [] := va_S.rf
  have hl : lv_has ls 2 [(0, .ref o)] := hl
  have hP : va_P (dC, dI) vwCl [(o, .inr (7, [.ref oR, .ref oL, .ref oC, .ref oD, .int 0])), (oL, .inl (cI, 20, .inl (fun _ => 0)))] _ := hP
  have hD : va_D A [(o, .inr (7, [.ref oR, .ref oL, .ref oC, .ref oD, .int 0])), (oL, .inl (cI, 20, .inl (fun _ => 0)))] := hD
  refine lv_iconst (v := 0) hx hb dX4_startRows_0 (by decide) ?_
  refine lv_istore_n (lv' := [(1, .int 0), (0, .ref o)]) hx hb dX4_startRows_1 rfl hl (Nat.le_of_ble_eq_true rfl) rfl (fun ls hl => ?_)
  have lp2 : ∀ (n i : Nat), i ≤ 20 → 20 - i < n → ∀  (ls : Array Slot) (H : Heap) (locs : List Loc), lv_has ls 2 [(1, .int (nI i)), (0, .ref o)] → va_P (dC, dI) vwCl [(o, .inr (7, [.ref oR, .ref oL, .ref oC, .ref oD, .int 0])), (oL, .inl (cI, 20, .inl (fun _ => 0)))] H → va_D A [(o, .inr (7, [.ref oR, .ref oL, .ref oC, .ref oD, .int 0])), (oL, .inl (cI, 20, .inl (fun _ => 0)))] → va_S A s.heap H locs → W p l e ({ frames := 0, cells := 0, slots := 0, locals := 0 } : Room) s m args below meth c H locs 0 0 Q (F0 m 2 ls []) := by
    intro n
    induction n with
    | zero => intro i _ h9; exact absurd h9 (Nat.not_lt_zero _)
    | succ n ih =>
      intro i hi hn  ls H locs hl hP hD hS
      rcases Nat.lt_or_ge i 20 with hlt | hge
      · skip
        refine lv_iload_n hx hb dX4_startRows_2 rfl (lv_at hl 0 rfl) ?_
        refine lv_bipush (v := 20) hx hb dX4_startRows_3 (by decide) ?_
        refine lv_icmp_ge (tgt := 21) hx hb dX4_startRows_5 (by decide) (fun h9 => absurd h9 (show ¬ nI 20 ≤ nI i from nI_ge hlt (by decide))) (fun _ => ?_)
        refine lv_aload_n hx hb dX4_startRows_8 rfl (lv_at hl 1 rfl) ?_
        refine va_get (D := (dC, dI)) (ci := 7) (v := .ref oL) (C := RX4) (T := TX4) (N := 5) hx hb hts (fun w h => List.mem_cons_of_mem _ (List.mem_append_left _ (List.mem_append_right _ (h)))) hown hK hP 0 rfl rfl 1 (by decide) (hts (.fieldLink RX4 16 "Netcompare$Members" "rowLength" "[I") (List.mem_cons_of_mem _ (List.mem_append_left _ (List.mem_append_left _ (List.mem_of_getElem? (i := 0) rfl))))) (fun _ h9 => h9) rfl dX4_startRows_9 ?_
        refine lv_iload_n hx hb dX4_startRows_12 rfl (lv_at hl 0 rfl) ?_
        refine lv_iconst (v := 0) hx hb dX4_startRows_13 (by decide) ?_
        refine va_iast hx hb hK hP hD hS 1 0 rfl rfl (vp_in_nI (Nat.lt_of_lt_of_le hlt (by decide)) (by decide)) dX4_startRows_14 (fun H locs hP hD hS => ?_)
        rw [nI_clamp (show i < 2 ^ 31 by omega)] at hP hD
        have hP : va_P (dC, dI) vwCl [(o, .inr (7, [.ref oR, .ref oL, .ref oC, .ref oD, .int 0])), (oL, .inl (cI, 20, .inl (upd (fun _ => 0) i 0)))] _ := hP
        have hD : va_D A [(o, .inr (7, [.ref oR, .ref oL, .ref oC, .ref oD, .int 0])), (oL, .inl (cI, 20, .inl (upd (fun _ => 0) i 0)))] := hD
        rw [fU_c] at hP hD
        have hP : va_P (dC, dI) vwCl [(o, .inr (7, [.ref oR, .ref oL, .ref oC, .ref oD, .int 0])), (oL, .inl (cI, 20, .inl (fun _ => 0)))] _ := hP
        have hD : va_D A [(o, .inr (7, [.ref oR, .ref oL, .ref oC, .ref oD, .int 0])), (oL, .inl (cI, 20, .inl (fun _ => 0)))] := hD
        refine lv_iinc (v := (nI (i + 1))) (lv' := [(1, .int (nI (i + 1))), (0, .ref o)]) hx hb dX4_startRows_15 hl (k := 0) rfl (nI_1 _) (Nat.le_of_ble_eq_true rfl) rfl (fun ls hl => ?_)
        refine lv_goto (tgt := 2) hx hb dX4_startRows_18 (by decide) ?_
        exact ih (i + 1) hlt (by omega) _ _ _ (lv_sub hl [0, 1] rfl) (hP.sub [0, 1] rfl) (hD.sub [0, 1] (by decide) rfl) hS
      · skip
        refine lv_iload_n hx hb dX4_startRows_2 rfl (lv_at hl 0 rfl) ?_
        refine lv_bipush (v := 20) hx hb dX4_startRows_3 (by decide) ?_
        refine lv_icmp_ge (tgt := 21) hx hb dX4_startRows_5 (by decide) (fun _ => ?_) (fun h9 => absurd (show nI 20 ≤ nI i from nI_le hge (Nat.lt_of_le_of_lt hi (by decide))) h9)
        exact ret () _ _ _ _ _ _ (trivial) (hP.sub [0, 1] rfl) (hK.sub [0] rfl) (hD.sub [0, 1] (by decide) rfl) hS (Nat.le_of_ble_eq_true rfl) (Nat.le_of_ble_eq_true rfl) dX4_startRows_21
  exact lp2 (20 + 1) 0 (Nat.le_of_ble_eq_true rfl) (by decide) _ _ _ (lv_sub hl [0, 1] rfl) (hP.sub [0, 1] rfl) (hD.sub [0, 1] (by decide) rfl) hS

set_option maxHeartbeats 4000000 in
set_option maxRecDepth 100000 in
/-- colourByRows: no member is there -/
theorem kX4_colourByRows (l : Launch) (dC : Nat → ClassId) (dI : Nat → Nat → Nat) (o oR oL oC oD : Nat) (cI : ClassId) (g : Nat → Int32) (sz : Nat) : fMv l yX4_colourByRows wsX4_colourByRows ({ frames := 0, cells := 0, slots := 0, locals := 0 } : Room) dC dI [.ref o] [(o, .inr (7, [.ref oR, .ref oL, .ref oC, .ref oD, .int 0])), (oL, .inl (cI, 20, .inl (fun _ => 0))), (oC, .inl (cI, 20, .inl g))] [(cI, .int)] sz (fun (u : Nat → Int32) => True) (fun u => [(o, .inr (7, [.ref oR, .ref oL, .ref oC, .ref oD, .int 0])), (oL, .inl (cI, 20, .inl (fun _ => 0))), (oC, .inl (cI, 20, .inl u))]) (fun u => [(cI, .int)]) := by
  refine oP_v (y := yX4_colourByRows) (cc := cX4_colourByRows) (maxL := 3) (by decide) rfl (Nat.le_of_ble_eq_true rfl) ?_
  intro p e s m args below meth c ls A Q hx hb hr hml hown hts hN hZ hA hin hlk hP hK hD hl ret
  have hS : va_S A s.heap s.heap [] := va_S.rf
  have hl : lv_has ls 3 [(0, .ref o)] := hl
  have hP : va_P (dC, dI) vwCl [(o, .inr (7, [.ref oR, .ref oL, .ref oC, .ref oD, .int 0])), (oL, .inl (cI, 20, .inl (fun _ => 0))), (oC, .inl (cI, 20, .inl g))] _ := hP
  have hD : va_D A [(o, .inr (7, [.ref oR, .ref oL, .ref oC, .ref oD, .int 0])), (oL, .inl (cI, 20, .inl (fun _ => 0))), (oC, .inl (cI, 20, .inl g))] := hD
  refine lv_aload_n hx hb dX4_colourByRows_0 rfl (lv_at hl 0 rfl) ?_
  refine lv_iconst (v := 0) hx hb dX4_colourByRows_1 (by decide) ?_
  refine va_put (D := (dC, dI)) (ci := 7) (v := .int 0) (ty := .int) (C := RX4) (T := TX4) (N := 5) hx hb hts (fun w h => List.mem_cons_of_mem _ (List.mem_append_left _ (List.mem_append_right _ (h)))) tyX4 tyX4_ok nmX4 hown hK hP hD hS 0 rfl rfl 4 (by decide) (hts (.fieldLink RX4 26 "Netcompare$Members" "classCount" "I") (List.mem_cons_of_mem _ (List.mem_append_left _ (List.mem_append_left _ (List.mem_of_getElem? (i := 0) rfl))))) (fun _ h9 => h9) rfl (by decide +kernel) rfl rfl (Nat.le_of_ble_eq_true rfl) dX4_colourByRows_2 (fun H locs hP hD hS => ?_)
  have hP : va_P (dC, dI) vwCl [(o, .inr (7, [.ref oR, .ref oL, .ref oC, .ref oD, .int 0])), (oL, .inl (cI, 20, .inl (fun _ => 0))), (oC, .inl (cI, 20, .inl g))] _ := hP
  have hD : va_D A [(o, .inr (7, [.ref oR, .ref oL, .ref oC, .ref oD, .int 0])), (oL, .inl (cI, 20, .inl (fun _ => 0))), (oC, .inl (cI, 20, .inl g))] := hD
  refine lv_iconst (v := 0) hx hb dX4_colourByRows_5 (by decide) ?_
  refine lv_istore_n (lv' := [(1, .int 0), (0, .ref o)]) hx hb dX4_colourByRows_6 rfl hl (Nat.le_of_ble_eq_true rfl) rfl (fun ls hl => ?_)
  have lp7 : ∀ (n i : Nat), i ≤ 20 → 20 - i < n → ∀ (g_oC : Nat → Int32) (ls : Array Slot) (H : Heap) (locs : List Loc), lv_has ls 3 [(1, .int (nI i)), (0, .ref o)] → va_P (dC, dI) vwCl [(o, .inr (7, [.ref oR, .ref oL, .ref oC, .ref oD, .int 0])), (oL, .inl (cI, 20, .inl (fun _ => 0))), (oC, .inl (cI, 20, .inl g_oC))] H → va_D A [(o, .inr (7, [.ref oR, .ref oL, .ref oC, .ref oD, .int 0])), (oL, .inl (cI, 20, .inl (fun _ => 0))), (oC, .inl (cI, 20, .inl g_oC))] → va_S A s.heap H locs → W p l e ({ frames := 0, cells := 0, slots := 0, locals := 0 } : Room) s m args below meth c H locs 0 0 Q (F0 m 7 ls []) := by
    intro n
    induction n with
    | zero => intro i _ h9; exact absurd h9 (Nat.not_lt_zero _)
    | succ n ih =>
      intro i hi hn g_oC ls H locs hl hP hD hS
      rcases Nat.lt_or_ge i 20 with hlt | hge
      · skip
        refine lv_iload_n hx hb dX4_colourByRows_7 rfl (lv_at hl 0 rfl) ?_
        refine lv_bipush (v := 20) hx hb dX4_colourByRows_8 (by decide) ?_
        refine lv_icmp_ge (tgt := 75) hx hb dX4_colourByRows_10 (by decide) (fun h9 => absurd h9 (show ¬ nI 20 ≤ nI i from nI_ge hlt (by decide))) (fun _ => ?_)
        refine lv_aload_n hx hb dX4_colourByRows_13 rfl (lv_at hl 1 rfl) ?_
        refine va_get (D := (dC, dI)) (ci := 7) (v := .ref oL) (C := RX4) (T := TX4) (N := 5) hx hb hts (fun w h => List.mem_cons_of_mem _ (List.mem_append_left _ (List.mem_append_right _ (h)))) hown hK hP 0 rfl rfl 1 (by decide) (hts (.fieldLink RX4 16 "Netcompare$Members" "rowLength" "[I") (List.mem_cons_of_mem _ (List.mem_append_left _ (List.mem_append_left _ (List.mem_of_getElem? (i := 1) rfl))))) (fun _ h9 => h9) rfl dX4_colourByRows_14 ?_
        refine lv_iload_n hx hb dX4_colourByRows_17 rfl (lv_at hl 0 rfl) ?_
        refine va_iald hx hb hK hP 1 0 rfl rfl (vp_in_nI (Nat.lt_of_lt_of_le hlt (by decide)) (by decide)) dX4_colourByRows_18 ?_
        refine W.eq (g2 := F0 m 19 ls [.int 0]) rfl ?_
        refine lv_if_ne (tgt := 32) hx hb dX4_colourByRows_19 (by decide) (fun h9 => absurd (by decide) h9) (fun _ => ?_)
        refine lv_aload_n hx hb dX4_colourByRows_22 rfl (lv_at hl 1 rfl) ?_
        refine va_get (D := (dC, dI)) (ci := 7) (v := .ref oC) (C := RX4) (T := TX4) (N := 5) hx hb hts (fun w h => List.mem_cons_of_mem _ (List.mem_append_left _ (List.mem_append_right _ (h)))) hown hK hP 0 rfl rfl 2 (by decide) (hts (.fieldLink RX4 20 "Netcompare$Members" "colour" "[I") (List.mem_cons_of_mem _ (List.mem_append_left _ (List.mem_append_left _ (List.mem_of_getElem? (i := 2) rfl))))) (fun _ h9 => h9) rfl dX4_colourByRows_23 ?_
        refine lv_iload_n hx hb dX4_colourByRows_26 rfl (lv_at hl 0 rfl) ?_
        refine lv_iconst (v := (-1)) hx hb dX4_colourByRows_27 (by decide) ?_
        refine va_iast hx hb hK hP hD hS 2 0 rfl rfl (vp_in_nI (Nat.lt_of_lt_of_le hlt (by decide)) (by decide)) dX4_colourByRows_28 (fun H locs hP hD hS => ?_)
        rw [nI_clamp (show i < 2 ^ 31 by omega)] at hP hD
        have hP : va_P (dC, dI) vwCl [(o, .inr (7, [.ref oR, .ref oL, .ref oC, .ref oD, .int 0])), (oL, .inl (cI, 20, .inl (fun _ => 0))), (oC, .inl (cI, 20, .inl (upd g_oC i (-1))))] _ := hP
        have hD : va_D A [(o, .inr (7, [.ref oR, .ref oL, .ref oC, .ref oD, .int 0])), (oL, .inl (cI, 20, .inl (fun _ => 0))), (oC, .inl (cI, 20, .inl (upd g_oC i (-1))))] := hD
        refine lv_goto (tgt := 69) hx hb dX4_colourByRows_29 (by decide) ?_
        refine lv_iinc (v := (nI (i + 1))) (lv' := [(1, .int (nI (i + 1))), (0, .ref o)]) hx hb dX4_colourByRows_69 hl (k := 0) rfl (nI_1 _) (Nat.le_of_ble_eq_true rfl) rfl (fun ls hl => ?_)
        refine lv_goto (tgt := 7) hx hb dX4_colourByRows_72 (by decide) ?_
        exact ih (i + 1) hlt (by omega) (upd g_oC i (-1)) _ _ _ (lv_sub hl [0, 1] rfl) (hP.sub [0, 1, 2] rfl) (hD.sub [0, 1, 2] (by decide) rfl) hS
      · skip
        refine lv_iload_n hx hb dX4_colourByRows_7 rfl (lv_at hl 0 rfl) ?_
        refine lv_bipush (v := 20) hx hb dX4_colourByRows_8 (by decide) ?_
        refine lv_icmp_ge (tgt := 75) hx hb dX4_colourByRows_10 (by decide) (fun _ => ?_) (fun h9 => absurd (show nI 20 ≤ nI i from nI_le hge (Nat.lt_of_le_of_lt hi (by decide))) h9)
        exact ret g_oC _ _ _ _ _ _ (trivial) (hP.sub [0, 1, 2] rfl) (hK.sub [0] rfl) (hD.sub [0, 1, 2] (by decide) rfl) hS (Nat.le_of_ble_eq_true rfl) (Nat.le_of_ble_eq_true rfl) dX4_colourByRows_75
  exact lp7 (20 + 1) 0 (Nat.le_of_ble_eq_true rfl) (by decide) g _ _ _ (lv_sub hl [0, 1] rfl) (hP.sub [0, 1, 2] rfl) (hD.sub [0, 1, 2] (by decide) rfl) hS

set_option maxHeartbeats 4000000 in
set_option maxRecDepth 100000 in
/-- writeFirstRows: nothing to write -/
theorem kX1_writeFirstRows (l : Launch) (dC : Nat → ClassId) (dI : Nat → Nat → Nat) (co w d on op a aL aP aS : Nat) (p0 : Int32) (sz : Nat) : fMv l yX1_writeFirstRows wsX1_writeFirstRows ({ frames := 0, cells := 0, slots := 0, locals := 0 } : Room) dC dI [.ref co, .ref a, .int p0] [(co, .inr (4, [.ref w, .ref d, .ref on, .ref op, .int 0])), (a, .inr (3, [.int 0, .int 0, .ref aL, .ref aP, .ref aS]))] [] sz (fun (u : Unit) => True) (fun u => [(co, .inr (4, [.ref w, .ref d, .ref on, .ref op, .int 0])), (a, .inr (3, [.int 0, .int 0, .ref aL, .ref aP, .ref aS]))]) (fun u => []) := by
  refine oP_v (y := yX1_writeFirstRows) (cc := cX1_writeFirstRows) (maxL := 6) (by decide) rfl (Nat.le_of_ble_eq_true rfl) ?_
  intro p e s m args below meth c ls A Q hx hb hr hml hown hts hN hZ hA hin hlk hP hK hD hl ret
  have hS : va_S A s.heap s.heap [] := va_S.rf
  have hl : lv_has ls 6 [(0, .ref co), (1, .ref a), (2, .int p0)] := hl
  have hP : va_P (dC, dI) vwCl [(co, .inr (4, [.ref w, .ref d, .ref on, .ref op, .int 0])), (a, .inr (3, [.int 0, .int 0, .ref aL, .ref aP, .ref aS]))] _ := hP
  have hD : va_D A [(co, .inr (4, [.ref w, .ref d, .ref on, .ref op, .int 0])), (a, .inr (3, [.int 0, .int 0, .ref aL, .ref aP, .ref aS]))] := hD
  refine lv_iconst (v := 0) hx hb dX1_writeFirstRows_0 (by decide) ?_
  refine lv_istore_n (lv' := [(3, .int 0), (0, .ref co), (1, .ref a), (2, .int p0)]) hx hb dX1_writeFirstRows_1 rfl hl (Nat.le_of_ble_eq_true rfl) rfl (fun ls hl => ?_)
  refine lv_iload_n hx hb dX1_writeFirstRows_2 rfl (lv_at hl 0 rfl) ?_
  refine lv_aload_n hx hb dX1_writeFirstRows_3 rfl (lv_at hl 2 rfl) ?_
  refine va_getN (D := (dC, dI)) (ci := 3) (v := .int 0) (C := RX0) (T := TX0) (N := 5) hx hb hts (fun w h => List.mem_cons_of_mem _ (List.mem_append_left _ (List.mem_append_left _ (List.mem_append_left _ (List.mem_append_left _ (List.mem_append_right _ (h))))))) hown hK hP 1 rfl rfl 0 (by decide) (va_Nw.use rfl (hN.1 _ (List.mem_of_getElem? (i := 20) rfl))) (fun _ h9 => h9) rfl dX1_writeFirstRows_4 ?_
  refine lv_icmp_ge (tgt := 70) hx hb dX1_writeFirstRows_7 (by decide) (fun _ => ?_) (fun h9 => absurd (by decide) h9)
  refine lv_iconst (v := 0) hx hb dX1_writeFirstRows_70 (by decide) ?_
  refine lv_istore_n (lv' := [(3, .int 0), (0, .ref co), (1, .ref a), (2, .int p0)]) hx hb dX1_writeFirstRows_71 rfl hl (Nat.le_of_ble_eq_true rfl) rfl (fun ls hl => ?_)
  refine lv_iload_n hx hb dX1_writeFirstRows_72 rfl (lv_at hl 0 rfl) ?_
  refine lv_aload_n hx hb dX1_writeFirstRows_73 rfl (lv_at hl 2 rfl) ?_
  refine va_getN (D := (dC, dI)) (ci := 3) (v := .int 0) (C := RX0) (T := TX0) (N := 5) hx hb hts (fun w h => List.mem_cons_of_mem _ (List.mem_append_left _ (List.mem_append_left _ (List.mem_append_left _ (List.mem_append_left _ (List.mem_append_right _ (h))))))) hown hK hP 1 rfl rfl 1 (by decide) (va_Nw.use rfl (hN.1 _ (List.mem_of_getElem? (i := 22) rfl))) (fun _ h9 => h9) rfl dX1_writeFirstRows_74 ?_
  refine lv_icmp_ge (tgt := 155) hx hb dX1_writeFirstRows_77 (by decide) (fun _ => ?_) (fun h9 => absurd (by decide) h9)
  exact ret () _ _ _ _ _ _ (trivial) (hP.sub [0, 1] rfl) (hK.sub [] rfl) (hD.sub [0, 1] (by decide) rfl) hS (Nat.le_of_ble_eq_true rfl) (Nat.le_of_ble_eq_true rfl) dX1_writeFirstRows_155

set_option maxHeartbeats 4000000 in
set_option maxRecDepth 100000 in
/-- writeRows: nothing to write -/
theorem kX1_writeRows (l : Launch) (dC : Nat → ClassId) (dI : Nat → Nat → Nat) (co w d on op a aL aP aS : Nat) (p0 : Int32) (sz : Nat) : fMv l yX1_writeRows wsX1_writeRows ({ frames := 0, cells := 0, slots := 0, locals := 0 } : Room) dC dI [.ref co, .ref a, .int p0] [(co, .inr (4, [.ref w, .ref d, .ref on, .ref op, .int 0])), (a, .inr (3, [.int 0, .int 0, .ref aL, .ref aP, .ref aS]))] [] sz (fun (u : Unit) => True) (fun u => [(co, .inr (4, [.ref w, .ref d, .ref on, .ref op, .int 0])), (a, .inr (3, [.int 0, .int 0, .ref aL, .ref aP, .ref aS]))]) (fun u => []) := by
  refine oP_v (y := yX1_writeRows) (cc := cX1_writeRows) (maxL := 5) (by decide) rfl (Nat.le_of_ble_eq_true rfl) ?_
  intro p e s m args below meth c ls A Q hx hb hr hml hown hts hN hZ hA hin hlk hP hK hD hl ret
  have hS : va_S A s.heap s.heap [] := va_S.rf
  have hl : lv_has ls 5 [(0, .ref co), (1, .ref a), (2, .int p0)] := hl
  have hP : va_P (dC, dI) vwCl [(co, .inr (4, [.ref w, .ref d, .ref on, .ref op, .int 0])), (a, .inr (3, [.int 0, .int 0, .ref aL, .ref aP, .ref aS]))] _ := hP
  have hD : va_D A [(co, .inr (4, [.ref w, .ref d, .ref on, .ref op, .int 0])), (a, .inr (3, [.int 0, .int 0, .ref aL, .ref aP, .ref aS]))] := hD
  refine lv_iconst (v := 0) hx hb dX1_writeRows_0 (by decide) ?_
  refine lv_istore_n (lv' := [(3, .int 0), (0, .ref co), (1, .ref a), (2, .int p0)]) hx hb dX1_writeRows_1 rfl hl (Nat.le_of_ble_eq_true rfl) rfl (fun ls hl => ?_)
  refine lv_iload_n hx hb dX1_writeRows_2 rfl (lv_at hl 0 rfl) ?_
  refine lv_aload_n hx hb dX1_writeRows_3 rfl (lv_at hl 2 rfl) ?_
  refine va_getN (D := (dC, dI)) (ci := 3) (v := .int 0) (C := RX0) (T := TX0) (N := 5) hx hb hts (fun w h => List.mem_cons_of_mem _ (List.mem_append_left _ (List.mem_append_left _ (List.mem_append_left _ (List.mem_append_left _ (List.mem_append_right _ (h))))))) hown hK hP 1 rfl rfl 0 (by decide) (va_Nw.use rfl (hN.1 _ (List.mem_of_getElem? (i := 20) rfl))) (fun _ h9 => h9) rfl dX1_writeRows_4 ?_
  refine lv_icmp_ge (tgt := 43) hx hb dX1_writeRows_7 (by decide) (fun _ => ?_) (fun h9 => absurd (by decide) h9)
  refine lv_iconst (v := 0) hx hb dX1_writeRows_43 (by decide) ?_
  refine lv_istore_n (lv' := [(3, .int 0), (0, .ref co), (1, .ref a), (2, .int p0)]) hx hb dX1_writeRows_44 rfl hl (Nat.le_of_ble_eq_true rfl) rfl (fun ls hl => ?_)
  refine lv_iload_n hx hb dX1_writeRows_45 rfl (lv_at hl 0 rfl) ?_
  refine lv_aload_n hx hb dX1_writeRows_46 rfl (lv_at hl 2 rfl) ?_
  refine va_getN (D := (dC, dI)) (ci := 3) (v := .int 0) (C := RX0) (T := TX0) (N := 5) hx hb hts (fun w h => List.mem_cons_of_mem _ (List.mem_append_left _ (List.mem_append_left _ (List.mem_append_left _ (List.mem_append_left _ (List.mem_append_right _ (h))))))) hown hK hP 1 rfl rfl 1 (by decide) (va_Nw.use rfl (hN.1 _ (List.mem_of_getElem? (i := 22) rfl))) (fun _ h9 => h9) rfl dX1_writeRows_47 ?_
  refine lv_icmp_ge (tgt := 87) hx hb dX1_writeRows_50 (by decide) (fun _ => ?_) (fun h9 => absurd (by decide) h9)
  exact ret () _ _ _ _ _ _ (trivial) (hP.sub [0, 1] rfl) (hK.sub [] rfl) (hD.sub [0, 1] (by decide) rfl) hS (Nat.le_of_ble_eq_true rfl) (Nat.le_of_ble_eq_true rfl) dX1_writeRows_87

set_option maxHeartbeats 4000000 in
set_option maxRecDepth 100000 in
/-- countClasses: none -/
theorem kX1_countClasses (l : Launch) (dC : Nat → ClassId) (dI : Nat → Nat → Nat) (co w d on op onR onL onC onD opR opL opC opD : Nat) (sz : Nat) : fMi l yX1_countClasses wsX1_countClasses ({ frames := 0, cells := 0, slots := 0, locals := 0 } : Room) dC dI [.ref co] [(co, .inr (4, [.ref w, .ref d, .ref on, .ref op, .int 0])), (on, .inr (7, [.ref onR, .ref onL, .ref onC, .ref onD, .int 0])), (op, .inr (7, [.ref opR, .ref opL, .ref opC, .ref opD, .int 0]))] [] sz (fun (r : Int32) (u : Unit) => r = 0) (fun u => [(co, .inr (4, [.ref w, .ref d, .ref on, .ref op, .int 0])), (on, .inr (7, [.ref onR, .ref onL, .ref onC, .ref onD, .int 0])), (op, .inr (7, [.ref opR, .ref opL, .ref opC, .ref opD, .int 0]))]) (fun u => []) := by
  refine oP_i (y := yX1_countClasses) (cc := cX1_countClasses) (maxL := 1) (by decide) rfl (Nat.le_of_ble_eq_true rfl) ?_
  intro p e s m args below meth c ls A Q hx hb hr hml hown hts hN hZ hA hin hlk hP hK hD hl ret
  have hS : va_S A s.heap s.heap [] := va_S.rf
  have hl : lv_has ls 1 [(0, .ref co)] := hl
  have hP : va_P (dC, dI) vwCl [(co, .inr (4, [.ref w, .ref d, .ref on, .ref op, .int 0])), (on, .inr (7, [.ref onR, .ref onL, .ref onC, .ref onD, .int 0])), (op, .inr (7, [.ref opR, .ref opL, .ref opC, .ref opD, .int 0]))] _ := hP
  have hD : va_D A [(co, .inr (4, [.ref w, .ref d, .ref on, .ref op, .int 0])), (on, .inr (7, [.ref onR, .ref onL, .ref onC, .ref onD, .int 0])), (op, .inr (7, [.ref opR, .ref opL, .ref opC, .ref opD, .int 0]))] := hD
  refine lv_aload_n hx hb dX1_countClasses_0 rfl (lv_at hl 0 rfl) ?_
  refine va_get (D := (dC, dI)) (ci := 4) (v := .ref on) (C := RX1) (T := TX1) (N := 5) hx hb hts (fun w h => List.mem_cons_of_mem _ (List.mem_append_left _ (List.mem_append_right _ (h)))) hown hK hP 0 rfl rfl 2 (by decide) (hts (.fieldLink RX1 12 "Netcompare$Colours" "ofNets" "LNetcompare$Members;") (List.mem_cons_of_mem _ (List.mem_append_left _ (List.mem_append_left _ (List.mem_of_getElem? (i := 0) rfl))))) (fun _ h9 => h9) rfl dX1_countClasses_1 ?_
  refine va_getN (D := (dC, dI)) (ci := 7) (v := .int 0) (C := RX4) (T := TX4) (N := 5) hx hb hts (fun w h => List.mem_cons_of_mem _ (List.mem_append_right _ (h))) hown hK hP 1 rfl rfl 4 (by decide) (va_Nw.use rfl (hN.1 _ (List.mem_of_getElem? (i := 36) rfl))) (fun _ h9 => h9) rfl dX1_countClasses_4 ?_
  refine lv_aload_n hx hb dX1_countClasses_7 rfl (lv_at hl 0 rfl) ?_
  refine va_get (D := (dC, dI)) (ci := 4) (v := .ref op) (C := RX1) (T := TX1) (N := 5) hx hb hts (fun w h => List.mem_cons_of_mem _ (List.mem_append_left _ (List.mem_append_right _ (h)))) hown hK hP 0 rfl rfl 3 (by decide) (hts (.fieldLink RX1 18 "Netcompare$Colours" "ofParts" "LNetcompare$Members;") (List.mem_cons_of_mem _ (List.mem_append_left _ (List.mem_append_left _ (List.mem_of_getElem? (i := 1) rfl))))) (fun _ h9 => h9) rfl dX1_countClasses_8 ?_
  refine va_getN (D := (dC, dI)) (ci := 7) (v := .int 0) (C := RX4) (T := TX4) (N := 5) hx hb hts (fun w h => List.mem_cons_of_mem _ (List.mem_append_right _ (h))) hown hK hP 2 rfl rfl 4 (by decide) (va_Nw.use rfl (hN.1 _ (List.mem_of_getElem? (i := 36) rfl))) (fun _ h9 => h9) rfl dX1_countClasses_11 ?_
  refine lv_iadd hx hb dX1_countClasses_14 ?_
  refine lv_topi (fun y1 ey1 => ?_)
  obtain rfl : y1 = 0 := ey1.trans (by decide)
  exact ret _ () _ _ _ _ _ _ (rfl) (hP.sub [0, 1, 2] rfl) (hK.sub [] rfl) (hD.sub [0, 1, 2] (by decide) rfl) hS (Nat.le_of_ble_eq_true rfl) (Nat.le_of_ble_eq_true rfl) dX1_countClasses_15

set_option maxHeartbeats 4000000 in
set_option maxRecDepth 100000 in
/-- startColours of two empty circuits -/
theorem kX1_startColours (l : Launch) (dC : Nat → ClassId) (dI : Nat → Nat → Nat) (co : Nat) (w wL wP wS d dL dP dS : Nat) (on onR onL onC onD op opR opL opC opD : Nat) (cI : ClassId) (gn gp : Nat → Int32) (sz : Nat) : fMv l yX1_startColours wsX1_startColours ({ frames := 1, cells := 0, slots := 0, locals := 25 } : Room) dC dI [.ref co] [(co, .inr (4, [.ref w, .ref d, .ref on, .ref op, .int 0])), (w, .inr (3, [.int 0, .int 0, .ref wL, .ref wP, .ref wS])), (d, .inr (3, [.int 0, .int 0, .ref dL, .ref dP, .ref dS])), (on, .inr (7, [.ref onR, .ref onL, .ref onC, .ref onD, .int 0])), (onL, .inl (cI, 20, .inl (fun _ => 0))), (onC, .inl (cI, 20, .inl gn)), (op, .inr (7, [.ref opR, .ref opL, .ref opC, .ref opD, .int 0])), (opL, .inl (cI, 20, .inl (fun _ => 0))), (opC, .inl (cI, 20, .inl gp))] [(cI, .int)] sz (fun (u : (Nat → Int32) × (Nat → Int32)) => True) (fun u => [(co, .inr (4, [.ref w, .ref d, .ref on, .ref op, .int 0])), (w, .inr (3, [.int 0, .int 0, .ref wL, .ref wP, .ref wS])), (d, .inr (3, [.int 0, .int 0, .ref dL, .ref dP, .ref dS])), (on, .inr (7, [.ref onR, .ref onL, .ref onC, .ref onD, .int 0])), (onL, .inl (cI, 20, .inl (fun _ => 0))), (onC, .inl (cI, 20, .inl u.1)), (op, .inr (7, [.ref opR, .ref opL, .ref opC, .ref opD, .int 0])), (opL, .inl (cI, 20, .inl (fun _ => 0))), (opC, .inl (cI, 20, .inl u.2))]) (fun u => [(cI, .int)]) := by
  refine oP_v (y := yX1_startColours) (cc := cX1_startColours) (maxL := 1) (by decide) rfl (Nat.le_of_ble_eq_true rfl) ?_
  intro p e s m args below meth c ls A Q hx hb hr hml hown hts hN hZ hA hin hlk hP hK hD hl ret
  have hS : va_S A s.heap s.heap [] := va_S.rf
  have hl : lv_has ls 1 [(0, .ref co)] := hl
  have hP : va_P (dC, dI) vwCl [(co, .inr (4, [.ref w, .ref d, .ref on, .ref op, .int 0])), (w, .inr (3, [.int 0, .int 0, .ref wL, .ref wP, .ref wS])), (d, .inr (3, [.int 0, .int 0, .ref dL, .ref dP, .ref dS])), (on, .inr (7, [.ref onR, .ref onL, .ref onC, .ref onD, .int 0])), (onL, .inl (cI, 20, .inl (fun _ => 0))), (onC, .inl (cI, 20, .inl gn)), (op, .inr (7, [.ref opR, .ref opL, .ref opC, .ref opD, .int 0])), (opL, .inl (cI, 20, .inl (fun _ => 0))), (opC, .inl (cI, 20, .inl gp))] _ := hP
  have hD : va_D A [(co, .inr (4, [.ref w, .ref d, .ref on, .ref op, .int 0])), (w, .inr (3, [.int 0, .int 0, .ref wL, .ref wP, .ref wS])), (d, .inr (3, [.int 0, .int 0, .ref dL, .ref dP, .ref dS])), (on, .inr (7, [.ref onR, .ref onL, .ref onC, .ref onD, .int 0])), (onL, .inl (cI, 20, .inl (fun _ => 0))), (onC, .inl (cI, 20, .inl gn)), (op, .inr (7, [.ref opR, .ref opL, .ref opC, .ref opD, .int 0])), (opL, .inl (cI, 20, .inl (fun _ => 0))), (opC, .inl (cI, 20, .inl gp))] := hD
  refine lv_aload_n hx hb dX1_startColours_0 rfl (lv_at hl 0 rfl) ?_
  refine va_get (D := (dC, dI)) (ci := 4) (v := .ref on) (C := RX1) (T := TX1) (N := 5) hx hb hts (fun w h => List.mem_cons_of_mem _ (List.mem_append_left _ (List.mem_append_left _ (List.mem_append_left _ (List.mem_append_left _ (List.mem_append_right _ (h))))))) hown hK hP 0 rfl rfl 2 (by decide) (hts (.fieldLink RX1 12 "Netcompare$Colours" "ofNets" "LNetcompare$Members;") (List.mem_cons_of_mem _ (List.mem_append_left _ (List.mem_append_left _ (List.mem_append_left _ (List.mem_append_left _ (List.mem_append_left _ (List.mem_append_left _ (List.mem_of_getElem? (i := 0) rfl))))))))) (fun _ h9 => h9) rfl dX1_startColours_1 ?_
  have hPc := hP.sub (ws' := [(on, .inr (7, [.ref onR, .ref onL, .ref onC, .ref onD, .int 0])), (onL, .inl (cI, 20, .inl (fun _ => 0)))]) [3, 4] rfl
  have hDc := hD.sub (ws' := [(on, .inr (7, [.ref onR, .ref onL, .ref onC, .ref onD, .int 0])), (onL, .inl (cI, 20, .inl (fun _ => 0)))]) [3, 4] (by decide) rfl
  have hKc := hK.sub (tys' := [(cI, .int)]) [0] rfl
  have hFc := va_free (wc := [(on, .inr (7, [.ref onR, .ref onL, .ref onC, .ref onD, .int 0])), (onL, .inl (cI, 20, .inl (fun _ => 0)))]) hD hS hA [3, 4] rfl
  refine va_callv (va_runV (As := []) (rest := []) ⟨hx, hb, hml, hown, hts⟩ (kX4_startRows l dC dI on onR onL onC onD cI s.heap.size) (cwV 0 hts gX1_startColours_X4_startRows rfl rfl rfl (by decide +kernel) ⟨Nat.le_of_ble_eq_true rfl, Nat.le_of_ble_eq_true rfl⟩) (fPreV hN hZ hS (fun q h => hFc q h) hPc hKc hDc (ci := 7) (q0 := 0) rfl rfl) rfl rfl hl.1 rfl (lv_room (Nat.le_of_ble_eq_true rfl)) dX1_startColours_4 ⟨Nat.le_of_ble_eq_true rfl, Nat.le_of_ble_eq_true rfl⟩) hS (fun q _ h => hFc q h) hFc (fun u t H1 locs ht hvm hw hB hz1 hk1 hS => ?_)
  obtain ⟨hP1, hK1, hD1⟩ := hB
  rw [ht] at hP1
  have hK1 := va_K.moved hvm.symm hK1
  obtain ⟨hP, hD⟩ := va_join (wr := [(co, .inr (4, [.ref w, .ref d, .ref on, .ref op, .int 0])), (w, .inr (3, [.int 0, .int 0, .ref wL, .ref wP, .ref wS])), (d, .inr (3, [.int 0, .int 0, .ref dL, .ref dP, .ref dS])), (onC, .inl (cI, 20, .inl gn)), (op, .inr (7, [.ref opR, .ref opL, .ref opC, .ref opD, .int 0])), (opL, .inl (cI, 20, .inl (fun _ => 0))), (opC, .inl (cI, 20, .inl gp))]) (w1 := [(on, .inr (7, [.ref onR, .ref onL, .ref onC, .ref onD, .int 0])), (onL, .inl (cI, 20, .inl (fun _ => 0)))]) hP hD [3, 4] [0, 1, 2, 5, 6, 7, 8] rfl rfl (by decide) (by decide) hk1 hFc hP1 hD1
  generalize H1 = H at hP hS ⊢
  have hP : va_P (dC, dI) vwCl [(co, .inr (4, [.ref w, .ref d, .ref on, .ref op, .int 0])), (w, .inr (3, [.int 0, .int 0, .ref wL, .ref wP, .ref wS])), (d, .inr (3, [.int 0, .int 0, .ref dL, .ref dP, .ref dS])), (onC, .inl (cI, 20, .inl gn)), (op, .inr (7, [.ref opR, .ref opL, .ref opC, .ref opD, .int 0])), (opL, .inl (cI, 20, .inl (fun _ => 0))), (opC, .inl (cI, 20, .inl gp)), (on, .inr (7, [.ref onR, .ref onL, .ref onC, .ref onD, .int 0])), (onL, .inl (cI, 20, .inl (fun _ => 0)))] _ := hP
  have hD : va_D A [(co, .inr (4, [.ref w, .ref d, .ref on, .ref op, .int 0])), (w, .inr (3, [.int 0, .int 0, .ref wL, .ref wP, .ref wS])), (d, .inr (3, [.int 0, .int 0, .ref dL, .ref dP, .ref dS])), (onC, .inl (cI, 20, .inl gn)), (op, .inr (7, [.ref opR, .ref opL, .ref opC, .ref opD, .int 0])), (opL, .inl (cI, 20, .inl (fun _ => 0))), (opC, .inl (cI, 20, .inl gp)), (on, .inr (7, [.ref onR, .ref onL, .ref onC, .ref onD, .int 0])), (onL, .inl (cI, 20, .inl (fun _ => 0)))] := hD
  refine lv_aload_n hx hb dX1_startColours_7 rfl (lv_at hl 0 rfl) ?_
  refine va_get (D := (dC, dI)) (ci := 4) (v := .ref op) (C := RX1) (T := TX1) (N := 5) hx hb hts (fun w h => List.mem_cons_of_mem _ (List.mem_append_left _ (List.mem_append_left _ (List.mem_append_left _ (List.mem_append_left _ (List.mem_append_right _ (h))))))) hown hK hP 0 rfl rfl 3 (by decide) (hts (.fieldLink RX1 18 "Netcompare$Colours" "ofParts" "LNetcompare$Members;") (List.mem_cons_of_mem _ (List.mem_append_left _ (List.mem_append_left _ (List.mem_append_left _ (List.mem_append_left _ (List.mem_append_left _ (List.mem_append_left _ (List.mem_of_getElem? (i := 1) rfl))))))))) (fun _ h9 => h9) rfl dX1_startColours_8 ?_
  have hPc := hP.sub (ws' := [(op, .inr (7, [.ref opR, .ref opL, .ref opC, .ref opD, .int 0])), (opL, .inl (cI, 20, .inl (fun _ => 0)))]) [4, 5] rfl
  have hDc := hD.sub (ws' := [(op, .inr (7, [.ref opR, .ref opL, .ref opC, .ref opD, .int 0])), (opL, .inl (cI, 20, .inl (fun _ => 0)))]) [4, 5] (by decide) rfl
  have hKc := hK.sub (tys' := [(cI, .int)]) [0] rfl
  have hFc := va_free (wc := [(op, .inr (7, [.ref opR, .ref opL, .ref opC, .ref opD, .int 0])), (opL, .inl (cI, 20, .inl (fun _ => 0)))]) hD hS hA [4, 5] rfl
  refine va_callv (va_runV (As := []) (rest := []) ⟨hx, hb, hml, hown, hts⟩ (kX4_startRows l dC dI op opR opL opC opD cI H.size) (cwV 0 hts gX1_startColours_X4_startRows rfl rfl rfl (by decide +kernel) ⟨Nat.le_of_ble_eq_true rfl, Nat.le_of_ble_eq_true rfl⟩) (fPreV hN hZ hS (fun q h => hFc q h) hPc hKc hDc (ci := 7) (q0 := 0) rfl rfl) rfl rfl hl.1 rfl (lv_room (Nat.le_of_ble_eq_true rfl)) dX1_startColours_11 ⟨Nat.le_of_ble_eq_true rfl, Nat.le_of_ble_eq_true rfl⟩) hS (fun q _ h => hFc q h) hFc (fun u t H1 locs ht hvm hw hB hz1 hk1 hS => ?_)
  obtain ⟨hP1, hK1, hD1⟩ := hB
  rw [ht] at hP1
  have hK1 := va_K.moved hvm.symm hK1
  obtain ⟨hP, hD⟩ := va_join (wr := [(co, .inr (4, [.ref w, .ref d, .ref on, .ref op, .int 0])), (w, .inr (3, [.int 0, .int 0, .ref wL, .ref wP, .ref wS])), (d, .inr (3, [.int 0, .int 0, .ref dL, .ref dP, .ref dS])), (onC, .inl (cI, 20, .inl gn)), (opC, .inl (cI, 20, .inl gp)), (on, .inr (7, [.ref onR, .ref onL, .ref onC, .ref onD, .int 0])), (onL, .inl (cI, 20, .inl (fun _ => 0)))]) (w1 := [(op, .inr (7, [.ref opR, .ref opL, .ref opC, .ref opD, .int 0])), (opL, .inl (cI, 20, .inl (fun _ => 0)))]) hP hD [4, 5] [0, 1, 2, 3, 6, 7, 8] rfl rfl (by decide) (by decide) hk1 hFc hP1 hD1
  generalize H1 = H at hP hS ⊢
  have hP : va_P (dC, dI) vwCl [(co, .inr (4, [.ref w, .ref d, .ref on, .ref op, .int 0])), (w, .inr (3, [.int 0, .int 0, .ref wL, .ref wP, .ref wS])), (d, .inr (3, [.int 0, .int 0, .ref dL, .ref dP, .ref dS])), (onC, .inl (cI, 20, .inl gn)), (opC, .inl (cI, 20, .inl gp)), (on, .inr (7, [.ref onR, .ref onL, .ref onC, .ref onD, .int 0])), (onL, .inl (cI, 20, .inl (fun _ => 0))), (op, .inr (7, [.ref opR, .ref opL, .ref opC, .ref opD, .int 0])), (opL, .inl (cI, 20, .inl (fun _ => 0)))] _ := hP
  have hD : va_D A [(co, .inr (4, [.ref w, .ref d, .ref on, .ref op, .int 0])), (w, .inr (3, [.int 0, .int 0, .ref wL, .ref wP, .ref wS])), (d, .inr (3, [.int 0, .int 0, .ref dL, .ref dP, .ref dS])), (onC, .inl (cI, 20, .inl gn)), (opC, .inl (cI, 20, .inl gp)), (on, .inr (7, [.ref onR, .ref onL, .ref onC, .ref onD, .int 0])), (onL, .inl (cI, 20, .inl (fun _ => 0))), (op, .inr (7, [.ref opR, .ref opL, .ref opC, .ref opD, .int 0])), (opL, .inl (cI, 20, .inl (fun _ => 0)))] := hD
  refine lv_aload_n hx hb dX1_startColours_14 rfl (lv_at hl 0 rfl) ?_
  refine lv_aload_n hx hb dX1_startColours_15 rfl (lv_at hl 0 rfl) ?_
  refine va_get (D := (dC, dI)) (ci := 4) (v := .ref w) (C := RX1) (T := TX1) (N := 5) hx hb hts (fun w h => List.mem_cons_of_mem _ (List.mem_append_left _ (List.mem_append_left _ (List.mem_append_left _ (List.mem_append_left _ (List.mem_append_right _ (h))))))) hown hK hP 0 rfl rfl 0 (by decide) (hts (.fieldLink RX1 21 "Netcompare$Colours" "wished" "LNetcompare$Circuit;") (List.mem_cons_of_mem _ (List.mem_append_left _ (List.mem_append_left _ (List.mem_append_left _ (List.mem_append_left _ (List.mem_append_left _ (List.mem_append_left _ (List.mem_of_getElem? (i := 2) rfl))))))))) (fun _ h9 => h9) rfl dX1_startColours_16 ?_
  refine lv_iconst (v := 0) hx hb dX1_startColours_19 (by decide) ?_
  have hPc := hP.sub (ws' := [(co, .inr (4, [.ref w, .ref d, .ref on, .ref op, .int 0])), (w, .inr (3, [.int 0, .int 0, .ref wL, .ref wP, .ref wS]))]) [0, 1] rfl
  have hDc := hD.sub (ws' := [(co, .inr (4, [.ref w, .ref d, .ref on, .ref op, .int 0])), (w, .inr (3, [.int 0, .int 0, .ref wL, .ref wP, .ref wS]))]) [0, 1] (by decide) rfl
  have hKc := hK.sub (tys' := []) [] rfl
  have hFc := va_free (wc := [(co, .inr (4, [.ref w, .ref d, .ref on, .ref op, .int 0])), (w, .inr (3, [.int 0, .int 0, .ref wL, .ref wP, .ref wS]))]) hD hS hA [0, 1] rfl
  refine va_callv (va_runV (As := [.ref w, .int 0]) (rest := []) ⟨hx, hb, hml, hown, hts⟩ (kX1_writeFirstRows l dC dI co w d on op w wL wP wS 0 H.size) (cwV 2 hts gX1_startColours_X1_writeFirstRows rfl rfl rfl (by decide +kernel) ⟨Nat.le_of_ble_eq_true rfl, Nat.le_of_ble_eq_true rfl⟩) (fPreV hN hZ hS (fun q h => hFc q h) hPc hKc hDc (ci := 4) (q0 := 0) rfl rfl) rfl rfl hl.1 rfl (lv_room (Nat.le_of_ble_eq_true rfl)) dX1_startColours_20 ⟨Nat.le_of_ble_eq_true rfl, Nat.le_of_ble_eq_true rfl⟩) hS (fun q _ h => hFc q h) hFc (fun u t H1 locs ht hvm hw hB hz1 hk1 hS => ?_)
  obtain ⟨hP1, hK1, hD1⟩ := hB
  rw [ht] at hP1
  have hK1 := va_K.moved hvm.symm hK1
  obtain ⟨hP, hD⟩ := va_join (wr := [(d, .inr (3, [.int 0, .int 0, .ref dL, .ref dP, .ref dS])), (onC, .inl (cI, 20, .inl gn)), (opC, .inl (cI, 20, .inl gp)), (on, .inr (7, [.ref onR, .ref onL, .ref onC, .ref onD, .int 0])), (onL, .inl (cI, 20, .inl (fun _ => 0))), (op, .inr (7, [.ref opR, .ref opL, .ref opC, .ref opD, .int 0])), (opL, .inl (cI, 20, .inl (fun _ => 0)))]) (w1 := [(co, .inr (4, [.ref w, .ref d, .ref on, .ref op, .int 0])), (w, .inr (3, [.int 0, .int 0, .ref wL, .ref wP, .ref wS]))]) hP hD [0, 1] [2, 3, 4, 5, 6, 7, 8] rfl rfl (by decide) (by decide) hk1 hFc hP1 hD1
  generalize H1 = H at hP hS ⊢
  have hP : va_P (dC, dI) vwCl [(d, .inr (3, [.int 0, .int 0, .ref dL, .ref dP, .ref dS])), (onC, .inl (cI, 20, .inl gn)), (opC, .inl (cI, 20, .inl gp)), (on, .inr (7, [.ref onR, .ref onL, .ref onC, .ref onD, .int 0])), (onL, .inl (cI, 20, .inl (fun _ => 0))), (op, .inr (7, [.ref opR, .ref opL, .ref opC, .ref opD, .int 0])), (opL, .inl (cI, 20, .inl (fun _ => 0))), (co, .inr (4, [.ref w, .ref d, .ref on, .ref op, .int 0])), (w, .inr (3, [.int 0, .int 0, .ref wL, .ref wP, .ref wS]))] _ := hP
  have hD : va_D A [(d, .inr (3, [.int 0, .int 0, .ref dL, .ref dP, .ref dS])), (onC, .inl (cI, 20, .inl gn)), (opC, .inl (cI, 20, .inl gp)), (on, .inr (7, [.ref onR, .ref onL, .ref onC, .ref onD, .int 0])), (onL, .inl (cI, 20, .inl (fun _ => 0))), (op, .inr (7, [.ref opR, .ref opL, .ref opC, .ref opD, .int 0])), (opL, .inl (cI, 20, .inl (fun _ => 0))), (co, .inr (4, [.ref w, .ref d, .ref on, .ref op, .int 0])), (w, .inr (3, [.int 0, .int 0, .ref wL, .ref wP, .ref wS]))] := hD
  refine lv_aload_n hx hb dX1_startColours_23 rfl (lv_at hl 0 rfl) ?_
  refine lv_aload_n hx hb dX1_startColours_24 rfl (lv_at hl 0 rfl) ?_
  refine va_get (D := (dC, dI)) (ci := 4) (v := .ref d) (C := RX1) (T := TX1) (N := 5) hx hb hts (fun w h => List.mem_cons_of_mem _ (List.mem_append_left _ (List.mem_append_left _ (List.mem_append_left _ (List.mem_append_left _ (List.mem_append_right _ (h))))))) hown hK hP 7 rfl rfl 1 (by decide) (hts (.fieldLink RX1 25 "Netcompare$Colours" "drawn" "LNetcompare$Circuit;") (List.mem_cons_of_mem _ (List.mem_append_left _ (List.mem_append_left _ (List.mem_append_left _ (List.mem_append_left _ (List.mem_append_left _ (List.mem_append_left _ (List.mem_of_getElem? (i := 3) rfl))))))))) (fun _ h9 => h9) rfl dX1_startColours_25 ?_
  refine lv_iconst (v := 1) hx hb dX1_startColours_28 (by decide) ?_
  have hPc := hP.sub (ws' := [(co, .inr (4, [.ref w, .ref d, .ref on, .ref op, .int 0])), (d, .inr (3, [.int 0, .int 0, .ref dL, .ref dP, .ref dS]))]) [7, 0] rfl
  have hDc := hD.sub (ws' := [(co, .inr (4, [.ref w, .ref d, .ref on, .ref op, .int 0])), (d, .inr (3, [.int 0, .int 0, .ref dL, .ref dP, .ref dS]))]) [7, 0] (by decide) rfl
  have hKc := hK.sub (tys' := []) [] rfl
  have hFc := va_free (wc := [(co, .inr (4, [.ref w, .ref d, .ref on, .ref op, .int 0])), (d, .inr (3, [.int 0, .int 0, .ref dL, .ref dP, .ref dS]))]) hD hS hA [7, 0] rfl
  refine va_callv (va_runV (As := [.ref d, .int 1]) (rest := []) ⟨hx, hb, hml, hown, hts⟩ (kX1_writeFirstRows l dC dI co w d on op d dL dP dS 1 H.size) (cwV 2 hts gX1_startColours_X1_writeFirstRows rfl rfl rfl (by decide +kernel) ⟨Nat.le_of_ble_eq_true rfl, Nat.le_of_ble_eq_true rfl⟩) (fPreV hN hZ hS (fun q h => hFc q h) hPc hKc hDc (ci := 4) (q0 := 0) rfl rfl) rfl rfl hl.1 rfl (lv_room (Nat.le_of_ble_eq_true rfl)) dX1_startColours_29 ⟨Nat.le_of_ble_eq_true rfl, Nat.le_of_ble_eq_true rfl⟩) hS (fun q _ h => hFc q h) hFc (fun u t H1 locs ht hvm hw hB hz1 hk1 hS => ?_)
  obtain ⟨hP1, hK1, hD1⟩ := hB
  rw [ht] at hP1
  have hK1 := va_K.moved hvm.symm hK1
  obtain ⟨hP, hD⟩ := va_join (wr := [(onC, .inl (cI, 20, .inl gn)), (opC, .inl (cI, 20, .inl gp)), (on, .inr (7, [.ref onR, .ref onL, .ref onC, .ref onD, .int 0])), (onL, .inl (cI, 20, .inl (fun _ => 0))), (op, .inr (7, [.ref opR, .ref opL, .ref opC, .ref opD, .int 0])), (opL, .inl (cI, 20, .inl (fun _ => 0))), (w, .inr (3, [.int 0, .int 0, .ref wL, .ref wP, .ref wS]))]) (w1 := [(co, .inr (4, [.ref w, .ref d, .ref on, .ref op, .int 0])), (d, .inr (3, [.int 0, .int 0, .ref dL, .ref dP, .ref dS]))]) hP hD [7, 0] [1, 2, 3, 4, 5, 6, 8] rfl rfl (by decide) (by decide) hk1 hFc hP1 hD1
  generalize H1 = H at hP hS ⊢
  have hP : va_P (dC, dI) vwCl [(onC, .inl (cI, 20, .inl gn)), (opC, .inl (cI, 20, .inl gp)), (on, .inr (7, [.ref onR, .ref onL, .ref onC, .ref onD, .int 0])), (onL, .inl (cI, 20, .inl (fun _ => 0))), (op, .inr (7, [.ref opR, .ref opL, .ref opC, .ref opD, .int 0])), (opL, .inl (cI, 20, .inl (fun _ => 0))), (w, .inr (3, [.int 0, .int 0, .ref wL, .ref wP, .ref wS])), (co, .inr (4, [.ref w, .ref d, .ref on, .ref op, .int 0])), (d, .inr (3, [.int 0, .int 0, .ref dL, .ref dP, .ref dS]))] _ := hP
  have hD : va_D A [(onC, .inl (cI, 20, .inl gn)), (opC, .inl (cI, 20, .inl gp)), (on, .inr (7, [.ref onR, .ref onL, .ref onC, .ref onD, .int 0])), (onL, .inl (cI, 20, .inl (fun _ => 0))), (op, .inr (7, [.ref opR, .ref opL, .ref opC, .ref opD, .int 0])), (opL, .inl (cI, 20, .inl (fun _ => 0))), (w, .inr (3, [.int 0, .int 0, .ref wL, .ref wP, .ref wS])), (co, .inr (4, [.ref w, .ref d, .ref on, .ref op, .int 0])), (d, .inr (3, [.int 0, .int 0, .ref dL, .ref dP, .ref dS]))] := hD
  refine lv_aload_n hx hb dX1_startColours_32 rfl (lv_at hl 0 rfl) ?_
  refine va_get (D := (dC, dI)) (ci := 4) (v := .ref on) (C := RX1) (T := TX1) (N := 5) hx hb hts (fun w h => List.mem_cons_of_mem _ (List.mem_append_left _ (List.mem_append_left _ (List.mem_append_left _ (List.mem_append_left _ (List.mem_append_right _ (h))))))) hown hK hP 7 rfl rfl 2 (by decide) (hts (.fieldLink RX1 12 "Netcompare$Colours" "ofNets" "LNetcompare$Members;") (List.mem_cons_of_mem _ (List.mem_append_left _ (List.mem_append_left _ (List.mem_append_left _ (List.mem_append_left _ (List.mem_append_left _ (List.mem_append_left _ (List.mem_of_getElem? (i := 0) rfl))))))))) (fun _ h9 => h9) rfl dX1_startColours_33 ?_
  have hPc := hP.sub (ws' := [(on, .inr (7, [.ref onR, .ref onL, .ref onC, .ref onD, .int 0])), (onL, .inl (cI, 20, .inl (fun _ => 0))), (onC, .inl (cI, 20, .inl gn))]) [2, 3, 0] rfl
  have hDc := hD.sub (ws' := [(on, .inr (7, [.ref onR, .ref onL, .ref onC, .ref onD, .int 0])), (onL, .inl (cI, 20, .inl (fun _ => 0))), (onC, .inl (cI, 20, .inl gn))]) [2, 3, 0] (by decide) rfl
  have hKc := hK.sub (tys' := [(cI, .int)]) [0] rfl
  have hFc := va_free (wc := [(on, .inr (7, [.ref onR, .ref onL, .ref onC, .ref onD, .int 0])), (onL, .inl (cI, 20, .inl (fun _ => 0))), (onC, .inl (cI, 20, .inl gn))]) hD hS hA [2, 3, 0] rfl
  refine va_callv (va_runV (As := []) (rest := []) ⟨hx, hb, hml, hown, hts⟩ (kX4_colourByRows l dC dI on onR onL onC onD cI gn H.size) (cwV 0 hts gX1_startColours_X4_colourByRows rfl rfl rfl (by decide +kernel) ⟨Nat.le_of_ble_eq_true rfl, Nat.le_of_ble_eq_true rfl⟩) (fPreV hN hZ hS (fun q h => hFc q h) hPc hKc hDc (ci := 7) (q0 := 0) rfl rfl) rfl rfl hl.1 rfl (lv_room (Nat.le_of_ble_eq_true rfl)) dX1_startColours_36 ⟨Nat.le_of_ble_eq_true rfl, Nat.le_of_ble_eq_true rfl⟩) hS (fun q _ h => hFc q h) hFc (fun u t H1 locs ht hvm hw hB hz1 hk1 hS => ?_)
  obtain ⟨hP1, hK1, hD1⟩ := hB
  rw [ht] at hP1
  have hK1 := va_K.moved hvm.symm hK1
  obtain ⟨u1, rfl⟩ : ∃ z, z = u := ⟨_, rfl⟩
  obtain ⟨hP, hD⟩ := va_join (wr := [(opC, .inl (cI, 20, .inl gp)), (op, .inr (7, [.ref opR, .ref opL, .ref opC, .ref opD, .int 0])), (opL, .inl (cI, 20, .inl (fun _ => 0))), (w, .inr (3, [.int 0, .int 0, .ref wL, .ref wP, .ref wS])), (co, .inr (4, [.ref w, .ref d, .ref on, .ref op, .int 0])), (d, .inr (3, [.int 0, .int 0, .ref dL, .ref dP, .ref dS]))]) (w1 := [(on, .inr (7, [.ref onR, .ref onL, .ref onC, .ref onD, .int 0])), (onL, .inl (cI, 20, .inl (fun _ => 0))), (onC, .inl (cI, 20, .inl u1))]) hP hD [2, 3, 0] [1, 4, 5, 6, 7, 8] rfl rfl (by decide) (by decide) hk1 hFc hP1 hD1
  generalize H1 = H at hP hS ⊢
  have hP : va_P (dC, dI) vwCl [(opC, .inl (cI, 20, .inl gp)), (op, .inr (7, [.ref opR, .ref opL, .ref opC, .ref opD, .int 0])), (opL, .inl (cI, 20, .inl (fun _ => 0))), (w, .inr (3, [.int 0, .int 0, .ref wL, .ref wP, .ref wS])), (co, .inr (4, [.ref w, .ref d, .ref on, .ref op, .int 0])), (d, .inr (3, [.int 0, .int 0, .ref dL, .ref dP, .ref dS])), (on, .inr (7, [.ref onR, .ref onL, .ref onC, .ref onD, .int 0])), (onL, .inl (cI, 20, .inl (fun _ => 0))), (onC, .inl (cI, 20, .inl u1))] _ := hP
  have hD : va_D A [(opC, .inl (cI, 20, .inl gp)), (op, .inr (7, [.ref opR, .ref opL, .ref opC, .ref opD, .int 0])), (opL, .inl (cI, 20, .inl (fun _ => 0))), (w, .inr (3, [.int 0, .int 0, .ref wL, .ref wP, .ref wS])), (co, .inr (4, [.ref w, .ref d, .ref on, .ref op, .int 0])), (d, .inr (3, [.int 0, .int 0, .ref dL, .ref dP, .ref dS])), (on, .inr (7, [.ref onR, .ref onL, .ref onC, .ref onD, .int 0])), (onL, .inl (cI, 20, .inl (fun _ => 0))), (onC, .inl (cI, 20, .inl u1))] := hD
  refine lv_aload_n hx hb dX1_startColours_39 rfl (lv_at hl 0 rfl) ?_
  refine va_get (D := (dC, dI)) (ci := 4) (v := .ref op) (C := RX1) (T := TX1) (N := 5) hx hb hts (fun w h => List.mem_cons_of_mem _ (List.mem_append_left _ (List.mem_append_left _ (List.mem_append_left _ (List.mem_append_left _ (List.mem_append_right _ (h))))))) hown hK hP 4 rfl rfl 3 (by decide) (hts (.fieldLink RX1 18 "Netcompare$Colours" "ofParts" "LNetcompare$Members;") (List.mem_cons_of_mem _ (List.mem_append_left _ (List.mem_append_left _ (List.mem_append_left _ (List.mem_append_left _ (List.mem_append_left _ (List.mem_append_left _ (List.mem_of_getElem? (i := 1) rfl))))))))) (fun _ h9 => h9) rfl dX1_startColours_40 ?_
  have hPc := hP.sub (ws' := [(op, .inr (7, [.ref opR, .ref opL, .ref opC, .ref opD, .int 0])), (opL, .inl (cI, 20, .inl (fun _ => 0))), (opC, .inl (cI, 20, .inl gp))]) [1, 2, 0] rfl
  have hDc := hD.sub (ws' := [(op, .inr (7, [.ref opR, .ref opL, .ref opC, .ref opD, .int 0])), (opL, .inl (cI, 20, .inl (fun _ => 0))), (opC, .inl (cI, 20, .inl gp))]) [1, 2, 0] (by decide) rfl
  have hKc := hK.sub (tys' := [(cI, .int)]) [0] rfl
  have hFc := va_free (wc := [(op, .inr (7, [.ref opR, .ref opL, .ref opC, .ref opD, .int 0])), (opL, .inl (cI, 20, .inl (fun _ => 0))), (opC, .inl (cI, 20, .inl gp))]) hD hS hA [1, 2, 0] rfl
  refine va_callv (va_runV (As := []) (rest := []) ⟨hx, hb, hml, hown, hts⟩ (kX4_colourByRows l dC dI op opR opL opC opD cI gp H.size) (cwV 0 hts gX1_startColours_X4_colourByRows rfl rfl rfl (by decide +kernel) ⟨Nat.le_of_ble_eq_true rfl, Nat.le_of_ble_eq_true rfl⟩) (fPreV hN hZ hS (fun q h => hFc q h) hPc hKc hDc (ci := 7) (q0 := 0) rfl rfl) rfl rfl hl.1 rfl (lv_room (Nat.le_of_ble_eq_true rfl)) dX1_startColours_43 ⟨Nat.le_of_ble_eq_true rfl, Nat.le_of_ble_eq_true rfl⟩) hS (fun q _ h => hFc q h) hFc (fun u t H1 locs ht hvm hw hB hz1 hk1 hS => ?_)
  obtain ⟨hP1, hK1, hD1⟩ := hB
  rw [ht] at hP1
  have hK1 := va_K.moved hvm.symm hK1
  obtain ⟨u2, rfl⟩ : ∃ z, z = u := ⟨_, rfl⟩
  obtain ⟨hP, hD⟩ := va_join (wr := [(w, .inr (3, [.int 0, .int 0, .ref wL, .ref wP, .ref wS])), (co, .inr (4, [.ref w, .ref d, .ref on, .ref op, .int 0])), (d, .inr (3, [.int 0, .int 0, .ref dL, .ref dP, .ref dS])), (on, .inr (7, [.ref onR, .ref onL, .ref onC, .ref onD, .int 0])), (onL, .inl (cI, 20, .inl (fun _ => 0))), (onC, .inl (cI, 20, .inl u1))]) (w1 := [(op, .inr (7, [.ref opR, .ref opL, .ref opC, .ref opD, .int 0])), (opL, .inl (cI, 20, .inl (fun _ => 0))), (opC, .inl (cI, 20, .inl u2))]) hP hD [1, 2, 0] [3, 4, 5, 6, 7, 8] rfl rfl (by decide) (by decide) hk1 hFc hP1 hD1
  generalize H1 = H at hP hS ⊢
  have hP : va_P (dC, dI) vwCl [(w, .inr (3, [.int 0, .int 0, .ref wL, .ref wP, .ref wS])), (co, .inr (4, [.ref w, .ref d, .ref on, .ref op, .int 0])), (d, .inr (3, [.int 0, .int 0, .ref dL, .ref dP, .ref dS])), (on, .inr (7, [.ref onR, .ref onL, .ref onC, .ref onD, .int 0])), (onL, .inl (cI, 20, .inl (fun _ => 0))), (onC, .inl (cI, 20, .inl u1)), (op, .inr (7, [.ref opR, .ref opL, .ref opC, .ref opD, .int 0])), (opL, .inl (cI, 20, .inl (fun _ => 0))), (opC, .inl (cI, 20, .inl u2))] _ := hP
  have hD : va_D A [(w, .inr (3, [.int 0, .int 0, .ref wL, .ref wP, .ref wS])), (co, .inr (4, [.ref w, .ref d, .ref on, .ref op, .int 0])), (d, .inr (3, [.int 0, .int 0, .ref dL, .ref dP, .ref dS])), (on, .inr (7, [.ref onR, .ref onL, .ref onC, .ref onD, .int 0])), (onL, .inl (cI, 20, .inl (fun _ => 0))), (onC, .inl (cI, 20, .inl u1)), (op, .inr (7, [.ref opR, .ref opL, .ref opC, .ref opD, .int 0])), (opL, .inl (cI, 20, .inl (fun _ => 0))), (opC, .inl (cI, 20, .inl u2))] := hD
  exact ret (u1, u2) _ _ _ _ _ _ (trivial) (hP.sub [1, 0, 2, 3, 4, 5, 6, 7, 8] rfl) (hK.sub [0] rfl) (hD.sub [1, 0, 2, 3, 4, 5, 6, 7, 8] (by decide) rfl) hS (Nat.le_of_ble_eq_true rfl) (Nat.le_of_ble_eq_true rfl) dX1_startColours_46

set_option maxHeartbeats 4000000 in
set_option maxRecDepth 100000 in
/-- goRound of two empty circuits -/
theorem kX1_goRound (l : Launch) (dC : Nat → ClassId) (dI : Nat → Nat → Nat) (co : Nat) (w wL wP wS d dL dP dS : Nat) (on onR onL onC onD op opR opL opC opD : Nat) (cI : ClassId) (gn gp : Nat → Int32) (sz : Nat) : fMi l yX1_goRound wsX1_goRound ({ frames := 1, cells := 0, slots := 0, locals := 24 } : Room) dC dI [.ref co] [(co, .inr (4, [.ref w, .ref d, .ref on, .ref op, .int 0])), (w, .inr (3, [.int 0, .int 0, .ref wL, .ref wP, .ref wS])), (d, .inr (3, [.int 0, .int 0, .ref dL, .ref dP, .ref dS])), (on, .inr (7, [.ref onR, .ref onL, .ref onC, .ref onD, .int 0])), (onL, .inl (cI, 20, .inl (fun _ => 0))), (onC, .inl (cI, 20, .inl gn)), (op, .inr (7, [.ref opR, .ref opL, .ref opC, .ref opD, .int 0])), (opL, .inl (cI, 20, .inl (fun _ => 0))), (opC, .inl (cI, 20, .inl gp))] [(cI, .int)] sz (fun (r : Int32) (u : (Nat → Int32) × (Nat → Int32)) => r = 0) (fun u => [(co, .inr (4, [.ref w, .ref d, .ref on, .ref op, .int 0])), (w, .inr (3, [.int 0, .int 0, .ref wL, .ref wP, .ref wS])), (d, .inr (3, [.int 0, .int 0, .ref dL, .ref dP, .ref dS])), (on, .inr (7, [.ref onR, .ref onL, .ref onC, .ref onD, .int 0])), (onL, .inl (cI, 20, .inl (fun _ => 0))), (onC, .inl (cI, 20, .inl u.1)), (op, .inr (7, [.ref opR, .ref opL, .ref opC, .ref opD, .int 0])), (opL, .inl (cI, 20, .inl (fun _ => 0))), (opC, .inl (cI, 20, .inl u.2))]) (fun u => [(cI, .int)]) := by
  refine oP_z (y := yX1_goRound) (cc := cX1_goRound) (maxL := 2) (by decide) rfl (Nat.le_of_ble_eq_true rfl) ?_
  intro p e s m args below meth c ls A Q hx hb hr hml hown hts hN hZ hA hin hlk hP hK hD hl ret
  have hS : va_S A s.heap s.heap [] := va_S.rf
  have hl : lv_has ls 2 [(0, .ref co)] := hl
  have hP : va_P (dC, dI) vwCl [(co, .inr (4, [.ref w, .ref d, .ref on, .ref op, .int 0])), (w, .inr (3, [.int 0, .int 0, .ref wL, .ref wP, .ref wS])), (d, .inr (3, [.int 0, .int 0, .ref dL, .ref dP, .ref dS])), (on, .inr (7, [.ref onR, .ref onL, .ref onC, .ref onD, .int 0])), (onL, .inl (cI, 20, .inl (fun _ => 0))), (onC, .inl (cI, 20, .inl gn)), (op, .inr (7, [.ref opR, .ref opL, .ref opC, .ref opD, .int 0])), (opL, .inl (cI, 20, .inl (fun _ => 0))), (opC, .inl (cI, 20, .inl gp))] _ := hP
  have hD : va_D A [(co, .inr (4, [.ref w, .ref d, .ref on, .ref op, .int 0])), (w, .inr (3, [.int 0, .int 0, .ref wL, .ref wP, .ref wS])), (d, .inr (3, [.int 0, .int 0, .ref dL, .ref dP, .ref dS])), (on, .inr (7, [.ref onR, .ref onL, .ref onC, .ref onD, .int 0])), (onL, .inl (cI, 20, .inl (fun _ => 0))), (onC, .inl (cI, 20, .inl gn)), (op, .inr (7, [.ref opR, .ref opL, .ref opC, .ref opD, .int 0])), (opL, .inl (cI, 20, .inl (fun _ => 0))), (opC, .inl (cI, 20, .inl gp))] := hD
  refine lv_aload_n hx hb dX1_goRound_0 rfl (lv_at hl 0 rfl) ?_
  have hPc := hP.sub (ws' := [(co, .inr (4, [.ref w, .ref d, .ref on, .ref op, .int 0])), (on, .inr (7, [.ref onR, .ref onL, .ref onC, .ref onD, .int 0])), (op, .inr (7, [.ref opR, .ref opL, .ref opC, .ref opD, .int 0]))]) [0, 3, 6] rfl
  have hDc := hD.sub (ws' := [(co, .inr (4, [.ref w, .ref d, .ref on, .ref op, .int 0])), (on, .inr (7, [.ref onR, .ref onL, .ref onC, .ref onD, .int 0])), (op, .inr (7, [.ref opR, .ref opL, .ref opC, .ref opD, .int 0]))]) [0, 3, 6] (by decide) rfl
  have hKc := hK.sub (tys' := []) [] rfl
  have hFc := va_free (wc := [(co, .inr (4, [.ref w, .ref d, .ref on, .ref op, .int 0])), (on, .inr (7, [.ref onR, .ref onL, .ref onC, .ref onD, .int 0])), (op, .inr (7, [.ref opR, .ref opL, .ref opC, .ref opD, .int 0]))]) hD hS hA [0, 3, 6] rfl
  refine va_calli (va_runV (As := []) (rest := []) ⟨hx, hb, hml, hown, hts⟩ (kX1_countClasses l dC dI co w d on op onR onL onC onD opR opL opC opD s.heap.size) (cwV 0 hts gX1_goRound_X1_countClasses rfl rfl rfl (by decide +kernel) ⟨Nat.le_of_ble_eq_true rfl, Nat.le_of_ble_eq_true rfl⟩) (fPreV hN hZ hS (fun q h => hFc q h) hPc hKc hDc (ci := 4) (q0 := 0) rfl rfl) rfl rfl hl.1 rfl (lv_room (Nat.le_of_ble_eq_true rfl)) dX1_goRound_1 ⟨Nat.le_of_ble_eq_true rfl, Nat.le_of_ble_eq_true rfl⟩) hS (fun q _ h => hFc q h) hFc (fun r u t H1 locs ht hvm hw hB hz1 hk1 hS => ?_)
  obtain ⟨hP1, hK1, hD1⟩ := hB
  rw [ht] at hP1
  have hK1 := va_K.moved hvm.symm hK1
  obtain ⟨hP, hD⟩ := va_join (wr := [(w, .inr (3, [.int 0, .int 0, .ref wL, .ref wP, .ref wS])), (d, .inr (3, [.int 0, .int 0, .ref dL, .ref dP, .ref dS])), (onL, .inl (cI, 20, .inl (fun _ => 0))), (onC, .inl (cI, 20, .inl gn)), (opL, .inl (cI, 20, .inl (fun _ => 0))), (opC, .inl (cI, 20, .inl gp))]) (w1 := [(co, .inr (4, [.ref w, .ref d, .ref on, .ref op, .int 0])), (on, .inr (7, [.ref onR, .ref onL, .ref onC, .ref onD, .int 0])), (op, .inr (7, [.ref opR, .ref opL, .ref opC, .ref opD, .int 0]))]) hP hD [0, 3, 6] [1, 2, 4, 5, 7, 8] rfl rfl (by decide) (by decide) hk1 hFc hP1 hD1
  generalize H1 = H at hP hS ⊢
  have hP : va_P (dC, dI) vwCl [(w, .inr (3, [.int 0, .int 0, .ref wL, .ref wP, .ref wS])), (d, .inr (3, [.int 0, .int 0, .ref dL, .ref dP, .ref dS])), (onL, .inl (cI, 20, .inl (fun _ => 0))), (onC, .inl (cI, 20, .inl gn)), (opL, .inl (cI, 20, .inl (fun _ => 0))), (opC, .inl (cI, 20, .inl gp)), (co, .inr (4, [.ref w, .ref d, .ref on, .ref op, .int 0])), (on, .inr (7, [.ref onR, .ref onL, .ref onC, .ref onD, .int 0])), (op, .inr (7, [.ref opR, .ref opL, .ref opC, .ref opD, .int 0]))] _ := hP
  have hD : va_D A [(w, .inr (3, [.int 0, .int 0, .ref wL, .ref wP, .ref wS])), (d, .inr (3, [.int 0, .int 0, .ref dL, .ref dP, .ref dS])), (onL, .inl (cI, 20, .inl (fun _ => 0))), (onC, .inl (cI, 20, .inl gn)), (opL, .inl (cI, 20, .inl (fun _ => 0))), (opC, .inl (cI, 20, .inl gp)), (co, .inr (4, [.ref w, .ref d, .ref on, .ref op, .int 0])), (on, .inr (7, [.ref onR, .ref onL, .ref onC, .ref onD, .int 0])), (op, .inr (7, [.ref opR, .ref opL, .ref opC, .ref opD, .int 0]))] := hD
  subst hw
  refine lv_istore_n (lv' := [(1, .int 0), (0, .ref co)]) hx hb dX1_goRound_4 rfl hl (Nat.le_of_ble_eq_true rfl) rfl (fun ls hl => ?_)
  refine lv_aload_n hx hb dX1_goRound_5 rfl (lv_at hl 1 rfl) ?_
  refine va_get (D := (dC, dI)) (ci := 4) (v := .ref on) (C := RX1) (T := TX1) (N := 5) hx hb hts (fun w h => List.mem_cons_of_mem _ (List.mem_append_left _ (List.mem_append_left _ (List.mem_append_left _ (List.mem_append_left _ (List.mem_append_right _ (h))))))) hown hK hP 6 rfl rfl 2 (by decide) (hts (.fieldLink RX1 12 "Netcompare$Colours" "ofNets" "LNetcompare$Members;") (List.mem_cons_of_mem _ (List.mem_append_left _ (List.mem_append_left _ (List.mem_append_left _ (List.mem_append_left _ (List.mem_append_left _ (List.mem_append_left _ (List.mem_of_getElem? (i := 0) rfl))))))))) (fun _ h9 => h9) rfl dX1_goRound_6 ?_
  have hPc := hP.sub (ws' := [(on, .inr (7, [.ref onR, .ref onL, .ref onC, .ref onD, .int 0])), (onL, .inl (cI, 20, .inl (fun _ => 0)))]) [7, 2] rfl
  have hDc := hD.sub (ws' := [(on, .inr (7, [.ref onR, .ref onL, .ref onC, .ref onD, .int 0])), (onL, .inl (cI, 20, .inl (fun _ => 0)))]) [7, 2] (by decide) rfl
  have hKc := hK.sub (tys' := [(cI, .int)]) [0] rfl
  have hFc := va_free (wc := [(on, .inr (7, [.ref onR, .ref onL, .ref onC, .ref onD, .int 0])), (onL, .inl (cI, 20, .inl (fun _ => 0)))]) hD hS hA [7, 2] rfl
  refine va_callv (va_runV (As := []) (rest := []) ⟨hx, hb, hml, hown, hts⟩ (kX4_startRows l dC dI on onR onL onC onD cI H.size) (cwV 0 hts gX1_goRound_X4_startRows rfl rfl rfl (by decide +kernel) ⟨Nat.le_of_ble_eq_true rfl, Nat.le_of_ble_eq_true rfl⟩) (fPreV hN hZ hS (fun q h => hFc q h) hPc hKc hDc (ci := 7) (q0 := 0) rfl rfl) rfl rfl hl.1 rfl (lv_room (Nat.le_of_ble_eq_true rfl)) dX1_goRound_9 ⟨Nat.le_of_ble_eq_true rfl, Nat.le_of_ble_eq_true rfl⟩) hS (fun q _ h => hFc q h) hFc (fun u t H1 locs ht hvm hw hB hz1 hk1 hS => ?_)
  obtain ⟨hP1, hK1, hD1⟩ := hB
  rw [ht] at hP1
  have hK1 := va_K.moved hvm.symm hK1
  obtain ⟨hP, hD⟩ := va_join (wr := [(w, .inr (3, [.int 0, .int 0, .ref wL, .ref wP, .ref wS])), (d, .inr (3, [.int 0, .int 0, .ref dL, .ref dP, .ref dS])), (onC, .inl (cI, 20, .inl gn)), (opL, .inl (cI, 20, .inl (fun _ => 0))), (opC, .inl (cI, 20, .inl gp)), (co, .inr (4, [.ref w, .ref d, .ref on, .ref op, .int 0])), (op, .inr (7, [.ref opR, .ref opL, .ref opC, .ref opD, .int 0]))]) (w1 := [(on, .inr (7, [.ref onR, .ref onL, .ref onC, .ref onD, .int 0])), (onL, .inl (cI, 20, .inl (fun _ => 0)))]) hP hD [7, 2] [0, 1, 3, 4, 5, 6, 8] rfl rfl (by decide) (by decide) hk1 hFc hP1 hD1
  generalize H1 = H at hP hS ⊢
  have hP : va_P (dC, dI) vwCl [(w, .inr (3, [.int 0, .int 0, .ref wL, .ref wP, .ref wS])), (d, .inr (3, [.int 0, .int 0, .ref dL, .ref dP, .ref dS])), (onC, .inl (cI, 20, .inl gn)), (opL, .inl (cI, 20, .inl (fun _ => 0))), (opC, .inl (cI, 20, .inl gp)), (co, .inr (4, [.ref w, .ref d, .ref on, .ref op, .int 0])), (op, .inr (7, [.ref opR, .ref opL, .ref opC, .ref opD, .int 0])), (on, .inr (7, [.ref onR, .ref onL, .ref onC, .ref onD, .int 0])), (onL, .inl (cI, 20, .inl (fun _ => 0)))] _ := hP
  have hD : va_D A [(w, .inr (3, [.int 0, .int 0, .ref wL, .ref wP, .ref wS])), (d, .inr (3, [.int 0, .int 0, .ref dL, .ref dP, .ref dS])), (onC, .inl (cI, 20, .inl gn)), (opL, .inl (cI, 20, .inl (fun _ => 0))), (opC, .inl (cI, 20, .inl gp)), (co, .inr (4, [.ref w, .ref d, .ref on, .ref op, .int 0])), (op, .inr (7, [.ref opR, .ref opL, .ref opC, .ref opD, .int 0])), (on, .inr (7, [.ref onR, .ref onL, .ref onC, .ref onD, .int 0])), (onL, .inl (cI, 20, .inl (fun _ => 0)))] := hD
  refine lv_aload_n hx hb dX1_goRound_12 rfl (lv_at hl 1 rfl) ?_
  refine va_get (D := (dC, dI)) (ci := 4) (v := .ref op) (C := RX1) (T := TX1) (N := 5) hx hb hts (fun w h => List.mem_cons_of_mem _ (List.mem_append_left _ (List.mem_append_left _ (List.mem_append_left _ (List.mem_append_left _ (List.mem_append_right _ (h))))))) hown hK hP 5 rfl rfl 3 (by decide) (hts (.fieldLink RX1 18 "Netcompare$Colours" "ofParts" "LNetcompare$Members;") (List.mem_cons_of_mem _ (List.mem_append_left _ (List.mem_append_left _ (List.mem_append_left _ (List.mem_append_left _ (List.mem_append_left _ (List.mem_append_left _ (List.mem_of_getElem? (i := 1) rfl))))))))) (fun _ h9 => h9) rfl dX1_goRound_13 ?_
  have hPc := hP.sub (ws' := [(op, .inr (7, [.ref opR, .ref opL, .ref opC, .ref opD, .int 0])), (opL, .inl (cI, 20, .inl (fun _ => 0)))]) [6, 3] rfl
  have hDc := hD.sub (ws' := [(op, .inr (7, [.ref opR, .ref opL, .ref opC, .ref opD, .int 0])), (opL, .inl (cI, 20, .inl (fun _ => 0)))]) [6, 3] (by decide) rfl
  have hKc := hK.sub (tys' := [(cI, .int)]) [0] rfl
  have hFc := va_free (wc := [(op, .inr (7, [.ref opR, .ref opL, .ref opC, .ref opD, .int 0])), (opL, .inl (cI, 20, .inl (fun _ => 0)))]) hD hS hA [6, 3] rfl
  refine va_callv (va_runV (As := []) (rest := []) ⟨hx, hb, hml, hown, hts⟩ (kX4_startRows l dC dI op opR opL opC opD cI H.size) (cwV 0 hts gX1_goRound_X4_startRows rfl rfl rfl (by decide +kernel) ⟨Nat.le_of_ble_eq_true rfl, Nat.le_of_ble_eq_true rfl⟩) (fPreV hN hZ hS (fun q h => hFc q h) hPc hKc hDc (ci := 7) (q0 := 0) rfl rfl) rfl rfl hl.1 rfl (lv_room (Nat.le_of_ble_eq_true rfl)) dX1_goRound_16 ⟨Nat.le_of_ble_eq_true rfl, Nat.le_of_ble_eq_true rfl⟩) hS (fun q _ h => hFc q h) hFc (fun u t H1 locs ht hvm hw hB hz1 hk1 hS => ?_)
  obtain ⟨hP1, hK1, hD1⟩ := hB
  rw [ht] at hP1
  have hK1 := va_K.moved hvm.symm hK1
  obtain ⟨hP, hD⟩ := va_join (wr := [(w, .inr (3, [.int 0, .int 0, .ref wL, .ref wP, .ref wS])), (d, .inr (3, [.int 0, .int 0, .ref dL, .ref dP, .ref dS])), (onC, .inl (cI, 20, .inl gn)), (opC, .inl (cI, 20, .inl gp)), (co, .inr (4, [.ref w, .ref d, .ref on, .ref op, .int 0])), (on, .inr (7, [.ref onR, .ref onL, .ref onC, .ref onD, .int 0])), (onL, .inl (cI, 20, .inl (fun _ => 0)))]) (w1 := [(op, .inr (7, [.ref opR, .ref opL, .ref opC, .ref opD, .int 0])), (opL, .inl (cI, 20, .inl (fun _ => 0)))]) hP hD [6, 3] [0, 1, 2, 4, 5, 7, 8] rfl rfl (by decide) (by decide) hk1 hFc hP1 hD1
  generalize H1 = H at hP hS ⊢
  have hP : va_P (dC, dI) vwCl [(w, .inr (3, [.int 0, .int 0, .ref wL, .ref wP, .ref wS])), (d, .inr (3, [.int 0, .int 0, .ref dL, .ref dP, .ref dS])), (onC, .inl (cI, 20, .inl gn)), (opC, .inl (cI, 20, .inl gp)), (co, .inr (4, [.ref w, .ref d, .ref on, .ref op, .int 0])), (on, .inr (7, [.ref onR, .ref onL, .ref onC, .ref onD, .int 0])), (onL, .inl (cI, 20, .inl (fun _ => 0))), (op, .inr (7, [.ref opR, .ref opL, .ref opC, .ref opD, .int 0])), (opL, .inl (cI, 20, .inl (fun _ => 0)))] _ := hP
  have hD : va_D A [(w, .inr (3, [.int 0, .int 0, .ref wL, .ref wP, .ref wS])), (d, .inr (3, [.int 0, .int 0, .ref dL, .ref dP, .ref dS])), (onC, .inl (cI, 20, .inl gn)), (opC, .inl (cI, 20, .inl gp)), (co, .inr (4, [.ref w, .ref d, .ref on, .ref op, .int 0])), (on, .inr (7, [.ref onR, .ref onL, .ref onC, .ref onD, .int 0])), (onL, .inl (cI, 20, .inl (fun _ => 0))), (op, .inr (7, [.ref opR, .ref opL, .ref opC, .ref opD, .int 0])), (opL, .inl (cI, 20, .inl (fun _ => 0)))] := hD
  refine lv_aload_n hx hb dX1_goRound_19 rfl (lv_at hl 1 rfl) ?_
  refine lv_aload_n hx hb dX1_goRound_20 rfl (lv_at hl 1 rfl) ?_
  refine va_get (D := (dC, dI)) (ci := 4) (v := .ref w) (C := RX1) (T := TX1) (N := 5) hx hb hts (fun w h => List.mem_cons_of_mem _ (List.mem_append_left _ (List.mem_append_left _ (List.mem_append_left _ (List.mem_append_left _ (List.mem_append_right _ (h))))))) hown hK hP 4 rfl rfl 0 (by decide) (hts (.fieldLink RX1 21 "Netcompare$Colours" "wished" "LNetcompare$Circuit;") (List.mem_cons_of_mem _ (List.mem_append_left _ (List.mem_append_left _ (List.mem_append_left _ (List.mem_append_left _ (List.mem_append_left _ (List.mem_append_left _ (List.mem_of_getElem? (i := 2) rfl))))))))) (fun _ h9 => h9) rfl dX1_goRound_21 ?_
  refine lv_iconst (v := 0) hx hb dX1_goRound_24 (by decide) ?_
  have hPc := hP.sub (ws' := [(co, .inr (4, [.ref w, .ref d, .ref on, .ref op, .int 0])), (w, .inr (3, [.int 0, .int 0, .ref wL, .ref wP, .ref wS]))]) [4, 0] rfl
  have hDc := hD.sub (ws' := [(co, .inr (4, [.ref w, .ref d, .ref on, .ref op, .int 0])), (w, .inr (3, [.int 0, .int 0, .ref wL, .ref wP, .ref wS]))]) [4, 0] (by decide) rfl
  have hKc := hK.sub (tys' := []) [] rfl
  have hFc := va_free (wc := [(co, .inr (4, [.ref w, .ref d, .ref on, .ref op, .int 0])), (w, .inr (3, [.int 0, .int 0, .ref wL, .ref wP, .ref wS]))]) hD hS hA [4, 0] rfl
  refine va_callv (va_runV (As := [.ref w, .int 0]) (rest := []) ⟨hx, hb, hml, hown, hts⟩ (kX1_writeRows l dC dI co w d on op w wL wP wS 0 H.size) (cwV 2 hts gX1_goRound_X1_writeRows rfl rfl rfl (by decide +kernel) ⟨Nat.le_of_ble_eq_true rfl, Nat.le_of_ble_eq_true rfl⟩) (fPreV hN hZ hS (fun q h => hFc q h) hPc hKc hDc (ci := 4) (q0 := 0) rfl rfl) rfl rfl hl.1 rfl (lv_room (Nat.le_of_ble_eq_true rfl)) dX1_goRound_25 ⟨Nat.le_of_ble_eq_true rfl, Nat.le_of_ble_eq_true rfl⟩) hS (fun q _ h => hFc q h) hFc (fun u t H1 locs ht hvm hw hB hz1 hk1 hS => ?_)
  obtain ⟨hP1, hK1, hD1⟩ := hB
  rw [ht] at hP1
  have hK1 := va_K.moved hvm.symm hK1
  obtain ⟨hP, hD⟩ := va_join (wr := [(d, .inr (3, [.int 0, .int 0, .ref dL, .ref dP, .ref dS])), (onC, .inl (cI, 20, .inl gn)), (opC, .inl (cI, 20, .inl gp)), (on, .inr (7, [.ref onR, .ref onL, .ref onC, .ref onD, .int 0])), (onL, .inl (cI, 20, .inl (fun _ => 0))), (op, .inr (7, [.ref opR, .ref opL, .ref opC, .ref opD, .int 0])), (opL, .inl (cI, 20, .inl (fun _ => 0)))]) (w1 := [(co, .inr (4, [.ref w, .ref d, .ref on, .ref op, .int 0])), (w, .inr (3, [.int 0, .int 0, .ref wL, .ref wP, .ref wS]))]) hP hD [4, 0] [1, 2, 3, 5, 6, 7, 8] rfl rfl (by decide) (by decide) hk1 hFc hP1 hD1
  generalize H1 = H at hP hS ⊢
  have hP : va_P (dC, dI) vwCl [(d, .inr (3, [.int 0, .int 0, .ref dL, .ref dP, .ref dS])), (onC, .inl (cI, 20, .inl gn)), (opC, .inl (cI, 20, .inl gp)), (on, .inr (7, [.ref onR, .ref onL, .ref onC, .ref onD, .int 0])), (onL, .inl (cI, 20, .inl (fun _ => 0))), (op, .inr (7, [.ref opR, .ref opL, .ref opC, .ref opD, .int 0])), (opL, .inl (cI, 20, .inl (fun _ => 0))), (co, .inr (4, [.ref w, .ref d, .ref on, .ref op, .int 0])), (w, .inr (3, [.int 0, .int 0, .ref wL, .ref wP, .ref wS]))] _ := hP
  have hD : va_D A [(d, .inr (3, [.int 0, .int 0, .ref dL, .ref dP, .ref dS])), (onC, .inl (cI, 20, .inl gn)), (opC, .inl (cI, 20, .inl gp)), (on, .inr (7, [.ref onR, .ref onL, .ref onC, .ref onD, .int 0])), (onL, .inl (cI, 20, .inl (fun _ => 0))), (op, .inr (7, [.ref opR, .ref opL, .ref opC, .ref opD, .int 0])), (opL, .inl (cI, 20, .inl (fun _ => 0))), (co, .inr (4, [.ref w, .ref d, .ref on, .ref op, .int 0])), (w, .inr (3, [.int 0, .int 0, .ref wL, .ref wP, .ref wS]))] := hD
  refine lv_aload_n hx hb dX1_goRound_28 rfl (lv_at hl 1 rfl) ?_
  refine lv_aload_n hx hb dX1_goRound_29 rfl (lv_at hl 1 rfl) ?_
  refine va_get (D := (dC, dI)) (ci := 4) (v := .ref d) (C := RX1) (T := TX1) (N := 5) hx hb hts (fun w h => List.mem_cons_of_mem _ (List.mem_append_left _ (List.mem_append_left _ (List.mem_append_left _ (List.mem_append_left _ (List.mem_append_right _ (h))))))) hown hK hP 7 rfl rfl 1 (by decide) (hts (.fieldLink RX1 25 "Netcompare$Colours" "drawn" "LNetcompare$Circuit;") (List.mem_cons_of_mem _ (List.mem_append_left _ (List.mem_append_left _ (List.mem_append_left _ (List.mem_append_left _ (List.mem_append_left _ (List.mem_append_left _ (List.mem_of_getElem? (i := 3) rfl))))))))) (fun _ h9 => h9) rfl dX1_goRound_30 ?_
  refine lv_iconst (v := 1) hx hb dX1_goRound_33 (by decide) ?_
  have hPc := hP.sub (ws' := [(co, .inr (4, [.ref w, .ref d, .ref on, .ref op, .int 0])), (d, .inr (3, [.int 0, .int 0, .ref dL, .ref dP, .ref dS]))]) [7, 0] rfl
  have hDc := hD.sub (ws' := [(co, .inr (4, [.ref w, .ref d, .ref on, .ref op, .int 0])), (d, .inr (3, [.int 0, .int 0, .ref dL, .ref dP, .ref dS]))]) [7, 0] (by decide) rfl
  have hKc := hK.sub (tys' := []) [] rfl
  have hFc := va_free (wc := [(co, .inr (4, [.ref w, .ref d, .ref on, .ref op, .int 0])), (d, .inr (3, [.int 0, .int 0, .ref dL, .ref dP, .ref dS]))]) hD hS hA [7, 0] rfl
  refine va_callv (va_runV (As := [.ref d, .int 1]) (rest := []) ⟨hx, hb, hml, hown, hts⟩ (kX1_writeRows l dC dI co w d on op d dL dP dS 1 H.size) (cwV 2 hts gX1_goRound_X1_writeRows rfl rfl rfl (by decide +kernel) ⟨Nat.le_of_ble_eq_true rfl, Nat.le_of_ble_eq_true rfl⟩) (fPreV hN hZ hS (fun q h => hFc q h) hPc hKc hDc (ci := 4) (q0 := 0) rfl rfl) rfl rfl hl.1 rfl (lv_room (Nat.le_of_ble_eq_true rfl)) dX1_goRound_34 ⟨Nat.le_of_ble_eq_true rfl, Nat.le_of_ble_eq_true rfl⟩) hS (fun q _ h => hFc q h) hFc (fun u t H1 locs ht hvm hw hB hz1 hk1 hS => ?_)
  obtain ⟨hP1, hK1, hD1⟩ := hB
  rw [ht] at hP1
  have hK1 := va_K.moved hvm.symm hK1
  obtain ⟨hP, hD⟩ := va_join (wr := [(onC, .inl (cI, 20, .inl gn)), (opC, .inl (cI, 20, .inl gp)), (on, .inr (7, [.ref onR, .ref onL, .ref onC, .ref onD, .int 0])), (onL, .inl (cI, 20, .inl (fun _ => 0))), (op, .inr (7, [.ref opR, .ref opL, .ref opC, .ref opD, .int 0])), (opL, .inl (cI, 20, .inl (fun _ => 0))), (w, .inr (3, [.int 0, .int 0, .ref wL, .ref wP, .ref wS]))]) (w1 := [(co, .inr (4, [.ref w, .ref d, .ref on, .ref op, .int 0])), (d, .inr (3, [.int 0, .int 0, .ref dL, .ref dP, .ref dS]))]) hP hD [7, 0] [1, 2, 3, 4, 5, 6, 8] rfl rfl (by decide) (by decide) hk1 hFc hP1 hD1
  generalize H1 = H at hP hS ⊢
  have hP : va_P (dC, dI) vwCl [(onC, .inl (cI, 20, .inl gn)), (opC, .inl (cI, 20, .inl gp)), (on, .inr (7, [.ref onR, .ref onL, .ref onC, .ref onD, .int 0])), (onL, .inl (cI, 20, .inl (fun _ => 0))), (op, .inr (7, [.ref opR, .ref opL, .ref opC, .ref opD, .int 0])), (opL, .inl (cI, 20, .inl (fun _ => 0))), (w, .inr (3, [.int 0, .int 0, .ref wL, .ref wP, .ref wS])), (co, .inr (4, [.ref w, .ref d, .ref on, .ref op, .int 0])), (d, .inr (3, [.int 0, .int 0, .ref dL, .ref dP, .ref dS]))] _ := hP
  have hD : va_D A [(onC, .inl (cI, 20, .inl gn)), (opC, .inl (cI, 20, .inl gp)), (on, .inr (7, [.ref onR, .ref onL, .ref onC, .ref onD, .int 0])), (onL, .inl (cI, 20, .inl (fun _ => 0))), (op, .inr (7, [.ref opR, .ref opL, .ref opC, .ref opD, .int 0])), (opL, .inl (cI, 20, .inl (fun _ => 0))), (w, .inr (3, [.int 0, .int 0, .ref wL, .ref wP, .ref wS])), (co, .inr (4, [.ref w, .ref d, .ref on, .ref op, .int 0])), (d, .inr (3, [.int 0, .int 0, .ref dL, .ref dP, .ref dS]))] := hD
  refine lv_aload_n hx hb dX1_goRound_37 rfl (lv_at hl 1 rfl) ?_
  refine va_get (D := (dC, dI)) (ci := 4) (v := .ref on) (C := RX1) (T := TX1) (N := 5) hx hb hts (fun w h => List.mem_cons_of_mem _ (List.mem_append_left _ (List.mem_append_left _ (List.mem_append_left _ (List.mem_append_left _ (List.mem_append_right _ (h))))))) hown hK hP 7 rfl rfl 2 (by decide) (hts (.fieldLink RX1 12 "Netcompare$Colours" "ofNets" "LNetcompare$Members;") (List.mem_cons_of_mem _ (List.mem_append_left _ (List.mem_append_left _ (List.mem_append_left _ (List.mem_append_left _ (List.mem_append_left _ (List.mem_append_left _ (List.mem_of_getElem? (i := 0) rfl))))))))) (fun _ h9 => h9) rfl dX1_goRound_38 ?_
  have hPc := hP.sub (ws' := [(on, .inr (7, [.ref onR, .ref onL, .ref onC, .ref onD, .int 0])), (onL, .inl (cI, 20, .inl (fun _ => 0))), (onC, .inl (cI, 20, .inl gn))]) [2, 3, 0] rfl
  have hDc := hD.sub (ws' := [(on, .inr (7, [.ref onR, .ref onL, .ref onC, .ref onD, .int 0])), (onL, .inl (cI, 20, .inl (fun _ => 0))), (onC, .inl (cI, 20, .inl gn))]) [2, 3, 0] (by decide) rfl
  have hKc := hK.sub (tys' := [(cI, .int)]) [0] rfl
  have hFc := va_free (wc := [(on, .inr (7, [.ref onR, .ref onL, .ref onC, .ref onD, .int 0])), (onL, .inl (cI, 20, .inl (fun _ => 0))), (onC, .inl (cI, 20, .inl gn))]) hD hS hA [2, 3, 0] rfl
  refine va_callv (va_runV (As := []) (rest := []) ⟨hx, hb, hml, hown, hts⟩ (kX4_colourByRows l dC dI on onR onL onC onD cI gn H.size) (cwV 0 hts gX1_goRound_X4_colourByRows rfl rfl rfl (by decide +kernel) ⟨Nat.le_of_ble_eq_true rfl, Nat.le_of_ble_eq_true rfl⟩) (fPreV hN hZ hS (fun q h => hFc q h) hPc hKc hDc (ci := 7) (q0 := 0) rfl rfl) rfl rfl hl.1 rfl (lv_room (Nat.le_of_ble_eq_true rfl)) dX1_goRound_41 ⟨Nat.le_of_ble_eq_true rfl, Nat.le_of_ble_eq_true rfl⟩) hS (fun q _ h => hFc q h) hFc (fun u t H1 locs ht hvm hw hB hz1 hk1 hS => ?_)
  obtain ⟨hP1, hK1, hD1⟩ := hB
  rw [ht] at hP1
  have hK1 := va_K.moved hvm.symm hK1
  obtain ⟨u1, rfl⟩ : ∃ z, z = u := ⟨_, rfl⟩
  obtain ⟨hP, hD⟩ := va_join (wr := [(opC, .inl (cI, 20, .inl gp)), (op, .inr (7, [.ref opR, .ref opL, .ref opC, .ref opD, .int 0])), (opL, .inl (cI, 20, .inl (fun _ => 0))), (w, .inr (3, [.int 0, .int 0, .ref wL, .ref wP, .ref wS])), (co, .inr (4, [.ref w, .ref d, .ref on, .ref op, .int 0])), (d, .inr (3, [.int 0, .int 0, .ref dL, .ref dP, .ref dS]))]) (w1 := [(on, .inr (7, [.ref onR, .ref onL, .ref onC, .ref onD, .int 0])), (onL, .inl (cI, 20, .inl (fun _ => 0))), (onC, .inl (cI, 20, .inl u1))]) hP hD [2, 3, 0] [1, 4, 5, 6, 7, 8] rfl rfl (by decide) (by decide) hk1 hFc hP1 hD1
  generalize H1 = H at hP hS ⊢
  have hP : va_P (dC, dI) vwCl [(opC, .inl (cI, 20, .inl gp)), (op, .inr (7, [.ref opR, .ref opL, .ref opC, .ref opD, .int 0])), (opL, .inl (cI, 20, .inl (fun _ => 0))), (w, .inr (3, [.int 0, .int 0, .ref wL, .ref wP, .ref wS])), (co, .inr (4, [.ref w, .ref d, .ref on, .ref op, .int 0])), (d, .inr (3, [.int 0, .int 0, .ref dL, .ref dP, .ref dS])), (on, .inr (7, [.ref onR, .ref onL, .ref onC, .ref onD, .int 0])), (onL, .inl (cI, 20, .inl (fun _ => 0))), (onC, .inl (cI, 20, .inl u1))] _ := hP
  have hD : va_D A [(opC, .inl (cI, 20, .inl gp)), (op, .inr (7, [.ref opR, .ref opL, .ref opC, .ref opD, .int 0])), (opL, .inl (cI, 20, .inl (fun _ => 0))), (w, .inr (3, [.int 0, .int 0, .ref wL, .ref wP, .ref wS])), (co, .inr (4, [.ref w, .ref d, .ref on, .ref op, .int 0])), (d, .inr (3, [.int 0, .int 0, .ref dL, .ref dP, .ref dS])), (on, .inr (7, [.ref onR, .ref onL, .ref onC, .ref onD, .int 0])), (onL, .inl (cI, 20, .inl (fun _ => 0))), (onC, .inl (cI, 20, .inl u1))] := hD
  refine lv_aload_n hx hb dX1_goRound_44 rfl (lv_at hl 1 rfl) ?_
  refine va_get (D := (dC, dI)) (ci := 4) (v := .ref op) (C := RX1) (T := TX1) (N := 5) hx hb hts (fun w h => List.mem_cons_of_mem _ (List.mem_append_left _ (List.mem_append_left _ (List.mem_append_left _ (List.mem_append_left _ (List.mem_append_right _ (h))))))) hown hK hP 4 rfl rfl 3 (by decide) (hts (.fieldLink RX1 18 "Netcompare$Colours" "ofParts" "LNetcompare$Members;") (List.mem_cons_of_mem _ (List.mem_append_left _ (List.mem_append_left _ (List.mem_append_left _ (List.mem_append_left _ (List.mem_append_left _ (List.mem_append_left _ (List.mem_of_getElem? (i := 1) rfl))))))))) (fun _ h9 => h9) rfl dX1_goRound_45 ?_
  have hPc := hP.sub (ws' := [(op, .inr (7, [.ref opR, .ref opL, .ref opC, .ref opD, .int 0])), (opL, .inl (cI, 20, .inl (fun _ => 0))), (opC, .inl (cI, 20, .inl gp))]) [1, 2, 0] rfl
  have hDc := hD.sub (ws' := [(op, .inr (7, [.ref opR, .ref opL, .ref opC, .ref opD, .int 0])), (opL, .inl (cI, 20, .inl (fun _ => 0))), (opC, .inl (cI, 20, .inl gp))]) [1, 2, 0] (by decide) rfl
  have hKc := hK.sub (tys' := [(cI, .int)]) [0] rfl
  have hFc := va_free (wc := [(op, .inr (7, [.ref opR, .ref opL, .ref opC, .ref opD, .int 0])), (opL, .inl (cI, 20, .inl (fun _ => 0))), (opC, .inl (cI, 20, .inl gp))]) hD hS hA [1, 2, 0] rfl
  refine va_callv (va_runV (As := []) (rest := []) ⟨hx, hb, hml, hown, hts⟩ (kX4_colourByRows l dC dI op opR opL opC opD cI gp H.size) (cwV 0 hts gX1_goRound_X4_colourByRows rfl rfl rfl (by decide +kernel) ⟨Nat.le_of_ble_eq_true rfl, Nat.le_of_ble_eq_true rfl⟩) (fPreV hN hZ hS (fun q h => hFc q h) hPc hKc hDc (ci := 7) (q0 := 0) rfl rfl) rfl rfl hl.1 rfl (lv_room (Nat.le_of_ble_eq_true rfl)) dX1_goRound_48 ⟨Nat.le_of_ble_eq_true rfl, Nat.le_of_ble_eq_true rfl⟩) hS (fun q _ h => hFc q h) hFc (fun u t H1 locs ht hvm hw hB hz1 hk1 hS => ?_)
  obtain ⟨hP1, hK1, hD1⟩ := hB
  rw [ht] at hP1
  have hK1 := va_K.moved hvm.symm hK1
  obtain ⟨u2, rfl⟩ : ∃ z, z = u := ⟨_, rfl⟩
  obtain ⟨hP, hD⟩ := va_join (wr := [(w, .inr (3, [.int 0, .int 0, .ref wL, .ref wP, .ref wS])), (co, .inr (4, [.ref w, .ref d, .ref on, .ref op, .int 0])), (d, .inr (3, [.int 0, .int 0, .ref dL, .ref dP, .ref dS])), (on, .inr (7, [.ref onR, .ref onL, .ref onC, .ref onD, .int 0])), (onL, .inl (cI, 20, .inl (fun _ => 0))), (onC, .inl (cI, 20, .inl u1))]) (w1 := [(op, .inr (7, [.ref opR, .ref opL, .ref opC, .ref opD, .int 0])), (opL, .inl (cI, 20, .inl (fun _ => 0))), (opC, .inl (cI, 20, .inl u2))]) hP hD [1, 2, 0] [3, 4, 5, 6, 7, 8] rfl rfl (by decide) (by decide) hk1 hFc hP1 hD1
  generalize H1 = H at hP hS ⊢
  have hP : va_P (dC, dI) vwCl [(w, .inr (3, [.int 0, .int 0, .ref wL, .ref wP, .ref wS])), (co, .inr (4, [.ref w, .ref d, .ref on, .ref op, .int 0])), (d, .inr (3, [.int 0, .int 0, .ref dL, .ref dP, .ref dS])), (on, .inr (7, [.ref onR, .ref onL, .ref onC, .ref onD, .int 0])), (onL, .inl (cI, 20, .inl (fun _ => 0))), (onC, .inl (cI, 20, .inl u1)), (op, .inr (7, [.ref opR, .ref opL, .ref opC, .ref opD, .int 0])), (opL, .inl (cI, 20, .inl (fun _ => 0))), (opC, .inl (cI, 20, .inl u2))] _ := hP
  have hD : va_D A [(w, .inr (3, [.int 0, .int 0, .ref wL, .ref wP, .ref wS])), (co, .inr (4, [.ref w, .ref d, .ref on, .ref op, .int 0])), (d, .inr (3, [.int 0, .int 0, .ref dL, .ref dP, .ref dS])), (on, .inr (7, [.ref onR, .ref onL, .ref onC, .ref onD, .int 0])), (onL, .inl (cI, 20, .inl (fun _ => 0))), (onC, .inl (cI, 20, .inl u1)), (op, .inr (7, [.ref opR, .ref opL, .ref opC, .ref opD, .int 0])), (opL, .inl (cI, 20, .inl (fun _ => 0))), (opC, .inl (cI, 20, .inl u2))] := hD
  refine lv_aload_n hx hb dX1_goRound_51 rfl (lv_at hl 1 rfl) ?_
  have hPc := hP.sub (ws' := [(co, .inr (4, [.ref w, .ref d, .ref on, .ref op, .int 0])), (on, .inr (7, [.ref onR, .ref onL, .ref onC, .ref onD, .int 0])), (op, .inr (7, [.ref opR, .ref opL, .ref opC, .ref opD, .int 0]))]) [1, 3, 6] rfl
  have hDc := hD.sub (ws' := [(co, .inr (4, [.ref w, .ref d, .ref on, .ref op, .int 0])), (on, .inr (7, [.ref onR, .ref onL, .ref onC, .ref onD, .int 0])), (op, .inr (7, [.ref opR, .ref opL, .ref opC, .ref opD, .int 0]))]) [1, 3, 6] (by decide) rfl
  have hKc := hK.sub (tys' := []) [] rfl
  have hFc := va_free (wc := [(co, .inr (4, [.ref w, .ref d, .ref on, .ref op, .int 0])), (on, .inr (7, [.ref onR, .ref onL, .ref onC, .ref onD, .int 0])), (op, .inr (7, [.ref opR, .ref opL, .ref opC, .ref opD, .int 0]))]) hD hS hA [1, 3, 6] rfl
  refine va_calli (va_runV (As := []) (rest := []) ⟨hx, hb, hml, hown, hts⟩ (kX1_countClasses l dC dI co w d on op onR onL onC onD opR opL opC opD H.size) (cwV 0 hts gX1_goRound_X1_countClasses rfl rfl rfl (by decide +kernel) ⟨Nat.le_of_ble_eq_true rfl, Nat.le_of_ble_eq_true rfl⟩) (fPreV hN hZ hS (fun q h => hFc q h) hPc hKc hDc (ci := 4) (q0 := 0) rfl rfl) rfl rfl hl.1 rfl (lv_room (Nat.le_of_ble_eq_true rfl)) dX1_goRound_52 ⟨Nat.le_of_ble_eq_true rfl, Nat.le_of_ble_eq_true rfl⟩) hS (fun q _ h => hFc q h) hFc (fun r u t H1 locs ht hvm hw hB hz1 hk1 hS => ?_)
  obtain ⟨hP1, hK1, hD1⟩ := hB
  rw [ht] at hP1
  have hK1 := va_K.moved hvm.symm hK1
  obtain ⟨hP, hD⟩ := va_join (wr := [(w, .inr (3, [.int 0, .int 0, .ref wL, .ref wP, .ref wS])), (d, .inr (3, [.int 0, .int 0, .ref dL, .ref dP, .ref dS])), (onL, .inl (cI, 20, .inl (fun _ => 0))), (onC, .inl (cI, 20, .inl u1)), (opL, .inl (cI, 20, .inl (fun _ => 0))), (opC, .inl (cI, 20, .inl u2))]) (w1 := [(co, .inr (4, [.ref w, .ref d, .ref on, .ref op, .int 0])), (on, .inr (7, [.ref onR, .ref onL, .ref onC, .ref onD, .int 0])), (op, .inr (7, [.ref opR, .ref opL, .ref opC, .ref opD, .int 0]))]) hP hD [1, 3, 6] [0, 2, 4, 5, 7, 8] rfl rfl (by decide) (by decide) hk1 hFc hP1 hD1
  generalize H1 = H at hP hS ⊢
  have hP : va_P (dC, dI) vwCl [(w, .inr (3, [.int 0, .int 0, .ref wL, .ref wP, .ref wS])), (d, .inr (3, [.int 0, .int 0, .ref dL, .ref dP, .ref dS])), (onL, .inl (cI, 20, .inl (fun _ => 0))), (onC, .inl (cI, 20, .inl u1)), (opL, .inl (cI, 20, .inl (fun _ => 0))), (opC, .inl (cI, 20, .inl u2)), (co, .inr (4, [.ref w, .ref d, .ref on, .ref op, .int 0])), (on, .inr (7, [.ref onR, .ref onL, .ref onC, .ref onD, .int 0])), (op, .inr (7, [.ref opR, .ref opL, .ref opC, .ref opD, .int 0]))] _ := hP
  have hD : va_D A [(w, .inr (3, [.int 0, .int 0, .ref wL, .ref wP, .ref wS])), (d, .inr (3, [.int 0, .int 0, .ref dL, .ref dP, .ref dS])), (onL, .inl (cI, 20, .inl (fun _ => 0))), (onC, .inl (cI, 20, .inl u1)), (opL, .inl (cI, 20, .inl (fun _ => 0))), (opC, .inl (cI, 20, .inl u2)), (co, .inr (4, [.ref w, .ref d, .ref on, .ref op, .int 0])), (on, .inr (7, [.ref onR, .ref onL, .ref onC, .ref onD, .int 0])), (op, .inr (7, [.ref opR, .ref opL, .ref opC, .ref opD, .int 0]))] := hD
  subst hw
  refine lv_iload_n hx hb dX1_goRound_55 rfl (lv_at hl 0 rfl) ?_
  refine lv_icmp_le (tgt := 63) hx hb dX1_goRound_56 (by decide) (fun _ => ?_) (fun h9 => absurd (by decide) h9)
  refine lv_iconst (v := 0) hx hb dX1_goRound_63 (by decide) ?_
  exact ret _ (u1, u2) _ _ _ _ _ _ (rfl) (rfl) (hP.sub [6, 0, 1, 7, 2, 3, 8, 4, 5] rfl) (hK.sub [0] rfl) (hD.sub [6, 0, 1, 7, 2, 3, 8, 4, 5] (by decide) rfl) hS (Nat.le_of_ble_eq_true rfl) (Nat.le_of_ble_eq_true rfl) dX1_goRound_64

set_option maxHeartbeats 4000000 in
set_option maxRecDepth 100000 in
/-- refine of two empty circuits -/
theorem kX1_refine (l : Launch) (dC : Nat → ClassId) (dI : Nat → Nat → Nat) (co : Nat) (w wL wP wS d dL dP dS : Nat) (on onR onL onC onD op opR opL opC opD : Nat) (cI : ClassId) (gn gp : Nat → Int32) (sz : Nat) : fMv l yX1_refine wsX1_refine ({ frames := 2, cells := 0, slots := 0, locals := 45 } : Room) dC dI [.ref co] [(co, .inr (4, [.ref w, .ref d, .ref on, .ref op, .int 0])), (w, .inr (3, [.int 0, .int 0, .ref wL, .ref wP, .ref wS])), (d, .inr (3, [.int 0, .int 0, .ref dL, .ref dP, .ref dS])), (on, .inr (7, [.ref onR, .ref onL, .ref onC, .ref onD, .int 0])), (onL, .inl (cI, 20, .inl (fun _ => 0))), (onC, .inl (cI, 20, .inl gn)), (op, .inr (7, [.ref opR, .ref opL, .ref opC, .ref opD, .int 0])), (opL, .inl (cI, 20, .inl (fun _ => 0))), (opC, .inl (cI, 20, .inl gp))] [(cI, .int)] sz (fun (u : (Nat → Int32) × (Nat → Int32)) => True) (fun u => [(co, .inr (4, [.ref w, .ref d, .ref on, .ref op, .int 0])), (w, .inr (3, [.int 0, .int 0, .ref wL, .ref wP, .ref wS])), (d, .inr (3, [.int 0, .int 0, .ref dL, .ref dP, .ref dS])), (on, .inr (7, [.ref onR, .ref onL, .ref onC, .ref onD, .int 0])), (onL, .inl (cI, 20, .inl (fun _ => 0))), (onC, .inl (cI, 20, .inl u.1)), (op, .inr (7, [.ref opR, .ref opL, .ref opC, .ref opD, .int 0])), (opL, .inl (cI, 20, .inl (fun _ => 0))), (opC, .inl (cI, 20, .inl u.2))]) (fun u => [(cI, .int)]) := by
  refine oP_v (y := yX1_refine) (cc := cX1_refine) (maxL := 1) (by decide) rfl (Nat.le_of_ble_eq_true rfl) ?_
  intro p e s m args below meth c ls A Q hx hb hr hml hown hts hN hZ hA hin hlk hP hK hD hl ret
  have hS : va_S A s.heap s.heap [] := va_S.rf
  have hl : lv_has ls 1 [(0, .ref co)] := hl
  have hP : va_P (dC, dI) vwCl [(co, .inr (4, [.ref w, .ref d, .ref on, .ref op, .int 0])), (w, .inr (3, [.int 0, .int 0, .ref wL, .ref wP, .ref wS])), (d, .inr (3, [.int 0, .int 0, .ref dL, .ref dP, .ref dS])), (on, .inr (7, [.ref onR, .ref onL, .ref onC, .ref onD, .int 0])), (onL, .inl (cI, 20, .inl (fun _ => 0))), (onC, .inl (cI, 20, .inl gn)), (op, .inr (7, [.ref opR, .ref opL, .ref opC, .ref opD, .int 0])), (opL, .inl (cI, 20, .inl (fun _ => 0))), (opC, .inl (cI, 20, .inl gp))] _ := hP
  have hD : va_D A [(co, .inr (4, [.ref w, .ref d, .ref on, .ref op, .int 0])), (w, .inr (3, [.int 0, .int 0, .ref wL, .ref wP, .ref wS])), (d, .inr (3, [.int 0, .int 0, .ref dL, .ref dP, .ref dS])), (on, .inr (7, [.ref onR, .ref onL, .ref onC, .ref onD, .int 0])), (onL, .inl (cI, 20, .inl (fun _ => 0))), (onC, .inl (cI, 20, .inl gn)), (op, .inr (7, [.ref opR, .ref opL, .ref opC, .ref opD, .int 0])), (opL, .inl (cI, 20, .inl (fun _ => 0))), (opC, .inl (cI, 20, .inl gp))] := hD
  refine lv_aload_n hx hb dX1_refine_0 rfl (lv_at hl 0 rfl) ?_
  have hPc := hP.sub (ws' := [(co, .inr (4, [.ref w, .ref d, .ref on, .ref op, .int 0])), (w, .inr (3, [.int 0, .int 0, .ref wL, .ref wP, .ref wS])), (d, .inr (3, [.int 0, .int 0, .ref dL, .ref dP, .ref dS])), (on, .inr (7, [.ref onR, .ref onL, .ref onC, .ref onD, .int 0])), (onL, .inl (cI, 20, .inl (fun _ => 0))), (onC, .inl (cI, 20, .inl gn)), (op, .inr (7, [.ref opR, .ref opL, .ref opC, .ref opD, .int 0])), (opL, .inl (cI, 20, .inl (fun _ => 0))), (opC, .inl (cI, 20, .inl gp))]) [0, 1, 2, 3, 4, 5, 6, 7, 8] rfl
  have hDc := hD.sub (ws' := [(co, .inr (4, [.ref w, .ref d, .ref on, .ref op, .int 0])), (w, .inr (3, [.int 0, .int 0, .ref wL, .ref wP, .ref wS])), (d, .inr (3, [.int 0, .int 0, .ref dL, .ref dP, .ref dS])), (on, .inr (7, [.ref onR, .ref onL, .ref onC, .ref onD, .int 0])), (onL, .inl (cI, 20, .inl (fun _ => 0))), (onC, .inl (cI, 20, .inl gn)), (op, .inr (7, [.ref opR, .ref opL, .ref opC, .ref opD, .int 0])), (opL, .inl (cI, 20, .inl (fun _ => 0))), (opC, .inl (cI, 20, .inl gp))]) [0, 1, 2, 3, 4, 5, 6, 7, 8] (by decide) rfl
  have hKc := hK.sub (tys' := [(cI, .int)]) [0] rfl
  have hFc := va_free (wc := [(co, .inr (4, [.ref w, .ref d, .ref on, .ref op, .int 0])), (w, .inr (3, [.int 0, .int 0, .ref wL, .ref wP, .ref wS])), (d, .inr (3, [.int 0, .int 0, .ref dL, .ref dP, .ref dS])), (on, .inr (7, [.ref onR, .ref onL, .ref onC, .ref onD, .int 0])), (onL, .inl (cI, 20, .inl (fun _ => 0))), (onC, .inl (cI, 20, .inl gn)), (op, .inr (7, [.ref opR, .ref opL, .ref opC, .ref opD, .int 0])), (opL, .inl (cI, 20, .inl (fun _ => 0))), (opC, .inl (cI, 20, .inl gp))]) hD hS hA [0, 1, 2, 3, 4, 5, 6, 7, 8] rfl
  refine va_callv (va_runV (As := []) (rest := []) ⟨hx, hb, hml, hown, hts⟩ (kX1_startColours l dC dI co w wL wP wS d dL dP dS on onR onL onC onD op opR opL opC opD cI gn gp s.heap.size) (cwV 0 hts gX1_refine_X1_startColours rfl rfl rfl (by decide +kernel) ⟨Nat.le_of_ble_eq_true rfl, Nat.le_of_ble_eq_true rfl⟩) (fPreV hN hZ hS (fun q h => hFc q h) hPc hKc hDc (ci := 4) (q0 := 0) rfl rfl) rfl rfl hl.1 rfl (lv_room (Nat.le_of_ble_eq_true rfl)) dX1_refine_1 ⟨Nat.le_of_ble_eq_true rfl, Nat.le_of_ble_eq_true rfl⟩) hS (fun q _ h => hFc q h) hFc (fun u t H1 locs ht hvm hw hB hz1 hk1 hS => ?_)
  obtain ⟨hP1, hK1, hD1⟩ := hB
  rw [ht] at hP1
  have hK1 := va_K.moved hvm.symm hK1
  obtain ⟨u1, u2⟩ := u
  obtain ⟨hP, hD⟩ := va_join (wr := []) (w1 := [(co, .inr (4, [.ref w, .ref d, .ref on, .ref op, .int 0])), (w, .inr (3, [.int 0, .int 0, .ref wL, .ref wP, .ref wS])), (d, .inr (3, [.int 0, .int 0, .ref dL, .ref dP, .ref dS])), (on, .inr (7, [.ref onR, .ref onL, .ref onC, .ref onD, .int 0])), (onL, .inl (cI, 20, .inl (fun _ => 0))), (onC, .inl (cI, 20, .inl u1)), (op, .inr (7, [.ref opR, .ref opL, .ref opC, .ref opD, .int 0])), (opL, .inl (cI, 20, .inl (fun _ => 0))), (opC, .inl (cI, 20, .inl u2))]) hP hD [0, 1, 2, 3, 4, 5, 6, 7, 8] [] rfl rfl (by decide) (by decide) hk1 hFc hP1 hD1
  generalize H1 = H at hP hS ⊢
  have hP : va_P (dC, dI) vwCl [(co, .inr (4, [.ref w, .ref d, .ref on, .ref op, .int 0])), (w, .inr (3, [.int 0, .int 0, .ref wL, .ref wP, .ref wS])), (d, .inr (3, [.int 0, .int 0, .ref dL, .ref dP, .ref dS])), (on, .inr (7, [.ref onR, .ref onL, .ref onC, .ref onD, .int 0])), (onL, .inl (cI, 20, .inl (fun _ => 0))), (onC, .inl (cI, 20, .inl u1)), (op, .inr (7, [.ref opR, .ref opL, .ref opC, .ref opD, .int 0])), (opL, .inl (cI, 20, .inl (fun _ => 0))), (opC, .inl (cI, 20, .inl u2))] _ := hP
  have hD : va_D A [(co, .inr (4, [.ref w, .ref d, .ref on, .ref op, .int 0])), (w, .inr (3, [.int 0, .int 0, .ref wL, .ref wP, .ref wS])), (d, .inr (3, [.int 0, .int 0, .ref dL, .ref dP, .ref dS])), (on, .inr (7, [.ref onR, .ref onL, .ref onC, .ref onD, .int 0])), (onL, .inl (cI, 20, .inl (fun _ => 0))), (onC, .inl (cI, 20, .inl u1)), (op, .inr (7, [.ref opR, .ref opL, .ref opC, .ref opD, .int 0])), (opL, .inl (cI, 20, .inl (fun _ => 0))), (opC, .inl (cI, 20, .inl u2))] := hD
  refine lv_aload_n hx hb dX1_refine_4 rfl (lv_at hl 0 rfl) ?_
  refine lv_iconst (v := 0) hx hb dX1_refine_5 (by decide) ?_
  refine va_put (D := (dC, dI)) (ci := 4) (v := .int 0) (ty := .int) (C := RX1) (T := TX1) (N := 5) hx hb hts (fun w h => List.mem_cons_of_mem _ (List.mem_append_left _ (List.mem_append_left _ (List.mem_append_left _ (List.mem_append_left _ (List.mem_append_right _ (h))))))) tyX1 tyX1_ok nmX1 hown hK hP hD hS 0 rfl rfl 4 (by decide) (hts (.fieldLink RX1 35 "Netcompare$Colours" "roundCount" "I") (List.mem_cons_of_mem _ (List.mem_append_left _ (List.mem_append_left _ (List.mem_append_left _ (List.mem_append_left _ (List.mem_append_left _ (List.mem_append_left _ (List.mem_of_getElem? (i := 0) rfl))))))))) (fun _ h9 => h9) rfl (by decide +kernel) rfl rfl (Nat.le_of_ble_eq_true rfl) dX1_refine_6 (fun H locs hP hD hS => ?_)
  have hP : va_P (dC, dI) vwCl [(co, .inr (4, [.ref w, .ref d, .ref on, .ref op, .int 0])), (w, .inr (3, [.int 0, .int 0, .ref wL, .ref wP, .ref wS])), (d, .inr (3, [.int 0, .int 0, .ref dL, .ref dP, .ref dS])), (on, .inr (7, [.ref onR, .ref onL, .ref onC, .ref onD, .int 0])), (onL, .inl (cI, 20, .inl (fun _ => 0))), (onC, .inl (cI, 20, .inl u1)), (op, .inr (7, [.ref opR, .ref opL, .ref opC, .ref opD, .int 0])), (opL, .inl (cI, 20, .inl (fun _ => 0))), (opC, .inl (cI, 20, .inl u2))] _ := hP
  have hD : va_D A [(co, .inr (4, [.ref w, .ref d, .ref on, .ref op, .int 0])), (w, .inr (3, [.int 0, .int 0, .ref wL, .ref wP, .ref wS])), (d, .inr (3, [.int 0, .int 0, .ref dL, .ref dP, .ref dS])), (on, .inr (7, [.ref onR, .ref onL, .ref onC, .ref onD, .int 0])), (onL, .inl (cI, 20, .inl (fun _ => 0))), (onC, .inl (cI, 20, .inl u1)), (op, .inr (7, [.ref opR, .ref opL, .ref opC, .ref opD, .int 0])), (opL, .inl (cI, 20, .inl (fun _ => 0))), (opC, .inl (cI, 20, .inl u2))] := hD
  refine lv_aload_n hx hb dX1_refine_9 rfl (lv_at hl 0 rfl) ?_
  refine va_get (D := (dC, dI)) (ci := 4) (v := .int 0) (C := RX1) (T := TX1) (N := 5) hx hb hts (fun w h => List.mem_cons_of_mem _ (List.mem_append_left _ (List.mem_append_left _ (List.mem_append_left _ (List.mem_append_left _ (List.mem_append_right _ (h))))))) hown hK hP 0 rfl rfl 4 (by decide) (hts (.fieldLink RX1 35 "Netcompare$Colours" "roundCount" "I") (List.mem_cons_of_mem _ (List.mem_append_left _ (List.mem_append_left _ (List.mem_append_left _ (List.mem_append_left _ (List.mem_append_left _ (List.mem_append_left _ (List.mem_of_getElem? (i := 0) rfl))))))))) (fun _ h9 => h9) rfl dX1_refine_10 ?_
  refine lv_bipush (v := 40) hx hb dX1_refine_13 (by decide) ?_
  refine lv_icmp_ge (tgt := 38) hx hb dX1_refine_15 (by decide) (fun h9 => absurd h9 (by decide)) (fun _ => ?_)
  refine lv_aload_n hx hb dX1_refine_18 rfl (lv_at hl 0 rfl) ?_
  have hPc := hP.sub (ws' := [(co, .inr (4, [.ref w, .ref d, .ref on, .ref op, .int 0])), (w, .inr (3, [.int 0, .int 0, .ref wL, .ref wP, .ref wS])), (d, .inr (3, [.int 0, .int 0, .ref dL, .ref dP, .ref dS])), (on, .inr (7, [.ref onR, .ref onL, .ref onC, .ref onD, .int 0])), (onL, .inl (cI, 20, .inl (fun _ => 0))), (onC, .inl (cI, 20, .inl u1)), (op, .inr (7, [.ref opR, .ref opL, .ref opC, .ref opD, .int 0])), (opL, .inl (cI, 20, .inl (fun _ => 0))), (opC, .inl (cI, 20, .inl u2))]) [0, 1, 2, 3, 4, 5, 6, 7, 8] rfl
  have hDc := hD.sub (ws' := [(co, .inr (4, [.ref w, .ref d, .ref on, .ref op, .int 0])), (w, .inr (3, [.int 0, .int 0, .ref wL, .ref wP, .ref wS])), (d, .inr (3, [.int 0, .int 0, .ref dL, .ref dP, .ref dS])), (on, .inr (7, [.ref onR, .ref onL, .ref onC, .ref onD, .int 0])), (onL, .inl (cI, 20, .inl (fun _ => 0))), (onC, .inl (cI, 20, .inl u1)), (op, .inr (7, [.ref opR, .ref opL, .ref opC, .ref opD, .int 0])), (opL, .inl (cI, 20, .inl (fun _ => 0))), (opC, .inl (cI, 20, .inl u2))]) [0, 1, 2, 3, 4, 5, 6, 7, 8] (by decide) rfl
  have hKc := hK.sub (tys' := [(cI, .int)]) [0] rfl
  have hFc := va_free (wc := [(co, .inr (4, [.ref w, .ref d, .ref on, .ref op, .int 0])), (w, .inr (3, [.int 0, .int 0, .ref wL, .ref wP, .ref wS])), (d, .inr (3, [.int 0, .int 0, .ref dL, .ref dP, .ref dS])), (on, .inr (7, [.ref onR, .ref onL, .ref onC, .ref onD, .int 0])), (onL, .inl (cI, 20, .inl (fun _ => 0))), (onC, .inl (cI, 20, .inl u1)), (op, .inr (7, [.ref opR, .ref opL, .ref opC, .ref opD, .int 0])), (opL, .inl (cI, 20, .inl (fun _ => 0))), (opC, .inl (cI, 20, .inl u2))]) hD hS hA [0, 1, 2, 3, 4, 5, 6, 7, 8] rfl
  refine va_calli (va_runV (As := []) (rest := []) ⟨hx, hb, hml, hown, hts⟩ (kX1_goRound l dC dI co w wL wP wS d dL dP dS on onR onL onC onD op opR opL opC opD cI u1 u2 H.size) (cwV 0 hts gX1_refine_X1_goRound rfl rfl rfl (by decide +kernel) ⟨Nat.le_of_ble_eq_true rfl, Nat.le_of_ble_eq_true rfl⟩) (fPreV hN hZ hS (fun q h => hFc q h) hPc hKc hDc (ci := 4) (q0 := 0) rfl rfl) rfl rfl hl.1 rfl (lv_room (Nat.le_of_ble_eq_true rfl)) dX1_refine_19 ⟨Nat.le_of_ble_eq_true rfl, Nat.le_of_ble_eq_true rfl⟩) hS (fun q _ h => hFc q h) hFc (fun r u t H1 locs ht hvm hw hB hz1 hk1 hS => ?_)
  obtain ⟨hP1, hK1, hD1⟩ := hB
  rw [ht] at hP1
  have hK1 := va_K.moved hvm.symm hK1
  obtain ⟨u3, u4⟩ := u
  obtain ⟨hP, hD⟩ := va_join (wr := []) (w1 := [(co, .inr (4, [.ref w, .ref d, .ref on, .ref op, .int 0])), (w, .inr (3, [.int 0, .int 0, .ref wL, .ref wP, .ref wS])), (d, .inr (3, [.int 0, .int 0, .ref dL, .ref dP, .ref dS])), (on, .inr (7, [.ref onR, .ref onL, .ref onC, .ref onD, .int 0])), (onL, .inl (cI, 20, .inl (fun _ => 0))), (onC, .inl (cI, 20, .inl u3)), (op, .inr (7, [.ref opR, .ref opL, .ref opC, .ref opD, .int 0])), (opL, .inl (cI, 20, .inl (fun _ => 0))), (opC, .inl (cI, 20, .inl u4))]) hP hD [0, 1, 2, 3, 4, 5, 6, 7, 8] [] rfl rfl (by decide) (by decide) hk1 hFc hP1 hD1
  generalize H1 = H at hP hS ⊢
  have hP : va_P (dC, dI) vwCl [(co, .inr (4, [.ref w, .ref d, .ref on, .ref op, .int 0])), (w, .inr (3, [.int 0, .int 0, .ref wL, .ref wP, .ref wS])), (d, .inr (3, [.int 0, .int 0, .ref dL, .ref dP, .ref dS])), (on, .inr (7, [.ref onR, .ref onL, .ref onC, .ref onD, .int 0])), (onL, .inl (cI, 20, .inl (fun _ => 0))), (onC, .inl (cI, 20, .inl u3)), (op, .inr (7, [.ref opR, .ref opL, .ref opC, .ref opD, .int 0])), (opL, .inl (cI, 20, .inl (fun _ => 0))), (opC, .inl (cI, 20, .inl u4))] _ := hP
  have hD : va_D A [(co, .inr (4, [.ref w, .ref d, .ref on, .ref op, .int 0])), (w, .inr (3, [.int 0, .int 0, .ref wL, .ref wP, .ref wS])), (d, .inr (3, [.int 0, .int 0, .ref dL, .ref dP, .ref dS])), (on, .inr (7, [.ref onR, .ref onL, .ref onC, .ref onD, .int 0])), (onL, .inl (cI, 20, .inl (fun _ => 0))), (onC, .inl (cI, 20, .inl u3)), (op, .inr (7, [.ref opR, .ref opL, .ref opC, .ref opD, .int 0])), (opL, .inl (cI, 20, .inl (fun _ => 0))), (opC, .inl (cI, 20, .inl u4))] := hD
  subst hw
  refine lv_if_eq (tgt := 38) hx hb dX1_refine_22 (by decide) (fun _ => ?_) (fun h9 => absurd (by decide) h9)
  exact ret (u3, u4) _ _ _ _ _ _ (trivial) (hP.sub [0, 1, 2, 3, 4, 5, 6, 7, 8] rfl) (hK.sub [0] rfl) (hD.sub [0, 1, 2, 3, 4, 5, 6, 7, 8] (by decide) rfl) hS (Nat.le_of_ble_eq_true rfl) (Nat.le_of_ble_eq_true rfl) dX1_refine_38

set_option maxHeartbeats 4000000 in
set_option maxRecDepth 100000 in
/-- collectFrom: no class -/
theorem kX2_collectFrom (l : Launch) (dC : Nat → ClassId) (dI : Nat → Nat → Nat) (un unK o oR oL oC oD : Nat) (p0 : Int32) (sz : Nat) : fMv l yX2_collectFrom wsX2_collectFrom ({ frames := 0, cells := 0, slots := 0, locals := 0 } : Room) dC dI [.ref un, .ref o, .int p0] [(un, .inr (5, [.ref unK, .int 0])), (o, .inr (7, [.ref oR, .ref oL, .ref oC, .ref oD, .int 0]))] [] sz (fun (u : Unit) => True) (fun u => [(un, .inr (5, [.ref unK, .int 0])), (o, .inr (7, [.ref oR, .ref oL, .ref oC, .ref oD, .int 0]))]) (fun u => []) := by
  refine oP_v (y := yX2_collectFrom) (cc := cX2_collectFrom) (maxL := 6) (by decide) rfl (Nat.le_of_ble_eq_true rfl) ?_
  intro p e s m args below meth c ls A Q hx hb hr hml hown hts hN hZ hA hin hlk hP hK hD hl ret
  have hS : va_S A s.heap s.heap [] := va_S.rf
  have hl : lv_has ls 6 [(0, .ref un), (1, .ref o), (2, .int p0)] := hl
  have hP : va_P (dC, dI) vwCl [(un, .inr (5, [.ref unK, .int 0])), (o, .inr (7, [.ref oR, .ref oL, .ref oC, .ref oD, .int 0]))] _ := hP
  have hD : va_D A [(un, .inr (5, [.ref unK, .int 0])), (o, .inr (7, [.ref oR, .ref oL, .ref oC, .ref oD, .int 0]))] := hD
  refine lv_iconst (v := 0) hx hb dX2_collectFrom_0 (by decide) ?_
  refine lv_istore_n (lv' := [(3, .int 0), (0, .ref un), (1, .ref o), (2, .int p0)]) hx hb dX2_collectFrom_1 rfl hl (Nat.le_of_ble_eq_true rfl) rfl (fun ls hl => ?_)
  refine lv_iload_n hx hb dX2_collectFrom_2 rfl (lv_at hl 0 rfl) ?_
  refine lv_aload_n hx hb dX2_collectFrom_3 rfl (lv_at hl 2 rfl) ?_
  refine va_getN (D := (dC, dI)) (ci := 7) (v := .int 0) (C := RX4) (T := TX4) (N := 5) hx hb hts (fun w h => List.mem_cons_of_mem _ (List.mem_append_left _ (List.mem_append_left _ (List.mem_append_right _ (h))))) hown hK hP 1 rfl rfl 4 (by decide) (va_Nw.use rfl (hN.1 _ (List.mem_of_getElem? (i := 37) rfl))) (fun _ h9 => h9) rfl dX2_collectFrom_4 ?_
  refine lv_icmp_ge (tgt := 78) hx hb dX2_collectFrom_7 (by decide) (fun _ => ?_) (fun h9 => absurd (by decide) h9)
  exact ret () _ _ _ _ _ _ (trivial) (hP.sub [0, 1] rfl) (hK.sub [] rfl) (hD.sub [0, 1] (by decide) rfl) hS (Nat.le_of_ble_eq_true rfl) (Nat.le_of_ble_eq_true rfl) dX2_collectFrom_78

set_option maxHeartbeats 4000000 in
set_option maxRecDepth 100000 in
/-- collect: no difference -/
theorem kX2_collect (l : Launch) (dC : Nat → ClassId) (dI : Nat → Nat → Nat) (un unK co w d on op onR onL onC onD opR opL opC opD : Nat) (sz : Nat) : fMv l yX2_collect wsX2_collect ({ frames := 1, cells := 0, slots := 0, locals := 25 } : Room) dC dI [.ref un, .ref co] [(un, .inr (5, [.ref unK, .int 0])), (co, .inr (4, [.ref w, .ref d, .ref on, .ref op, .int 0])), (on, .inr (7, [.ref onR, .ref onL, .ref onC, .ref onD, .int 0])), (op, .inr (7, [.ref opR, .ref opL, .ref opC, .ref opD, .int 0]))] [] sz (fun (u : Unit) => True) (fun u => [(un, .inr (5, [.ref unK, .int 0])), (co, .inr (4, [.ref w, .ref d, .ref on, .ref op, .int 0])), (on, .inr (7, [.ref onR, .ref onL, .ref onC, .ref onD, .int 0])), (op, .inr (7, [.ref opR, .ref opL, .ref opC, .ref opD, .int 0]))]) (fun u => []) := by
  refine oP_v (y := yX2_collect) (cc := cX2_collect) (maxL := 2) (by decide) rfl (Nat.le_of_ble_eq_true rfl) ?_
  intro p e s m args below meth c ls A Q hx hb hr hml hown hts hN hZ hA hin hlk hP hK hD hl ret
  have hS : va_S A s.heap s.heap [] := va_S.rf
  have hl : lv_has ls 2 [(0, .ref un), (1, .ref co)] := hl
  have hP : va_P (dC, dI) vwCl [(un, .inr (5, [.ref unK, .int 0])), (co, .inr (4, [.ref w, .ref d, .ref on, .ref op, .int 0])), (on, .inr (7, [.ref onR, .ref onL, .ref onC, .ref onD, .int 0])), (op, .inr (7, [.ref opR, .ref opL, .ref opC, .ref opD, .int 0]))] _ := hP
  have hD : va_D A [(un, .inr (5, [.ref unK, .int 0])), (co, .inr (4, [.ref w, .ref d, .ref on, .ref op, .int 0])), (on, .inr (7, [.ref onR, .ref onL, .ref onC, .ref onD, .int 0])), (op, .inr (7, [.ref opR, .ref opL, .ref opC, .ref opD, .int 0]))] := hD
  refine lv_aload_n hx hb dX2_collect_0 rfl (lv_at hl 0 rfl) ?_
  refine lv_iconst (v := 0) hx hb dX2_collect_1 (by decide) ?_
  refine va_put (D := (dC, dI)) (ci := 5) (v := .int 0) (ty := .int) (C := RX2) (T := TX2) (N := 2) hx hb hts (fun w h => List.mem_cons_of_mem _ (List.mem_append_left _ (List.mem_append_left _ (List.mem_append_left _ (List.mem_append_right _ (h)))))) tyX2 tyX2_ok nmX2 hown hK hP hD hS 0 rfl rfl 1 (by decide) (hts (.fieldLink RX2 15 "Netcompare$Differences" "count" "I") (List.mem_cons_of_mem _ (List.mem_append_left _ (List.mem_append_left _ (List.mem_append_left _ (List.mem_append_left _ (List.mem_append_left _ (List.mem_of_getElem? (i := 0) rfl)))))))) (fun _ h9 => h9) rfl (by decide +kernel) rfl rfl (Nat.le_of_ble_eq_true rfl) dX2_collect_2 (fun H locs hP hD hS => ?_)
  have hP : va_P (dC, dI) vwCl [(un, .inr (5, [.ref unK, .int 0])), (co, .inr (4, [.ref w, .ref d, .ref on, .ref op, .int 0])), (on, .inr (7, [.ref onR, .ref onL, .ref onC, .ref onD, .int 0])), (op, .inr (7, [.ref opR, .ref opL, .ref opC, .ref opD, .int 0]))] _ := hP
  have hD : va_D A [(un, .inr (5, [.ref unK, .int 0])), (co, .inr (4, [.ref w, .ref d, .ref on, .ref op, .int 0])), (on, .inr (7, [.ref onR, .ref onL, .ref onC, .ref onD, .int 0])), (op, .inr (7, [.ref opR, .ref opL, .ref opC, .ref opD, .int 0]))] := hD
  refine lv_aload_n hx hb dX2_collect_5 rfl (lv_at hl 0 rfl) ?_
  refine lv_aload_n hx hb dX2_collect_6 rfl (lv_at hl 1 rfl) ?_
  refine va_getN (D := (dC, dI)) (ci := 4) (v := .ref on) (C := RX1) (T := TX1) (N := 5) hx hb hts (fun w h => List.mem_cons_of_mem _ (List.mem_append_left _ (List.mem_append_left _ (List.mem_append_right _ (h))))) hown hK hP 1 rfl rfl 2 (by decide) (va_Nw.use rfl (hN.1 _ (List.mem_of_getElem? (i := 39) rfl))) (fun _ h9 => h9) rfl dX2_collect_7 ?_
  refine lv_iconst (v := 0) hx hb dX2_collect_10 (by decide) ?_
  have hPc := hP.sub (ws' := [(un, .inr (5, [.ref unK, .int 0])), (on, .inr (7, [.ref onR, .ref onL, .ref onC, .ref onD, .int 0]))]) [0, 2] rfl
  have hDc := hD.sub (ws' := [(un, .inr (5, [.ref unK, .int 0])), (on, .inr (7, [.ref onR, .ref onL, .ref onC, .ref onD, .int 0]))]) [0, 2] (by decide) rfl
  have hKc := hK.sub (tys' := []) [] rfl
  have hFc := va_free (wc := [(un, .inr (5, [.ref unK, .int 0])), (on, .inr (7, [.ref onR, .ref onL, .ref onC, .ref onD, .int 0]))]) hD hS hA [0, 2] rfl
  refine va_callv (va_runV (As := [.ref on, .int 0]) (rest := []) ⟨hx, hb, hml, hown, hts⟩ (kX2_collectFrom l dC dI un unK on onR onL onC onD 0 H.size) (cwV 2 hts gX2_collect_X2_collectFrom rfl rfl rfl (by decide +kernel) ⟨Nat.le_of_ble_eq_true rfl, Nat.le_of_ble_eq_true rfl⟩) (fPreV hN hZ hS (fun q h => hFc q h) hPc hKc hDc (ci := 5) (q0 := 0) rfl rfl) rfl rfl hl.1 rfl (lv_room (Nat.le_of_ble_eq_true rfl)) dX2_collect_11 ⟨Nat.le_of_ble_eq_true rfl, Nat.le_of_ble_eq_true rfl⟩) hS (fun q _ h => hFc q h) hFc (fun u t H1 locs ht hvm hw hB hz1 hk1 hS => ?_)
  obtain ⟨hP1, hK1, hD1⟩ := hB
  rw [ht] at hP1
  have hK1 := va_K.moved hvm.symm hK1
  obtain ⟨hP, hD⟩ := va_join (wr := [(co, .inr (4, [.ref w, .ref d, .ref on, .ref op, .int 0])), (op, .inr (7, [.ref opR, .ref opL, .ref opC, .ref opD, .int 0]))]) (w1 := [(un, .inr (5, [.ref unK, .int 0])), (on, .inr (7, [.ref onR, .ref onL, .ref onC, .ref onD, .int 0]))]) hP hD [0, 2] [1, 3] rfl rfl (by decide) (by decide) hk1 hFc hP1 hD1
  generalize H1 = H at hP hS ⊢
  have hP : va_P (dC, dI) vwCl [(co, .inr (4, [.ref w, .ref d, .ref on, .ref op, .int 0])), (op, .inr (7, [.ref opR, .ref opL, .ref opC, .ref opD, .int 0])), (un, .inr (5, [.ref unK, .int 0])), (on, .inr (7, [.ref onR, .ref onL, .ref onC, .ref onD, .int 0]))] _ := hP
  have hD : va_D A [(co, .inr (4, [.ref w, .ref d, .ref on, .ref op, .int 0])), (op, .inr (7, [.ref opR, .ref opL, .ref opC, .ref opD, .int 0])), (un, .inr (5, [.ref unK, .int 0])), (on, .inr (7, [.ref onR, .ref onL, .ref onC, .ref onD, .int 0]))] := hD
  refine lv_aload_n hx hb dX2_collect_14 rfl (lv_at hl 0 rfl) ?_
  refine lv_aload_n hx hb dX2_collect_15 rfl (lv_at hl 1 rfl) ?_
  refine va_getN (D := (dC, dI)) (ci := 4) (v := .ref op) (C := RX1) (T := TX1) (N := 5) hx hb hts (fun w h => List.mem_cons_of_mem _ (List.mem_append_left _ (List.mem_append_left _ (List.mem_append_right _ (h))))) hown hK hP 0 rfl rfl 3 (by decide) (va_Nw.use rfl (hN.1 _ (List.mem_of_getElem? (i := 41) rfl))) (fun _ h9 => h9) rfl dX2_collect_16 ?_
  refine lv_sipush (v := 200) hx hb dX2_collect_19 (by decide) ?_
  have hPc := hP.sub (ws' := [(un, .inr (5, [.ref unK, .int 0])), (op, .inr (7, [.ref opR, .ref opL, .ref opC, .ref opD, .int 0]))]) [2, 1] rfl
  have hDc := hD.sub (ws' := [(un, .inr (5, [.ref unK, .int 0])), (op, .inr (7, [.ref opR, .ref opL, .ref opC, .ref opD, .int 0]))]) [2, 1] (by decide) rfl
  have hKc := hK.sub (tys' := []) [] rfl
  have hFc := va_free (wc := [(un, .inr (5, [.ref unK, .int 0])), (op, .inr (7, [.ref opR, .ref opL, .ref opC, .ref opD, .int 0]))]) hD hS hA [2, 1] rfl
  refine va_callv (va_runV (As := [.ref op, .int 200]) (rest := []) ⟨hx, hb, hml, hown, hts⟩ (kX2_collectFrom l dC dI un unK op opR opL opC opD 200 H.size) (cwV 2 hts gX2_collect_X2_collectFrom rfl rfl rfl (by decide +kernel) ⟨Nat.le_of_ble_eq_true rfl, Nat.le_of_ble_eq_true rfl⟩) (fPreV hN hZ hS (fun q h => hFc q h) hPc hKc hDc (ci := 5) (q0 := 0) rfl rfl) rfl rfl hl.1 rfl (lv_room (Nat.le_of_ble_eq_true rfl)) dX2_collect_22 ⟨Nat.le_of_ble_eq_true rfl, Nat.le_of_ble_eq_true rfl⟩) hS (fun q _ h => hFc q h) hFc (fun u t H1 locs ht hvm hw hB hz1 hk1 hS => ?_)
  obtain ⟨hP1, hK1, hD1⟩ := hB
  rw [ht] at hP1
  have hK1 := va_K.moved hvm.symm hK1
  obtain ⟨hP, hD⟩ := va_join (wr := [(co, .inr (4, [.ref w, .ref d, .ref on, .ref op, .int 0])), (on, .inr (7, [.ref onR, .ref onL, .ref onC, .ref onD, .int 0]))]) (w1 := [(un, .inr (5, [.ref unK, .int 0])), (op, .inr (7, [.ref opR, .ref opL, .ref opC, .ref opD, .int 0]))]) hP hD [2, 1] [0, 3] rfl rfl (by decide) (by decide) hk1 hFc hP1 hD1
  generalize H1 = H at hP hS ⊢
  have hP : va_P (dC, dI) vwCl [(co, .inr (4, [.ref w, .ref d, .ref on, .ref op, .int 0])), (on, .inr (7, [.ref onR, .ref onL, .ref onC, .ref onD, .int 0])), (un, .inr (5, [.ref unK, .int 0])), (op, .inr (7, [.ref opR, .ref opL, .ref opC, .ref opD, .int 0]))] _ := hP
  have hD : va_D A [(co, .inr (4, [.ref w, .ref d, .ref on, .ref op, .int 0])), (on, .inr (7, [.ref onR, .ref onL, .ref onC, .ref onD, .int 0])), (un, .inr (5, [.ref unK, .int 0])), (op, .inr (7, [.ref opR, .ref opL, .ref opC, .ref opD, .int 0]))] := hD
  exact ret () _ _ _ _ _ _ (trivial) (hP.sub [2, 0, 1, 3] rfl) (hK.sub [] rfl) (hD.sub [2, 0, 1, 3] (by decide) rfl) hS (Nat.le_of_ble_eq_true rfl) (Nat.le_of_ble_eq_true rfl) dX2_collect_25

set_option maxHeartbeats 4000000 in
set_option maxRecDepth 100000 in
/-- colour: of two empty circuits -/
theorem kX6_colour (l : Launch) (dC : Nat → ClassId) (dI : Nat → Nat → Nat) (h0 ma tm un unK co : Nat) (w wL wP wS d dL dP dS : Nat) (on onR onL onC onD op opR opL opC opD : Nat) (cI : ClassId) (gn gp : Nat → Int32) (sz : Nat) : fMv l yX6_colour wsX6_colour ({ frames := 3, cells := 0, slots := 0, locals := 65 } : Room) dC dI [.ref h0] [(h0, .inr (9, [.ref w, .ref d, .ref co, .ref un, .ref ma, .ref tm, .int 0, .int 0, .int 0])), (co, .inr (4, [.ref w, .ref d, .ref on, .ref op, .int 0])), (w, .inr (3, [.int 0, .int 0, .ref wL, .ref wP, .ref wS])), (d, .inr (3, [.int 0, .int 0, .ref dL, .ref dP, .ref dS])), (on, .inr (7, [.ref onR, .ref onL, .ref onC, .ref onD, .int 0])), (onL, .inl (cI, 20, .inl (fun _ => 0))), (onC, .inl (cI, 20, .inl gn)), (op, .inr (7, [.ref opR, .ref opL, .ref opC, .ref opD, .int 0])), (opL, .inl (cI, 20, .inl (fun _ => 0))), (opC, .inl (cI, 20, .inl gp)), (un, .inr (5, [.ref unK, .int 0]))] [(cI, .int)] sz (fun (u : (Nat → Int32) × (Nat → Int32)) => True) (fun u => [(h0, .inr (9, [.ref w, .ref d, .ref co, .ref un, .ref ma, .ref tm, .int 1, .int 0, .int 0])), (co, .inr (4, [.ref w, .ref d, .ref on, .ref op, .int 0])), (w, .inr (3, [.int 0, .int 0, .ref wL, .ref wP, .ref wS])), (d, .inr (3, [.int 0, .int 0, .ref dL, .ref dP, .ref dS])), (on, .inr (7, [.ref onR, .ref onL, .ref onC, .ref onD, .int 0])), (onL, .inl (cI, 20, .inl (fun _ => 0))), (onC, .inl (cI, 20, .inl u.1)), (op, .inr (7, [.ref opR, .ref opL, .ref opC, .ref opD, .int 0])), (opL, .inl (cI, 20, .inl (fun _ => 0))), (opC, .inl (cI, 20, .inl u.2)), (un, .inr (5, [.ref unK, .int 0]))]) (fun u => [(cI, .int)]) := by
  refine oP_v (y := yX6_colour) (cc := cX6_colour) (maxL := 1) (by decide) rfl (Nat.le_of_ble_eq_true rfl) ?_
  intro p e s m args below meth c ls A Q hx hb hr hml hown hts hN hZ hA hin hlk hP hK hD hl ret
  have hS : va_S A s.heap s.heap [] := va_S.rf
  have hl : lv_has ls 1 [(0, .ref h0)] := hl
  have hP : va_P (dC, dI) vwCl [(h0, .inr (9, [.ref w, .ref d, .ref co, .ref un, .ref ma, .ref tm, .int 0, .int 0, .int 0])), (co, .inr (4, [.ref w, .ref d, .ref on, .ref op, .int 0])), (w, .inr (3, [.int 0, .int 0, .ref wL, .ref wP, .ref wS])), (d, .inr (3, [.int 0, .int 0, .ref dL, .ref dP, .ref dS])), (on, .inr (7, [.ref onR, .ref onL, .ref onC, .ref onD, .int 0])), (onL, .inl (cI, 20, .inl (fun _ => 0))), (onC, .inl (cI, 20, .inl gn)), (op, .inr (7, [.ref opR, .ref opL, .ref opC, .ref opD, .int 0])), (opL, .inl (cI, 20, .inl (fun _ => 0))), (opC, .inl (cI, 20, .inl gp)), (un, .inr (5, [.ref unK, .int 0]))] _ := hP
  have hD : va_D A [(h0, .inr (9, [.ref w, .ref d, .ref co, .ref un, .ref ma, .ref tm, .int 0, .int 0, .int 0])), (co, .inr (4, [.ref w, .ref d, .ref on, .ref op, .int 0])), (w, .inr (3, [.int 0, .int 0, .ref wL, .ref wP, .ref wS])), (d, .inr (3, [.int 0, .int 0, .ref dL, .ref dP, .ref dS])), (on, .inr (7, [.ref onR, .ref onL, .ref onC, .ref onD, .int 0])), (onL, .inl (cI, 20, .inl (fun _ => 0))), (onC, .inl (cI, 20, .inl gn)), (op, .inr (7, [.ref opR, .ref opL, .ref opC, .ref opD, .int 0])), (opL, .inl (cI, 20, .inl (fun _ => 0))), (opC, .inl (cI, 20, .inl gp)), (un, .inr (5, [.ref unK, .int 0]))] := hD
  refine lv_aload_n hx hb dX6_colour_0 rfl (lv_at hl 0 rfl) ?_
  refine va_get (D := (dC, dI)) (ci := 9) (v := .int 0) (C := RX6) (T := TX6) (N := 9) hx hb hts (fun w h => List.mem_cons_of_mem _ (List.mem_append_left _ (List.mem_append_left _ (List.mem_append_left _ (List.mem_append_left _ (List.mem_append_left _ (List.mem_append_left _ (List.mem_append_right _ (h))))))))) hown hK hP 0 rfl rfl 6 (by decide) (hts (.fieldLink RX6 308 "Netcompare" "isColoured" "Z") (List.mem_cons_of_mem _ (List.mem_append_left _ (List.mem_append_left _ (List.mem_append_left _ (List.mem_append_left _ (List.mem_append_left _ (List.mem_append_left _ (List.mem_append_left _ (List.mem_append_left _ (List.mem_of_getElem? (i := 0) rfl))))))))))) (fun _ h9 => h9) rfl dX6_colour_1 ?_
  refine lv_if_ne (tgt := 44) hx hb dX6_colour_4 (by decide) (fun h9 => absurd (by decide) h9) (fun _ => ?_)
  refine lv_aload_n hx hb dX6_colour_7 rfl (lv_at hl 0 rfl) ?_
  refine va_get (D := (dC, dI)) (ci := 9) (v := .ref w) (C := RX6) (T := TX6) (N := 9) hx hb hts (fun w h => List.mem_cons_of_mem _ (List.mem_append_left _ (List.mem_append_left _ (List.mem_append_left _ (List.mem_append_left _ (List.mem_append_left _ (List.mem_append_left _ (List.mem_append_right _ (h))))))))) hown hK hP 0 rfl rfl 0 (by decide) (hts (.fieldLink RX6 10 "Netcompare" "wished" "LNetcompare$Circuit;") (List.mem_cons_of_mem _ (List.mem_append_left _ (List.mem_append_left _ (List.mem_append_left _ (List.mem_append_left _ (List.mem_append_left _ (List.mem_append_left _ (List.mem_append_left _ (List.mem_append_left _ (List.mem_of_getElem? (i := 1) rfl))))))))))) (fun _ h9 => h9) rfl dX6_colour_8 ?_
  have hPc := hP.sub (ws' := [(w, .inr (3, [.int 0, .int 0, .ref wL, .ref wP, .ref wS]))]) [2] rfl
  have hDc := hD.sub (ws' := [(w, .inr (3, [.int 0, .int 0, .ref wL, .ref wP, .ref wS]))]) [2] (by decide) rfl
  have hKc := hK.sub (tys' := []) [] rfl
  have hFc := va_free (wc := [(w, .inr (3, [.int 0, .int 0, .ref wL, .ref wP, .ref wS]))]) hD hS hA [2] rfl
  refine va_callv (va_runV (As := []) (rest := []) ⟨hx, hb, hml, hown, hts⟩ (kX0_measure l dC dI w wL wP wS s.heap.size) (cwV 0 hts gX6_colour_X0_measure rfl rfl rfl (by decide +kernel) ⟨Nat.le_of_ble_eq_true rfl, Nat.le_of_ble_eq_true rfl⟩) (fPreV hN hZ hS (fun q h => hFc q h) hPc hKc hDc (ci := 3) (q0 := 0) rfl rfl) rfl rfl hl.1 rfl (lv_room (Nat.le_of_ble_eq_true rfl)) dX6_colour_11 ⟨Nat.le_of_ble_eq_true rfl, Nat.le_of_ble_eq_true rfl⟩) hS (fun q _ h => hFc q h) hFc (fun u t H1 locs ht hvm hw hB hz1 hk1 hS => ?_)
  obtain ⟨hP1, hK1, hD1⟩ := hB
  rw [ht] at hP1
  have hK1 := va_K.moved hvm.symm hK1
  obtain ⟨hP, hD⟩ := va_join (wr := [(h0, .inr (9, [.ref w, .ref d, .ref co, .ref un, .ref ma, .ref tm, .int 0, .int 0, .int 0])), (co, .inr (4, [.ref w, .ref d, .ref on, .ref op, .int 0])), (d, .inr (3, [.int 0, .int 0, .ref dL, .ref dP, .ref dS])), (on, .inr (7, [.ref onR, .ref onL, .ref onC, .ref onD, .int 0])), (onL, .inl (cI, 20, .inl (fun _ => 0))), (onC, .inl (cI, 20, .inl gn)), (op, .inr (7, [.ref opR, .ref opL, .ref opC, .ref opD, .int 0])), (opL, .inl (cI, 20, .inl (fun _ => 0))), (opC, .inl (cI, 20, .inl gp)), (un, .inr (5, [.ref unK, .int 0]))]) (w1 := [(w, .inr (3, [.int 0, .int 0, .ref wL, .ref wP, .ref wS]))]) hP hD [2] [0, 1, 3, 4, 5, 6, 7, 8, 9, 10] rfl rfl (by decide) (by decide) hk1 hFc hP1 hD1
  generalize H1 = H at hP hS ⊢
  have hP : va_P (dC, dI) vwCl [(h0, .inr (9, [.ref w, .ref d, .ref co, .ref un, .ref ma, .ref tm, .int 0, .int 0, .int 0])), (co, .inr (4, [.ref w, .ref d, .ref on, .ref op, .int 0])), (d, .inr (3, [.int 0, .int 0, .ref dL, .ref dP, .ref dS])), (on, .inr (7, [.ref onR, .ref onL, .ref onC, .ref onD, .int 0])), (onL, .inl (cI, 20, .inl (fun _ => 0))), (onC, .inl (cI, 20, .inl gn)), (op, .inr (7, [.ref opR, .ref opL, .ref opC, .ref opD, .int 0])), (opL, .inl (cI, 20, .inl (fun _ => 0))), (opC, .inl (cI, 20, .inl gp)), (un, .inr (5, [.ref unK, .int 0])), (w, .inr (3, [.int 0, .int 0, .ref wL, .ref wP, .ref wS]))] _ := hP
  have hD : va_D A [(h0, .inr (9, [.ref w, .ref d, .ref co, .ref un, .ref ma, .ref tm, .int 0, .int 0, .int 0])), (co, .inr (4, [.ref w, .ref d, .ref on, .ref op, .int 0])), (d, .inr (3, [.int 0, .int 0, .ref dL, .ref dP, .ref dS])), (on, .inr (7, [.ref onR, .ref onL, .ref onC, .ref onD, .int 0])), (onL, .inl (cI, 20, .inl (fun _ => 0))), (onC, .inl (cI, 20, .inl gn)), (op, .inr (7, [.ref opR, .ref opL, .ref opC, .ref opD, .int 0])), (opL, .inl (cI, 20, .inl (fun _ => 0))), (opC, .inl (cI, 20, .inl gp)), (un, .inr (5, [.ref unK, .int 0])), (w, .inr (3, [.int 0, .int 0, .ref wL, .ref wP, .ref wS]))] := hD
  refine lv_aload_n hx hb dX6_colour_14 rfl (lv_at hl 0 rfl) ?_
  refine va_get (D := (dC, dI)) (ci := 9) (v := .ref d) (C := RX6) (T := TX6) (N := 9) hx hb hts (fun w h => List.mem_cons_of_mem _ (List.mem_append_left _ (List.mem_append_left _ (List.mem_append_left _ (List.mem_append_left _ (List.mem_append_left _ (List.mem_append_left _ (List.mem_append_right _ (h))))))))) hown hK hP 0 rfl rfl 1 (by decide) (hts (.fieldLink RX6 16 "Netcompare" "drawn" "LNetcompare$Circuit;") (List.mem_cons_of_mem _ (List.mem_append_left _ (List.mem_append_left _ (List.mem_append_left _ (List.mem_append_left _ (List.mem_append_left _ (List.mem_append_left _ (List.mem_append_left _ (List.mem_append_left _ (List.mem_of_getElem? (i := 2) rfl))))))))))) (fun _ h9 => h9) rfl dX6_colour_15 ?_
  have hPc := hP.sub (ws' := [(d, .inr (3, [.int 0, .int 0, .ref dL, .ref dP, .ref dS]))]) [2] rfl
  have hDc := hD.sub (ws' := [(d, .inr (3, [.int 0, .int 0, .ref dL, .ref dP, .ref dS]))]) [2] (by decide) rfl
  have hKc := hK.sub (tys' := []) [] rfl
  have hFc := va_free (wc := [(d, .inr (3, [.int 0, .int 0, .ref dL, .ref dP, .ref dS]))]) hD hS hA [2] rfl
  refine va_callv (va_runV (As := []) (rest := []) ⟨hx, hb, hml, hown, hts⟩ (kX0_measure l dC dI d dL dP dS H.size) (cwV 0 hts gX6_colour_X0_measure rfl rfl rfl (by decide +kernel) ⟨Nat.le_of_ble_eq_true rfl, Nat.le_of_ble_eq_true rfl⟩) (fPreV hN hZ hS (fun q h => hFc q h) hPc hKc hDc (ci := 3) (q0 := 0) rfl rfl) rfl rfl hl.1 rfl (lv_room (Nat.le_of_ble_eq_true rfl)) dX6_colour_18 ⟨Nat.le_of_ble_eq_true rfl, Nat.le_of_ble_eq_true rfl⟩) hS (fun q _ h => hFc q h) hFc (fun u t H1 locs ht hvm hw hB hz1 hk1 hS => ?_)
  obtain ⟨hP1, hK1, hD1⟩ := hB
  rw [ht] at hP1
  have hK1 := va_K.moved hvm.symm hK1
  obtain ⟨hP, hD⟩ := va_join (wr := [(h0, .inr (9, [.ref w, .ref d, .ref co, .ref un, .ref ma, .ref tm, .int 0, .int 0, .int 0])), (co, .inr (4, [.ref w, .ref d, .ref on, .ref op, .int 0])), (on, .inr (7, [.ref onR, .ref onL, .ref onC, .ref onD, .int 0])), (onL, .inl (cI, 20, .inl (fun _ => 0))), (onC, .inl (cI, 20, .inl gn)), (op, .inr (7, [.ref opR, .ref opL, .ref opC, .ref opD, .int 0])), (opL, .inl (cI, 20, .inl (fun _ => 0))), (opC, .inl (cI, 20, .inl gp)), (un, .inr (5, [.ref unK, .int 0])), (w, .inr (3, [.int 0, .int 0, .ref wL, .ref wP, .ref wS]))]) (w1 := [(d, .inr (3, [.int 0, .int 0, .ref dL, .ref dP, .ref dS]))]) hP hD [2] [0, 1, 3, 4, 5, 6, 7, 8, 9, 10] rfl rfl (by decide) (by decide) hk1 hFc hP1 hD1
  generalize H1 = H at hP hS ⊢
  have hP : va_P (dC, dI) vwCl [(h0, .inr (9, [.ref w, .ref d, .ref co, .ref un, .ref ma, .ref tm, .int 0, .int 0, .int 0])), (co, .inr (4, [.ref w, .ref d, .ref on, .ref op, .int 0])), (on, .inr (7, [.ref onR, .ref onL, .ref onC, .ref onD, .int 0])), (onL, .inl (cI, 20, .inl (fun _ => 0))), (onC, .inl (cI, 20, .inl gn)), (op, .inr (7, [.ref opR, .ref opL, .ref opC, .ref opD, .int 0])), (opL, .inl (cI, 20, .inl (fun _ => 0))), (opC, .inl (cI, 20, .inl gp)), (un, .inr (5, [.ref unK, .int 0])), (w, .inr (3, [.int 0, .int 0, .ref wL, .ref wP, .ref wS])), (d, .inr (3, [.int 0, .int 0, .ref dL, .ref dP, .ref dS]))] _ := hP
  have hD : va_D A [(h0, .inr (9, [.ref w, .ref d, .ref co, .ref un, .ref ma, .ref tm, .int 0, .int 0, .int 0])), (co, .inr (4, [.ref w, .ref d, .ref on, .ref op, .int 0])), (on, .inr (7, [.ref onR, .ref onL, .ref onC, .ref onD, .int 0])), (onL, .inl (cI, 20, .inl (fun _ => 0))), (onC, .inl (cI, 20, .inl gn)), (op, .inr (7, [.ref opR, .ref opL, .ref opC, .ref opD, .int 0])), (opL, .inl (cI, 20, .inl (fun _ => 0))), (opC, .inl (cI, 20, .inl gp)), (un, .inr (5, [.ref unK, .int 0])), (w, .inr (3, [.int 0, .int 0, .ref wL, .ref wP, .ref wS])), (d, .inr (3, [.int 0, .int 0, .ref dL, .ref dP, .ref dS]))] := hD
  refine lv_aload_n hx hb dX6_colour_21 rfl (lv_at hl 0 rfl) ?_
  refine va_get (D := (dC, dI)) (ci := 9) (v := .ref co) (C := RX6) (T := TX6) (N := 9) hx hb hts (fun w h => List.mem_cons_of_mem _ (List.mem_append_left _ (List.mem_append_left _ (List.mem_append_left _ (List.mem_append_left _ (List.mem_append_left _ (List.mem_append_left _ (List.mem_append_right _ (h))))))))) hown hK hP 0 rfl rfl 2 (by decide) (hts (.fieldLink RX6 24 "Netcompare" "colours" "LNetcompare$Colours;") (List.mem_cons_of_mem _ (List.mem_append_left _ (List.mem_append_left _ (List.mem_append_left _ (List.mem_append_left _ (List.mem_append_left _ (List.mem_append_left _ (List.mem_append_left _ (List.mem_append_left _ (List.mem_of_getElem? (i := 3) rfl))))))))))) (fun _ h9 => h9) rfl dX6_colour_22 ?_
  have hPc := hP.sub (ws' := [(co, .inr (4, [.ref w, .ref d, .ref on, .ref op, .int 0])), (w, .inr (3, [.int 0, .int 0, .ref wL, .ref wP, .ref wS])), (d, .inr (3, [.int 0, .int 0, .ref dL, .ref dP, .ref dS])), (on, .inr (7, [.ref onR, .ref onL, .ref onC, .ref onD, .int 0])), (onL, .inl (cI, 20, .inl (fun _ => 0))), (onC, .inl (cI, 20, .inl gn)), (op, .inr (7, [.ref opR, .ref opL, .ref opC, .ref opD, .int 0])), (opL, .inl (cI, 20, .inl (fun _ => 0))), (opC, .inl (cI, 20, .inl gp))]) [1, 9, 10, 2, 3, 4, 5, 6, 7] rfl
  have hDc := hD.sub (ws' := [(co, .inr (4, [.ref w, .ref d, .ref on, .ref op, .int 0])), (w, .inr (3, [.int 0, .int 0, .ref wL, .ref wP, .ref wS])), (d, .inr (3, [.int 0, .int 0, .ref dL, .ref dP, .ref dS])), (on, .inr (7, [.ref onR, .ref onL, .ref onC, .ref onD, .int 0])), (onL, .inl (cI, 20, .inl (fun _ => 0))), (onC, .inl (cI, 20, .inl gn)), (op, .inr (7, [.ref opR, .ref opL, .ref opC, .ref opD, .int 0])), (opL, .inl (cI, 20, .inl (fun _ => 0))), (opC, .inl (cI, 20, .inl gp))]) [1, 9, 10, 2, 3, 4, 5, 6, 7] (by decide) rfl
  have hKc := hK.sub (tys' := [(cI, .int)]) [0] rfl
  have hFc := va_free (wc := [(co, .inr (4, [.ref w, .ref d, .ref on, .ref op, .int 0])), (w, .inr (3, [.int 0, .int 0, .ref wL, .ref wP, .ref wS])), (d, .inr (3, [.int 0, .int 0, .ref dL, .ref dP, .ref dS])), (on, .inr (7, [.ref onR, .ref onL, .ref onC, .ref onD, .int 0])), (onL, .inl (cI, 20, .inl (fun _ => 0))), (onC, .inl (cI, 20, .inl gn)), (op, .inr (7, [.ref opR, .ref opL, .ref opC, .ref opD, .int 0])), (opL, .inl (cI, 20, .inl (fun _ => 0))), (opC, .inl (cI, 20, .inl gp))]) hD hS hA [1, 9, 10, 2, 3, 4, 5, 6, 7] rfl
  refine va_callv (va_runV (As := []) (rest := []) ⟨hx, hb, hml, hown, hts⟩ (kX1_refine l dC dI co w wL wP wS d dL dP dS on onR onL onC onD op opR opL opC opD cI gn gp H.size) (cwV 0 hts gX6_colour_X1_refine rfl rfl rfl (by decide +kernel) ⟨Nat.le_of_ble_eq_true rfl, Nat.le_of_ble_eq_true rfl⟩) (fPreV hN hZ hS (fun q h => hFc q h) hPc hKc hDc (ci := 4) (q0 := 0) rfl rfl) rfl rfl hl.1 rfl (lv_room (Nat.le_of_ble_eq_true rfl)) dX6_colour_25 ⟨Nat.le_of_ble_eq_true rfl, Nat.le_of_ble_eq_true rfl⟩) hS (fun q _ h => hFc q h) hFc (fun u t H1 locs ht hvm hw hB hz1 hk1 hS => ?_)
  obtain ⟨hP1, hK1, hD1⟩ := hB
  rw [ht] at hP1
  have hK1 := va_K.moved hvm.symm hK1
  obtain ⟨u1, u2⟩ := u
  obtain ⟨hP, hD⟩ := va_join (wr := [(h0, .inr (9, [.ref w, .ref d, .ref co, .ref un, .ref ma, .ref tm, .int 0, .int 0, .int 0])), (un, .inr (5, [.ref unK, .int 0]))]) (w1 := [(co, .inr (4, [.ref w, .ref d, .ref on, .ref op, .int 0])), (w, .inr (3, [.int 0, .int 0, .ref wL, .ref wP, .ref wS])), (d, .inr (3, [.int 0, .int 0, .ref dL, .ref dP, .ref dS])), (on, .inr (7, [.ref onR, .ref onL, .ref onC, .ref onD, .int 0])), (onL, .inl (cI, 20, .inl (fun _ => 0))), (onC, .inl (cI, 20, .inl u1)), (op, .inr (7, [.ref opR, .ref opL, .ref opC, .ref opD, .int 0])), (opL, .inl (cI, 20, .inl (fun _ => 0))), (opC, .inl (cI, 20, .inl u2))]) hP hD [1, 9, 10, 2, 3, 4, 5, 6, 7] [0, 8] rfl rfl (by decide) (by decide) hk1 hFc hP1 hD1
  generalize H1 = H at hP hS ⊢
  have hP : va_P (dC, dI) vwCl [(h0, .inr (9, [.ref w, .ref d, .ref co, .ref un, .ref ma, .ref tm, .int 0, .int 0, .int 0])), (un, .inr (5, [.ref unK, .int 0])), (co, .inr (4, [.ref w, .ref d, .ref on, .ref op, .int 0])), (w, .inr (3, [.int 0, .int 0, .ref wL, .ref wP, .ref wS])), (d, .inr (3, [.int 0, .int 0, .ref dL, .ref dP, .ref dS])), (on, .inr (7, [.ref onR, .ref onL, .ref onC, .ref onD, .int 0])), (onL, .inl (cI, 20, .inl (fun _ => 0))), (onC, .inl (cI, 20, .inl u1)), (op, .inr (7, [.ref opR, .ref opL, .ref opC, .ref opD, .int 0])), (opL, .inl (cI, 20, .inl (fun _ => 0))), (opC, .inl (cI, 20, .inl u2))] _ := hP
  have hD : va_D A [(h0, .inr (9, [.ref w, .ref d, .ref co, .ref un, .ref ma, .ref tm, .int 0, .int 0, .int 0])), (un, .inr (5, [.ref unK, .int 0])), (co, .inr (4, [.ref w, .ref d, .ref on, .ref op, .int 0])), (w, .inr (3, [.int 0, .int 0, .ref wL, .ref wP, .ref wS])), (d, .inr (3, [.int 0, .int 0, .ref dL, .ref dP, .ref dS])), (on, .inr (7, [.ref onR, .ref onL, .ref onC, .ref onD, .int 0])), (onL, .inl (cI, 20, .inl (fun _ => 0))), (onC, .inl (cI, 20, .inl u1)), (op, .inr (7, [.ref opR, .ref opL, .ref opC, .ref opD, .int 0])), (opL, .inl (cI, 20, .inl (fun _ => 0))), (opC, .inl (cI, 20, .inl u2))] := hD
  refine lv_aload_n hx hb dX6_colour_28 rfl (lv_at hl 0 rfl) ?_
  refine va_get (D := (dC, dI)) (ci := 9) (v := .ref un) (C := RX6) (T := TX6) (N := 9) hx hb hts (fun w h => List.mem_cons_of_mem _ (List.mem_append_left _ (List.mem_append_left _ (List.mem_append_left _ (List.mem_append_left _ (List.mem_append_left _ (List.mem_append_left _ (List.mem_append_right _ (h))))))))) hown hK hP 0 rfl rfl 3 (by decide) (hts (.fieldLink RX6 31 "Netcompare" "unequal" "LNetcompare$Differences;") (List.mem_cons_of_mem _ (List.mem_append_left _ (List.mem_append_left _ (List.mem_append_left _ (List.mem_append_left _ (List.mem_append_left _ (List.mem_append_left _ (List.mem_append_left _ (List.mem_append_left _ (List.mem_of_getElem? (i := 4) rfl))))))))))) (fun _ h9 => h9) rfl dX6_colour_29 ?_
  refine lv_aload_n hx hb dX6_colour_32 rfl (lv_at hl 0 rfl) ?_
  refine va_get (D := (dC, dI)) (ci := 9) (v := .ref co) (C := RX6) (T := TX6) (N := 9) hx hb hts (fun w h => List.mem_cons_of_mem _ (List.mem_append_left _ (List.mem_append_left _ (List.mem_append_left _ (List.mem_append_left _ (List.mem_append_left _ (List.mem_append_left _ (List.mem_append_right _ (h))))))))) hown hK hP 0 rfl rfl 2 (by decide) (hts (.fieldLink RX6 24 "Netcompare" "colours" "LNetcompare$Colours;") (List.mem_cons_of_mem _ (List.mem_append_left _ (List.mem_append_left _ (List.mem_append_left _ (List.mem_append_left _ (List.mem_append_left _ (List.mem_append_left _ (List.mem_append_left _ (List.mem_append_left _ (List.mem_of_getElem? (i := 3) rfl))))))))))) (fun _ h9 => h9) rfl dX6_colour_33 ?_
  have hPc := hP.sub (ws' := [(un, .inr (5, [.ref unK, .int 0])), (co, .inr (4, [.ref w, .ref d, .ref on, .ref op, .int 0])), (on, .inr (7, [.ref onR, .ref onL, .ref onC, .ref onD, .int 0])), (op, .inr (7, [.ref opR, .ref opL, .ref opC, .ref opD, .int 0]))]) [1, 2, 5, 8] rfl
  have hDc := hD.sub (ws' := [(un, .inr (5, [.ref unK, .int 0])), (co, .inr (4, [.ref w, .ref d, .ref on, .ref op, .int 0])), (on, .inr (7, [.ref onR, .ref onL, .ref onC, .ref onD, .int 0])), (op, .inr (7, [.ref opR, .ref opL, .ref opC, .ref opD, .int 0]))]) [1, 2, 5, 8] (by decide) rfl
  have hKc := hK.sub (tys' := []) [] rfl
  have hFc := va_free (wc := [(un, .inr (5, [.ref unK, .int 0])), (co, .inr (4, [.ref w, .ref d, .ref on, .ref op, .int 0])), (on, .inr (7, [.ref onR, .ref onL, .ref onC, .ref onD, .int 0])), (op, .inr (7, [.ref opR, .ref opL, .ref opC, .ref opD, .int 0]))]) hD hS hA [1, 2, 5, 8] rfl
  refine va_callv (va_runV (As := [.ref co]) (rest := []) ⟨hx, hb, hml, hown, hts⟩ (kX2_collect l dC dI un unK co w d on op onR onL onC onD opR opL opC opD H.size) (cwV 1 hts gX6_colour_X2_collect rfl rfl rfl (by decide +kernel) ⟨Nat.le_of_ble_eq_true rfl, Nat.le_of_ble_eq_true rfl⟩) (fPreV hN hZ hS (fun q h => hFc q h) hPc hKc hDc (ci := 5) (q0 := 0) rfl rfl) rfl rfl hl.1 rfl (lv_room (Nat.le_of_ble_eq_true rfl)) dX6_colour_36 ⟨Nat.le_of_ble_eq_true rfl, Nat.le_of_ble_eq_true rfl⟩) hS (fun q _ h => hFc q h) hFc (fun u t H1 locs ht hvm hw hB hz1 hk1 hS => ?_)
  obtain ⟨hP1, hK1, hD1⟩ := hB
  rw [ht] at hP1
  have hK1 := va_K.moved hvm.symm hK1
  obtain ⟨hP, hD⟩ := va_join (wr := [(h0, .inr (9, [.ref w, .ref d, .ref co, .ref un, .ref ma, .ref tm, .int 0, .int 0, .int 0])), (w, .inr (3, [.int 0, .int 0, .ref wL, .ref wP, .ref wS])), (d, .inr (3, [.int 0, .int 0, .ref dL, .ref dP, .ref dS])), (onL, .inl (cI, 20, .inl (fun _ => 0))), (onC, .inl (cI, 20, .inl u1)), (opL, .inl (cI, 20, .inl (fun _ => 0))), (opC, .inl (cI, 20, .inl u2))]) (w1 := [(un, .inr (5, [.ref unK, .int 0])), (co, .inr (4, [.ref w, .ref d, .ref on, .ref op, .int 0])), (on, .inr (7, [.ref onR, .ref onL, .ref onC, .ref onD, .int 0])), (op, .inr (7, [.ref opR, .ref opL, .ref opC, .ref opD, .int 0]))]) hP hD [1, 2, 5, 8] [0, 3, 4, 6, 7, 9, 10] rfl rfl (by decide) (by decide) hk1 hFc hP1 hD1
  generalize H1 = H at hP hS ⊢
  have hP : va_P (dC, dI) vwCl [(h0, .inr (9, [.ref w, .ref d, .ref co, .ref un, .ref ma, .ref tm, .int 0, .int 0, .int 0])), (w, .inr (3, [.int 0, .int 0, .ref wL, .ref wP, .ref wS])), (d, .inr (3, [.int 0, .int 0, .ref dL, .ref dP, .ref dS])), (onL, .inl (cI, 20, .inl (fun _ => 0))), (onC, .inl (cI, 20, .inl u1)), (opL, .inl (cI, 20, .inl (fun _ => 0))), (opC, .inl (cI, 20, .inl u2)), (un, .inr (5, [.ref unK, .int 0])), (co, .inr (4, [.ref w, .ref d, .ref on, .ref op, .int 0])), (on, .inr (7, [.ref onR, .ref onL, .ref onC, .ref onD, .int 0])), (op, .inr (7, [.ref opR, .ref opL, .ref opC, .ref opD, .int 0]))] _ := hP
  have hD : va_D A [(h0, .inr (9, [.ref w, .ref d, .ref co, .ref un, .ref ma, .ref tm, .int 0, .int 0, .int 0])), (w, .inr (3, [.int 0, .int 0, .ref wL, .ref wP, .ref wS])), (d, .inr (3, [.int 0, .int 0, .ref dL, .ref dP, .ref dS])), (onL, .inl (cI, 20, .inl (fun _ => 0))), (onC, .inl (cI, 20, .inl u1)), (opL, .inl (cI, 20, .inl (fun _ => 0))), (opC, .inl (cI, 20, .inl u2)), (un, .inr (5, [.ref unK, .int 0])), (co, .inr (4, [.ref w, .ref d, .ref on, .ref op, .int 0])), (on, .inr (7, [.ref onR, .ref onL, .ref onC, .ref onD, .int 0])), (op, .inr (7, [.ref opR, .ref opL, .ref opC, .ref opD, .int 0]))] := hD
  refine lv_aload_n hx hb dX6_colour_39 rfl (lv_at hl 0 rfl) ?_
  refine lv_iconst (v := 1) hx hb dX6_colour_40 (by decide) ?_
  refine va_put (D := (dC, dI)) (ci := 9) (v := .int 1) (ty := .boolean) (C := RX6) (T := TX6) (N := 9) hx hb hts (fun w h => List.mem_cons_of_mem _ (List.mem_append_left _ (List.mem_append_left _ (List.mem_append_left _ (List.mem_append_left _ (List.mem_append_left _ (List.mem_append_left _ (List.mem_append_right _ (h))))))))) tyX6 tyX6_ok nmX6 hown hK hP hD hS 0 rfl rfl 6 (by decide) (hts (.fieldLink RX6 308 "Netcompare" "isColoured" "Z") (List.mem_cons_of_mem _ (List.mem_append_left _ (List.mem_append_left _ (List.mem_append_left _ (List.mem_append_left _ (List.mem_append_left _ (List.mem_append_left _ (List.mem_append_left _ (List.mem_append_left _ (List.mem_of_getElem? (i := 0) rfl))))))))))) (fun _ h9 => h9) rfl (by decide +kernel) rfl rfl (Nat.le_of_ble_eq_true rfl) dX6_colour_41 (fun H locs hP hD hS => ?_)
  have hP : va_P (dC, dI) vwCl [(h0, .inr (9, [.ref w, .ref d, .ref co, .ref un, .ref ma, .ref tm, .int 1, .int 0, .int 0])), (w, .inr (3, [.int 0, .int 0, .ref wL, .ref wP, .ref wS])), (d, .inr (3, [.int 0, .int 0, .ref dL, .ref dP, .ref dS])), (onL, .inl (cI, 20, .inl (fun _ => 0))), (onC, .inl (cI, 20, .inl u1)), (opL, .inl (cI, 20, .inl (fun _ => 0))), (opC, .inl (cI, 20, .inl u2)), (un, .inr (5, [.ref unK, .int 0])), (co, .inr (4, [.ref w, .ref d, .ref on, .ref op, .int 0])), (on, .inr (7, [.ref onR, .ref onL, .ref onC, .ref onD, .int 0])), (op, .inr (7, [.ref opR, .ref opL, .ref opC, .ref opD, .int 0]))] _ := hP
  have hD : va_D A [(h0, .inr (9, [.ref w, .ref d, .ref co, .ref un, .ref ma, .ref tm, .int 1, .int 0, .int 0])), (w, .inr (3, [.int 0, .int 0, .ref wL, .ref wP, .ref wS])), (d, .inr (3, [.int 0, .int 0, .ref dL, .ref dP, .ref dS])), (onL, .inl (cI, 20, .inl (fun _ => 0))), (onC, .inl (cI, 20, .inl u1)), (opL, .inl (cI, 20, .inl (fun _ => 0))), (opC, .inl (cI, 20, .inl u2)), (un, .inr (5, [.ref unK, .int 0])), (co, .inr (4, [.ref w, .ref d, .ref on, .ref op, .int 0])), (on, .inr (7, [.ref onR, .ref onL, .ref onC, .ref onD, .int 0])), (op, .inr (7, [.ref opR, .ref opL, .ref opC, .ref opD, .int 0]))] := hD
  exact ret (u1, u2) _ _ _ _ _ _ (trivial) (hP.sub [0, 8, 1, 2, 9, 3, 4, 10, 5, 6, 7] rfl) (hK.sub [0] rfl) (hD.sub [0, 8, 1, 2, 9, 3, 4, 10, 5, 6, 7] (by decide) rfl) hS (Nat.le_of_ble_eq_true rfl) (Nat.le_of_ble_eq_true rfl) dX6_colour_44
