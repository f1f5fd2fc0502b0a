set_option maxRecDepth 20000 in
theorem ggX3_find_X3_unbindAll : GoodIn wsX3_find wsX3_unbindAll := goodIn_ca (goodIn_r _ [6, 7, 8, 55, 56, 57, 58, 59, 60] (by decide +kernel) (by decide +kernel)) (goodIn_sub (fun _ h => List.mem_cons_of_mem _ (List.mem_append_right _ h)) (by decide +kernel))
set_option maxRecDepth 20000 in
theorem gX3_find_X3_unbindAll : GoodIn wsX3_find (wsV RX3 28 RX3 yX3_unbindAll wsX3_unbindAll) := goodIn_app (goodIn_of _ (by decide +kernel)) ggX3_find_X3_unbindAll
set_option maxRecDepth 20000 in
theorem ggX3_find_X3_mapNetsFrom : GoodIn wsX3_find wsX3_mapNetsFrom := goodIn_ca (goodIn_r _ [11, 12, 13, 8, 14, 15, 16, 5, 17, 18, 19, 20, 21, 22, 23, 24, 25, 26, 27, 28, 29, 30, 31, 32, 7, 33, 34, 35, 36, 37, 38, 39, 40, 41, 42, 43, 44, 45, 46, 47, 48, 49, 50, 9, 10, 51, 52, 53, 54, 55, 56, 57, 58, 59, 60, 61, 62, 63, 64, 65, 66, 67, 68, 69, 70, 71, 72, 73, 74, 75, 76] (by decide +kernel) (by decide +kernel)) (goodIn_sub (fun _ h => List.mem_cons_of_mem _ (List.mem_append_right _ h)) (by decide +kernel))
set_option maxRecDepth 20000 in
theorem gX3_find_X3_mapNetsFrom : GoodIn wsX3_find (va_wsS RX3 31 yX3_mapNetsFrom wsX3_mapNetsFrom) := goodIn_app (goodIn_of _ (by decide +kernel)) ggX3_find_X3_mapNetsFrom
theorem dX3_find_0 : decode cX3_find 0 = .ok (.aload_n 0, 1) := by decide +kernel
theorem dX3_find_1 : decode cX3_find 1 = .ok (.invokevirtual 28, 3) := by decide +kernel
theorem dX3_find_4 : decode cX3_find 4 = .ok (.aload_n 0, 1) := by decide +kernel
theorem dX3_find_5 : decode cX3_find 5 = .ok (.iload_n 2, 1) := by decide +kernel
theorem dX3_find_6 : decode cX3_find 6 = .ok (.ifCond .eq 16, 3) := by decide +kernel
theorem dX3_find_9 : decode cX3_find 9 = .ok (.aload_n 0, 1) := by decide +kernel
theorem dX3_find_10 : decode cX3_find 10 = .ok (.aload_n 1, 1) := by decide +kernel
theorem dX3_find_11 : decode cX3_find 11 = .ok (.iconst 0, 1) := by decide +kernel
theorem dX3_find_12 : decode cX3_find 12 = .ok (.invokestatic 31, 3) := by decide +kernel
theorem dX3_find_15 : decode cX3_find 15 = .ok (.ifCond .eq 7, 3) := by decide +kernel
theorem dX3_find_18 : decode cX3_find 18 = .ok (.iconst 1, 1) := by decide +kernel
theorem dX3_find_19 : decode cX3_find 19 = .ok (.goto 4, 3) := by decide +kernel
theorem dX3_find_23 : decode cX3_find 23 = .ok (.putfield 35, 3) := by decide +kernel
theorem dX3_find_26 : decode cX3_find 26 = .ok (.return_, 1) := by decide +kernel
set_option maxRecDepth 20000 in
theorem ggX3_findByTrying_X3_unbindAll : GoodIn wsX3_findByTrying wsX3_unbindAll := goodIn_ca (goodIn_r _ [8, 9, 10, 58, 59, 60, 61, 62, 63] (by decide +kernel) (by decide +kernel)) (goodIn_sub (fun _ h => List.mem_cons_of_mem _ (List.mem_append_right _ h)) (by decide +kernel))
set_option maxRecDepth 20000 in
theorem gX3_findByTrying_X3_unbindAll : GoodIn wsX3_findByTrying (wsV RX3 28 RX3 yX3_unbindAll wsX3_unbindAll) := goodIn_app (goodIn_of _ (by decide +kernel)) ggX3_findByTrying_X3_unbindAll
set_option maxRecDepth 20000 in
theorem ggX3_findByTrying_X0_countParts : GoodIn wsX3_findByTrying wsX0_countParts := goodIn_r _ [15, 16, 17, 18, 19, 20, 21, 22, 23, 64, 65, 66, 67, 68, 69, 70, 71, 72, 73, 74] (by decide +kernel) (by decide +kernel)
set_option maxRecDepth 20000 in
theorem gX3_findByTrying_X0_countParts : GoodIn wsX3_findByTrying (wsV RX3 45 RX0 yX0_countParts wsX0_countParts) := goodIn_app (goodIn_of _ (by decide +kernel)) ggX3_findByTrying_X0_countParts
set_option maxRecDepth 20000 in
theorem ggX3_findByTrying_X3_tryNetsFrom : GoodIn wsX3_findByTrying wsX3_tryNetsFrom := goodIn_ca (goodIn_r _ [26, 1, 2, 10, 27, 28, 29, 7, 30, 9, 31, 32, 33, 34, 35, 36, 19, 20, 21, 22, 23, 37, 38, 39, 40, 41, 42, 43, 44, 45, 46, 47, 48, 49, 50, 51, 52, 53, 24, 25, 54, 55, 56, 57, 58, 59, 60, 61, 62, 63, 64, 65, 66, 67, 68, 69, 70, 71, 72, 73, 74] (by decide +kernel) (by decide +kernel)) (goodIn_sub (fun _ h => List.mem_cons_of_mem _ (List.mem_append_right _ h)) (by decide +kernel))
set_option maxRecDepth 20000 in
theorem gX3_findByTrying_X3_tryNetsFrom : GoodIn wsX3_findByTrying (va_wsS RX3 49 yX3_tryNetsFrom wsX3_tryNetsFrom) := goodIn_app (goodIn_of _ (by decide +kernel)) ggX3_findByTrying_X3_tryNetsFrom
theorem dX3_findByTrying_0 : decode cX3_findByTrying 0 = .ok (.aload_n 0, 1) := by decide +kernel
theorem dX3_findByTrying_1 : decode cX3_findByTrying 1 = .ok (.invokevirtual 28, 3) := by decide +kernel
theorem dX3_findByTrying_4 : decode cX3_findByTrying 4 = .ok (.aload_n 0, 1) := by decide +kernel
theorem dX3_findByTrying_5 : decode cX3_findByTrying 5 = .ok (.aload_n 0, 1) := by decide +kernel
theorem dX3_findByTrying_6 : decode cX3_findByTrying 6 = .ok (.getfield 21, 3) := by decide +kernel
theorem dX3_findByTrying_9 : decode cX3_findByTrying 9 = .ok (.getfield 39, 3) := by decide +kernel
theorem dX3_findByTrying_12 : decode cX3_findByTrying 12 = .ok (.aload_n 0, 1) := by decide +kernel
theorem dX3_findByTrying_13 : decode cX3_findByTrying 13 = .ok (.getfield 25, 3) := by decide +kernel
theorem dX3_findByTrying_16 : decode cX3_findByTrying 16 = .ok (.getfield 39, 3) := by decide +kernel
theorem dX3_findByTrying_19 : decode cX3_findByTrying 19 = .ok (.if_icmp .ne 32, 3) := by decide +kernel
theorem dX3_findByTrying_22 : decode cX3_findByTrying 22 = .ok (.aload_n 0, 1) := by decide +kernel
theorem dX3_findByTrying_23 : decode cX3_findByTrying 23 = .ok (.getfield 21, 3) := by decide +kernel
theorem dX3_findByTrying_26 : decode cX3_findByTrying 26 = .ok (.invokevirtual 45, 3) := by decide +kernel
theorem dX3_findByTrying_29 : decode cX3_findByTrying 29 = .ok (.aload_n 0, 1) := by decide +kernel
theorem dX3_findByTrying_30 : decode cX3_findByTrying 30 = .ok (.getfield 25, 3) := by decide +kernel
theorem dX3_findByTrying_33 : decode cX3_findByTrying 33 = .ok (.invokevirtual 45, 3) := by decide +kernel
theorem dX3_findByTrying_36 : decode cX3_findByTrying 36 = .ok (.if_icmp .ne 15, 3) := by decide +kernel
theorem dX3_findByTrying_39 : decode cX3_findByTrying 39 = .ok (.aload_n 0, 1) := by decide +kernel
theorem dX3_findByTrying_40 : decode cX3_findByTrying 40 = .ok (.iconst 0, 1) := by decide +kernel
theorem dX3_findByTrying_41 : decode cX3_findByTrying 41 = .ok (.invokestatic 49, 3) := by decide +kernel
theorem dX3_findByTrying_44 : decode cX3_findByTrying 44 = .ok (.ifCond .eq 7, 3) := by decide +kernel
theorem dX3_findByTrying_47 : decode cX3_findByTrying 47 = .ok (.iconst 1, 1) := by decide +kernel
theorem dX3_findByTrying_48 : decode cX3_findByTrying 48 = .ok (.goto 4, 3) := by decide +kernel
theorem dX3_findByTrying_52 : decode cX3_findByTrying 52 = .ok (.putfield 35, 3) := by decide +kernel
theorem dX3_findByTrying_55 : decode cX3_findByTrying 55 = .ok (.return_, 1) := by decide +kernel
theorem dX3_unbindAll_0 : decode cX3_unbindAll 0 = .ok (.iconst 0, 1) := by decide +kernel
theorem dX3_unbindAll_1 : decode cX3_unbindAll 1 = .ok (.istore_n 1, 1) := by decide +kernel
theorem dX3_unbindAll_2 : decode cX3_unbindAll 2 = .ok (.iload_n 1, 1) := by decide +kernel
theorem dX3_unbindAll_3 : decode cX3_unbindAll 3 = .ok (.bipush 10, 2) := by decide +kernel
theorem dX3_unbindAll_5 : decode cX3_unbindAll 5 = .ok (.if_icmp .ge 23, 3) := by decide +kernel
theorem dX3_unbindAll_8 : decode cX3_unbindAll 8 = .ok (.aload_n 0, 1) := by decide +kernel
theorem dX3_unbindAll_9 : decode cX3_unbindAll 9 = .ok (.getfield 9, 3) := by decide +kernel
theorem dX3_unbindAll_12 : decode cX3_unbindAll 12 = .ok (.iload_n 1, 1) := by decide +kernel
theorem dX3_unbindAll_13 : decode cX3_unbindAll 13 = .ok (.iconst (-1), 1) := by decide +kernel
theorem dX3_unbindAll_14 : decode cX3_unbindAll 14 = .ok (.iastore, 1) := by decide +kernel
theorem dX3_unbindAll_15 : decode cX3_unbindAll 15 = .ok (.aload_n 0, 1) := by decide +kernel
theorem dX3_unbindAll_16 : decode cX3_unbindAll 16 = .ok (.getfield 15, 3) := by decide +kernel
theorem dX3_unbindAll_19 : decode cX3_unbindAll 19 = .ok (.iload_n 1, 1) := by decide +kernel
theorem dX3_unbindAll_20 : decode cX3_unbindAll 20 = .ok (.iconst (-1), 1) := by decide +kernel
theorem dX3_unbindAll_21 : decode cX3_unbindAll 21 = .ok (.iastore, 1) := by decide +kernel
theorem dX3_unbindAll_22 : decode cX3_unbindAll 22 = .ok (.iinc 1 1, 3) := by decide +kernel
theorem dX3_unbindAll_25 : decode cX3_unbindAll 25 = .ok (.goto (-23), 3) := by decide +kernel
theorem dX3_unbindAll_28 : decode cX3_unbindAll 28 = .ok (.return_, 1) := by decide +kernel
set_option maxRecDepth 20000 in
theorem ggX3_mapNetsFrom_X3_mapParts : GoodIn wsX3_mapNetsFrom wsX3_mapParts := goodIn_ca (goodIn_r _ [8, 1, 9, 10, 11, 12, 13, 14, 15, 16, 17, 18, 7, 19, 2, 20, 21, 22, 23, 3, 24, 25, 26, 27, 28, 29, 49, 50, 51, 52, 53, 54, 55, 56, 57, 58, 59, 60, 61, 62, 63, 64, 65] (by decide +kernel) (by decide +kernel)) (goodIn_sub (fun _ h => List.mem_cons_of_mem _ (List.mem_append_right _ h)) (by decide +kernel))
set_option maxRecDepth 20000 in
theorem gX3_mapNetsFrom_X3_mapParts : GoodIn wsX3_mapNetsFrom (wsV RX3 53 RX3 yX3_mapParts wsX3_mapParts) := goodIn_app (goodIn_of _ (by decide +kernel)) ggX3_mapNetsFrom_X3_mapParts
theorem dX3_mapNetsFrom_0 : decode cX3_mapNetsFrom 0 = .ok (.iload_n 2, 1) := by decide +kernel
theorem dX3_mapNetsFrom_1 : decode cX3_mapNetsFrom 1 = .ok (.aload_n 0, 1) := by decide +kernel
theorem dX3_mapNetsFrom_2 : decode cX3_mapNetsFrom 2 = .ok (.getfield 21, 3) := by decide +kernel
theorem dX3_mapNetsFrom_5 : decode cX3_mapNetsFrom 5 = .ok (.getfield 39, 3) := by decide +kernel
theorem dX3_mapNetsFrom_8 : decode cX3_mapNetsFrom 8 = .ok (.if_icmp .ge 9, 3) := by decide +kernel
theorem dX3_mapNetsFrom_17 : decode cX3_mapNetsFrom 17 = .ok (.aload_n 0, 1) := by decide +kernel
theorem dX3_mapNetsFrom_18 : decode cX3_mapNetsFrom 18 = .ok (.invokevirtual 53, 3) := by decide +kernel
theorem dX3_mapNetsFrom_21 : decode cX3_mapNetsFrom 21 = .ok (.ireturn, 1) := by decide +kernel
set_option maxRecDepth 20000 in
theorem ggX3_tryNetsFrom_X3_doPortsFit : GoodIn wsX3_tryNetsFrom wsX3_doPortsFit := goodIn_ca (goodIn_r _ [8, 1, 9, 2, 44, 45, 46, 47, 48, 49, 50, 51, 52, 53, 54] (by decide +kernel) (by decide +kernel)) (goodIn_sub (fun _ h => List.mem_cons_of_mem _ (List.mem_append_right _ h)) (by decide +kernel))
set_option maxRecDepth 20000 in
theorem gX3_tryNetsFrom_X3_doPortsFit : GoodIn wsX3_tryNetsFrom (wsV RX3 70 RX3 yX3_doPortsFit wsX3_doPortsFit) := goodIn_app (goodIn_of _ (by decide +kernel)) ggX3_tryNetsFrom_X3_doPortsFit
set_option maxRecDepth 20000 in
theorem ggX3_tryNetsFrom_X3_mapParts : GoodIn wsX3_tryNetsFrom wsX3_mapParts := goodIn_ca (goodIn_r _ [13, 1, 14, 15, 16, 17, 18, 19, 20, 21, 22, 23, 7, 24, 2, 25, 26, 27, 28, 3, 9, 29, 30, 31, 32, 33, 44, 45, 46, 47, 48, 49, 50, 51, 52, 53, 54, 55, 56, 57, 58, 59, 60] (by decide +kernel) (by decide +kernel)) (goodIn_sub (fun _ h => List.mem_cons_of_mem _ (List.mem_append_right _ h)) (by decide +kernel))
set_option maxRecDepth 20000 in
theorem gX3_tryNetsFrom_X3_mapParts : GoodIn wsX3_tryNetsFrom (wsV RX3 53 RX3 yX3_mapParts wsX3_mapParts) := goodIn_app (goodIn_of _ (by decide +kernel)) ggX3_tryNetsFrom_X3_mapParts
theorem dX3_tryNetsFrom_0 : decode cX3_tryNetsFrom 0 = .ok (.iload_n 1, 1) := by decide +kernel
theorem dX3_tryNetsFrom_1 : decode cX3_tryNetsFrom 1 = .ok (.aload_n 0, 1) := by decide +kernel
theorem dX3_tryNetsFrom_2 : decode cX3_tryNetsFrom 2 = .ok (.getfield 21, 3) := by decide +kernel
theorem dX3_tryNetsFrom_5 : decode cX3_tryNetsFrom 5 = .ok (.getfield 39, 3) := by decide +kernel
theorem dX3_tryNetsFrom_8 : decode cX3_tryNetsFrom 8 = .ok (.if_icmp .ge 9, 3) := by decide +kernel
theorem dX3_tryNetsFrom_17 : decode cX3_tryNetsFrom 17 = .ok (.aload_n 0, 1) := by decide +kernel
theorem dX3_tryNetsFrom_18 : decode cX3_tryNetsFrom 18 = .ok (.invokevirtual 70, 3) := by decide +kernel
theorem dX3_tryNetsFrom_21 : decode cX3_tryNetsFrom 21 = .ok (.ifCond .eq 14, 3) := by decide +kernel
theorem dX3_tryNetsFrom_24 : decode cX3_tryNetsFrom 24 = .ok (.aload_n 0, 1) := by decide +kernel
theorem dX3_tryNetsFrom_25 : decode cX3_tryNetsFrom 25 = .ok (.invokevirtual 53, 3) := by decide +kernel
theorem dX3_tryNetsFrom_28 : decode cX3_tryNetsFrom 28 = .ok (.ifCond .eq 7, 3) := by decide +kernel
theorem dX3_tryNetsFrom_31 : decode cX3_tryNetsFrom 31 = .ok (.iconst 1, 1) := by decide +kernel
theorem dX3_tryNetsFrom_32 : decode cX3_tryNetsFrom 32 = .ok (.goto 4, 3) := by decide +kernel
theorem dX3_tryNetsFrom_36 : decode cX3_tryNetsFrom 36 = .ok (.ireturn, 1) := by decide +kernel
theorem dX3_doPortsFit_0 : decode cX3_doPortsFit 0 = .ok (.iconst 0, 1) := by decide +kernel
theorem dX3_doPortsFit_1 : decode cX3_doPortsFit 1 = .ok (.istore_n 1, 1) := by decide +kernel
theorem dX3_doPortsFit_2 : decode cX3_doPortsFit 2 = .ok (.iload_n 1, 1) := by decide +kernel
theorem dX3_doPortsFit_3 : decode cX3_doPortsFit 3 = .ok (.aload_n 0, 1) := by decide +kernel
theorem dX3_doPortsFit_4 : decode cX3_doPortsFit 4 = .ok (.getfield 21, 3) := by decide +kernel
theorem dX3_doPortsFit_7 : decode cX3_doPortsFit 7 = .ok (.getfield 39, 3) := by decide +kernel
theorem dX3_doPortsFit_10 : decode cX3_doPortsFit 10 = .ok (.if_icmp .ge 43, 3) := by decide +kernel
theorem dX3_doPortsFit_53 : decode cX3_doPortsFit 53 = .ok (.iconst 1, 1) := by decide +kernel
theorem dX3_doPortsFit_54 : decode cX3_doPortsFit 54 = .ok (.ireturn, 1) := by decide +kernel
theorem dX3_mapParts_0 : decode cX3_mapParts 0 = .ok (.iconst 0, 1) := by decide +kernel
theorem dX3_mapParts_1 : decode cX3_mapParts 1 = .ok (.istore_n 1, 1) := by decide +kernel
theorem dX3_mapParts_2 : decode cX3_mapParts 2 = .ok (.iconst 0, 1) := by decide +kernel
theorem dX3_mapParts_3 : decode cX3_mapParts 3 = .ok (.istore_n 2, 1) := by decide +kernel
theorem dX3_mapParts_4 : decode cX3_mapParts 4 = .ok (.iload_n 2, 1) := by decide +kernel
theorem dX3_mapParts_5 : decode cX3_mapParts 5 = .ok (.aload_n 0, 1) := by decide +kernel
theorem dX3_mapParts_6 : decode cX3_mapParts 6 = .ok (.getfield 21, 3) := by decide +kernel
theorem dX3_mapParts_9 : decode cX3_mapParts 9 = .ok (.getfield 77, 3) := by decide +kernel
theorem dX3_mapParts_12 : decode cX3_mapParts 12 = .ok (.if_icmp .ge 58, 3) := by decide +kernel
theorem dX3_mapParts_70 : decode cX3_mapParts 70 = .ok (.iconst 1, 1) := by decide +kernel
theorem dX3_mapParts_71 : decode cX3_mapParts 71 = .ok (.ireturn, 1) := by decide +kernel
theorem dX6_requireFewNets_0 : decode cX6_requireFewNets 0 = .ok (.aload_n 0, 1) := by decide +kernel
theorem dX6_requireFewNets_1 : decode cX6_requireFewNets 1 = .ok (.getfield 10, 3) := by decide +kernel
theorem dX6_requireFewNets_4 : decode cX6_requireFewNets 4 = .ok (.getfield 49, 3) := by decide +kernel
theorem dX6_requireFewNets_7 : decode cX6_requireFewNets 7 = .ok (.bipush 6, 2) := by decide +kernel
theorem dX6_requireFewNets_9 : decode cX6_requireFewNets 9 = .ok (.if_icmp .gt 15, 3) := by decide +kernel
theorem dX6_requireFewNets_12 : decode cX6_requireFewNets 12 = .ok (.aload_n 0, 1) := by decide +kernel
theorem dX6_requireFewNets_13 : decode cX6_requireFewNets 13 = .ok (.getfield 16, 3) := by decide +kernel
theorem dX6_requireFewNets_16 : decode cX6_requireFewNets 16 = .ok (.getfield 49, 3) := by decide +kernel
theorem dX6_requireFewNets_19 : decode cX6_requireFewNets 19 = .ok (.bipush 6, 2) := by decide +kernel
theorem dX6_requireFewNets_21 : decode cX6_requireFewNets 21 = .ok (.if_icmp .le 14, 3) := by decide +kernel
theorem dX6_requireFewNets_35 : decode cX6_requireFewNets 35 = .ok (.return_, 1) := by decide +kernel
set_option maxRecDepth 20000 in
theorem ggX6_requireDifference_X6_colour : GoodIn wsX6_requireDifference wsX6_colour := goodIn_ca (goodIn_r _ [8, 9, 10, 11, 12, 3, 13, 14, 15, 16, 17, 18, 19, 20, 21, 22, 23, 24, 25, 26, 27, 28, 29, 30, 31, 32, 33, 34, 35, 36, 37, 38, 39, 40, 41, 42, 43, 44, 45, 46, 47, 48, 49, 50, 51, 52, 53, 54, 55, 56, 57, 58, 59, 60, 61, 62, 63, 64, 65, 7, 66, 67, 68, 69, 70, 71, 72, 73, 74, 75, 76, 77, 78, 79, 80, 81, 82, 83, 84, 85, 86, 87, 88, 89, 90, 91, 92, 93, 94, 95, 96, 97, 98, 99, 100, 101, 102, 103, 104, 105, 106, 107, 108, 109, 110, 111, 112, 113, 114, 115, 116, 117, 118, 119, 120, 121, 122, 123, 124, 125, 126, 127, 128, 129, 130, 131, 132, 133, 134, 135, 136, 137, 138, 139, 140, 141, 142, 143, 144, 145, 146, 147, 148, 149, 150, 151, 154, 155, 156, 157, 158, 159, 160, 161, 162, 163, 164, 165, 166, 167, 168, 169, 170, 171, 172, 173, 174, 152, 153] (by decide +kernel) (by decide +kernel)) (goodIn_sub (fun _ h => List.mem_cons_of_mem _ (List.mem_append_right _ h)) (by decide +kernel))
set_option maxRecDepth 20000 in
theorem gX6_requireDifference_X6_colour : GoodIn wsX6_requireDifference (wsV RX6 196 RX6 yX6_colour wsX6_colour) := goodIn_app (goodIn_of _ (by decide +kernel)) ggX6_requireDifference_X6_colour
theorem dX6_requireDifference_0 : decode cX6_requireDifference 0 = .ok (.aload_n 0, 1) := by decide +kernel
theorem dX6_requireDifference_1 : decode cX6_requireDifference 1 = .ok (.invokevirtual 196, 3) := by decide +kernel
theorem dX6_requireDifference_4 : decode cX6_requireDifference 4 = .ok (.iload_n 1, 1) := by decide +kernel
theorem dX6_requireDifference_5 : decode cX6_requireDifference 5 = .ok (.ifCond .lt 14, 3) := by decide +kernel
theorem dX6_requireDifference_8 : decode cX6_requireDifference 8 = .ok (.iload_n 1, 1) := by decide +kernel
theorem dX6_requireDifference_9 : decode cX6_requireDifference 9 = .ok (.aload_n 0, 1) := by decide +kernel
theorem dX6_requireDifference_10 : decode cX6_requireDifference 10 = .ok (.getfield 31, 3) := by decide +kernel
theorem dX6_requireDifference_13 : decode cX6_requireDifference 13 = .ok (.getfield 255, 3) := by decide +kernel
theorem dX6_requireDifference_16 : decode cX6_requireDifference 16 = .ok (.if_icmp .lt 14, 3) := by decide +kernel
theorem dX6_requireDifference_19 : decode cX6_requireDifference 19 = .ok (.new 188, 3) := by decide +kernel
theorem dX6_requireDifference_22 : decode cX6_requireDifference 22 = .ok (.dup, 1) := by decide +kernel
theorem dX6_requireDifference_23 : decode cX6_requireDifference 23 = .ok (.ldc_w 306, 3) := by decide +kernel
theorem dX6_requireDifference_26 : decode cX6_requireDifference 26 = .ok (.invokespecial 192, 3) := by decide +kernel
theorem dX6_requireDifference_29 : decode cX6_requireDifference 29 = .ok (.athrow, 1) := by decide +kernel
set_option maxRecDepth 20000 in
theorem ggX6_search_X6_colour : GoodIn wsX6_search wsX6_colour := goodIn_ca (goodIn_r _ [9, 10, 11, 12, 3, 4, 13, 14, 15, 16, 17, 18, 19, 20, 21, 22, 23, 24, 25, 26, 27, 28, 29, 30, 31, 32, 33, 34, 35, 36, 37, 38, 39, 40, 41, 42, 43, 44, 45, 46, 47, 48, 49, 50, 51, 52, 53, 54, 55, 56, 57, 58, 59, 60, 61, 62, 63, 64, 65, 8, 66, 67, 68, 69, 70, 71, 72, 73, 74, 75, 76, 77, 78, 79, 80, 81, 82, 83, 84, 85, 86, 87, 88, 89, 90, 91, 92, 93, 94, 95, 96, 97, 98, 99, 100, 101, 102, 103, 104, 105, 106, 107, 108, 109, 110, 111, 112, 113, 114, 115, 116, 117, 118, 119, 120, 121, 122, 123, 124, 125, 126, 127, 128, 129, 130, 131, 132, 133, 134, 135, 136, 137, 138, 139, 140, 141, 142, 191, 192, 193, 194, 195, 196, 197, 198, 199, 207, 208, 209, 210, 211, 212, 213, 214, 215, 216, 217, 200, 201, 202, 203, 204, 218, 219, 220, 221, 222, 205, 206] (by decide +kernel) (by decide +kernel)) (goodIn_sub (fun _ h => List.mem_cons_of_mem _ (List.mem_append_right _ h)) (by decide +kernel))
set_option maxRecDepth 20000 in
theorem gX6_search_X6_colour : GoodIn wsX6_search (wsV RX6 196 RX6 yX6_colour wsX6_colour) := goodIn_app (goodIn_of _ (by decide +kernel)) ggX6_search_X6_colour
set_option maxRecDepth 20000 in
theorem ggX6_search_X3_find : GoodIn wsX6_search wsX3_find := goodIn_ca (goodIn_r _ [147, 148, 149, 150, 151, 146, 152, 153, 154, 155, 156, 157, 158, 159, 160, 161, 162, 163, 164, 165, 24, 25, 26, 27, 28, 166, 167, 168, 169, 170, 171, 172, 173, 174, 175, 176, 177, 178, 179, 180, 181, 58, 182, 89, 65, 8, 66, 183, 184, 185, 186, 187, 188, 189, 190, 223, 224, 225, 226, 227, 228, 207, 208, 209, 210, 211, 212, 213, 214, 215, 216, 217, 218, 219, 220, 221, 222] (by decide +kernel) (by decide +kernel)) (goodIn_sub (fun _ h => List.mem_cons_of_mem _ (List.mem_append_right _ h)) (by decide +kernel))
set_option maxRecDepth 20000 in
theorem gX6_search_X3_find : GoodIn wsX6_search (wsV RX6 324 RX3 yX3_find wsX3_find) := goodIn_app (goodIn_of _ (by decide +kernel)) ggX6_search_X3_find
theorem dX6_search_0 : decode cX6_search 0 = .ok (.aload_n 0, 1) := by decide +kernel
theorem dX6_search_1 : decode cX6_search 1 = .ok (.getfield 311, 3) := by decide +kernel
theorem dX6_search_4 : decode cX6_search 4 = .ok (.ifCond .ne 41, 3) := by decide +kernel
theorem dX6_search_7 : decode cX6_search 7 = .ok (.aload_n 0, 1) := by decide +kernel
theorem dX6_search_8 : decode cX6_search 8 = .ok (.invokevirtual 196, 3) := by decide +kernel
theorem dX6_search_11 : decode cX6_search 11 = .ok (.aload_n 0, 1) := by decide +kernel
theorem dX6_search_12 : decode cX6_search 12 = .ok (.getfield 38, 3) := by decide +kernel
theorem dX6_search_15 : decode cX6_search 15 = .ok (.aload_n 0, 1) := by decide +kernel
theorem dX6_search_16 : decode cX6_search 16 = .ok (.getfield 24, 3) := by decide +kernel
theorem dX6_search_19 : decode cX6_search 19 = .ok (.getfield 202, 3) := by decide +kernel
theorem dX6_search_22 : decode cX6_search 22 = .ok (.aload_n 0, 1) := by decide +kernel
theorem dX6_search_23 : decode cX6_search 23 = .ok (.getfield 31, 3) := by decide +kernel
theorem dX6_search_26 : decode cX6_search 26 = .ok (.getfield 255, 3) := by decide +kernel
theorem dX6_search_29 : decode cX6_search 29 = .ok (.ifCond .ne 7, 3) := by decide +kernel
theorem dX6_search_32 : decode cX6_search 32 = .ok (.iconst 1, 1) := by decide +kernel
theorem dX6_search_33 : decode cX6_search 33 = .ok (.goto 4, 3) := by decide +kernel
theorem dX6_search_37 : decode cX6_search 37 = .ok (.invokevirtual 324, 3) := by decide +kernel
theorem dX6_search_40 : decode cX6_search 40 = .ok (.aload_n 0, 1) := by decide +kernel
theorem dX6_search_41 : decode cX6_search 41 = .ok (.iconst 1, 1) := by decide +kernel
theorem dX6_search_42 : decode cX6_search 42 = .ok (.putfield 311, 3) := by decide +kernel
theorem dX6_search_45 : decode cX6_search 45 = .ok (.return_, 1) := by decide +kernel
set_option maxRecDepth 20000 in
theorem ggX6_searchByTrying_X3_findByTrying : GoodIn wsX6_searchByTrying wsX3_findByTrying := goodIn_ca (goodIn_r _ [7, 8, 9, 10, 11, 12, 13, 6, 14, 15, 16, 17, 18, 19, 20, 21, 22, 23, 24, 25, 26, 27, 28, 29, 30, 31, 32, 33, 34, 35, 36, 37, 38, 39, 40, 41, 42, 43, 44, 45, 46, 47, 48, 49, 50, 51, 52, 53, 54, 55, 56, 57, 58, 59, 60, 61, 62, 63, 73, 74, 75, 76, 77, 78, 79, 80, 81, 82, 83, 84, 85, 86, 87, 88, 89] (by decide +kernel) (by decide +kernel)) (goodIn_sub (fun _ h => List.mem_cons_of_mem _ (List.mem_append_right _ h)) (by decide +kernel))
set_option maxRecDepth 20000 in
theorem gX6_searchByTrying_X3_findByTrying : GoodIn wsX6_searchByTrying (wsV RX6 328 RX3 yX3_findByTrying wsX3_findByTrying) := goodIn_app (goodIn_of _ (by decide +kernel)) ggX6_searchByTrying_X3_findByTrying
theorem dX6_searchByTrying_0 : decode cX6_searchByTrying 0 = .ok (.aload_n 0, 1) := by decide +kernel
theorem dX6_searchByTrying_1 : decode cX6_searchByTrying 1 = .ok (.getfield 314, 3) := by decide +kernel
theorem dX6_searchByTrying_4 : decode cX6_searchByTrying 4 = .ok (.ifCond .ne 15, 3) := by decide +kernel
theorem dX6_searchByTrying_7 : decode cX6_searchByTrying 7 = .ok (.aload_n 0, 1) := by decide +kernel
theorem dX6_searchByTrying_8 : decode cX6_searchByTrying 8 = .ok (.getfield 42, 3) := by decide +kernel
theorem dX6_searchByTrying_11 : decode cX6_searchByTrying 11 = .ok (.invokevirtual 328, 3) := by decide +kernel
theorem dX6_searchByTrying_14 : decode cX6_searchByTrying 14 = .ok (.aload_n 0, 1) := by decide +kernel
theorem dX6_searchByTrying_15 : decode cX6_searchByTrying 15 = .ok (.iconst 1, 1) := by decide +kernel
theorem dX6_searchByTrying_16 : decode cX6_searchByTrying 16 = .ok (.putfield 314, 3) := by decide +kernel
theorem dX6_searchByTrying_19 : decode cX6_searchByTrying 19 = .ok (.return_, 1) := by decide +kernel
set_option maxHeartbeats 4000000 in
set_option maxRecDepth 100000 in
/-- unbindAll -/
theorem kX3_unbindAll (l : Launch) (dC : Nat → ClassId) (dI : Nat → Nat → Nat) (x xI xO xP w d : Nat) (cI : ClassId) (gi go : Nat → Int32) (sz : Nat) : fMv l yX3_unbindAll wsX3_unbindAll ({ frames := 0, cells := 0, slots := 0, locals := 0 } : Room) dC dI [.ref x] [(x, .inr (6, [.ref w, .ref d, .ref xI, .ref xO, .ref xP, .int 0])), (xI, .inl (cI, 10, .inl gi)), (xO, .inl (cI, 10, .inl go))] [(cI, .int)] sz (fun (u : (Nat → Int32) × (Nat → Int32)) => True) (fun u => [(x, .inr (6, [.ref w, .ref d, .ref xI, .ref xO, .ref xP, .int 0])), (xI, .inl (cI, 10, .inl u.1)), (xO, .inl (cI, 10, .inl u.2))]) (fun u => [(cI, .int)]) := by
  refine oP_v (y := yX3_unbindAll) (cc := cX3_unbindAll) (maxL := 2) (by decide) rfl (Nat.le_of_ble_eq_true rfl) ?_
  intro p e s m args below meth c ls A Q hx hb hr hml hown hts hN hZ hA hin hlk hP hK hD hl ret
  have hS : va_S A s.heap s.heap [] := va_S.rf
  have hl : lv_has ls 2 [(0, .ref x)] := hl
  have hP : va_P (dC, dI) vwCl [(x, .inr (6, [.ref w, .ref d, .ref xI, .ref xO, .ref xP, .int 0])), (xI, .inl (cI, 10, .inl gi)), (xO, .inl (cI, 10, .inl go))] _ := hP
  have hD : va_D A [(x, .inr (6, [.ref w, .ref d, .ref xI, .ref xO, .ref xP, .int 0])), (xI, .inl (cI, 10, .inl gi)), (xO, .inl (cI, 10, .inl go))] := hD
  refine lv_iconst (v := 0) hx hb dX3_unbindAll_0 (by decide) ?_
  refine lv_istore_n (lv' := [(1, .int 0), (0, .ref x)]) hx hb dX3_unbindAll_1 rfl hl (Nat.le_of_ble_eq_true rfl) rfl (fun ls hl => ?_)
  have lp2 : ∀ (n i : Nat), i ≤ 10 → 10 - i < n → ∀ (g_xI : Nat → Int32) (g_xO : Nat → Int32) (ls : Array Slot) (H : Heap) (locs : List Loc), lv_has ls 2 [(1, .int (nI i)), (0, .ref x)] → va_P (dC, dI) vwCl [(x, .inr (6, [.ref w, .ref d, .ref xI, .ref xO, .ref xP, .int 0])), (xI, .inl (cI, 10, .inl g_xI)), (xO, .inl (cI, 10, .inl g_xO))] H → va_D A [(x, .inr (6, [.ref w, .ref d, .ref xI, .ref xO, .ref xP, .int 0])), (xI, .inl (cI, 10, .inl g_xI)), (xO, .inl (cI, 10, .inl g_xO))] → va_S A s.heap H locs → W p l e ({ frames := 0, cells := 0, slots := 0, locals := 0 } : Room) s m args below meth c H locs 0 0 Q (F0 m 2 ls []) := by
    intro n
    induction n with
    | zero => intro i _ h9; exact absurd h9 (Nat.not_lt_zero _)
    | succ n ih =>
      intro i hi hn g_xI g_xO ls H locs hl hP hD hS
      rcases Nat.lt_or_ge i 10 with hlt | hge
      · skip
        refine lv_iload_n hx hb dX3_unbindAll_2 rfl (lv_at hl 0 rfl) ?_
        refine lv_bipush (v := 10) hx hb dX3_unbindAll_3 (by decide) ?_
        refine lv_icmp_ge (tgt := 28) hx hb dX3_unbindAll_5 (by decide) (fun h9 => absurd h9 (show ¬ nI 10 ≤ nI i from nI_ge hlt (by decide))) (fun _ => ?_)
        refine lv_aload_n hx hb dX3_unbindAll_8 rfl (lv_at hl 1 rfl) ?_
        refine va_get (D := (dC, dI)) (ci := 6) (v := .ref xI) (C := RX3) (T := TX3) (N := 6) hx hb hts (fun w h => List.mem_cons_of_mem _ (List.mem_append_left _ (List.mem_append_right _ (h)))) hown hK hP 0 rfl rfl 2 (by decide) (hts (.fieldLink RX3 9 "Netcompare$Match" "image" "[I") (List.mem_cons_of_mem _ (List.mem_append_left _ (List.mem_append_left _ (List.mem_of_getElem? (i := 0) rfl))))) (fun _ h9 => h9) rfl dX3_unbindAll_9 ?_
        refine lv_iload_n hx hb dX3_unbindAll_12 rfl (lv_at hl 0 rfl) ?_
        refine lv_iconst (v := (-1)) hx hb dX3_unbindAll_13 (by decide) ?_
        refine va_iast hx hb hK hP hD hS 1 0 rfl rfl (vp_in_nI (Nat.lt_of_lt_of_le hlt (by decide)) (by decide)) dX3_unbindAll_14 (fun H locs hP hD hS => ?_)
        rw [nI_clamp (show i < 2 ^ 31 by omega)] at hP hD
        have hP : va_P (dC, dI) vwCl [(x, .inr (6, [.ref w, .ref d, .ref xI, .ref xO, .ref xP, .int 0])), (xI, .inl (cI, 10, .inl (upd g_xI i (-1)))), (xO, .inl (cI, 10, .inl g_xO))] _ := hP
        have hD : va_D A [(x, .inr (6, [.ref w, .ref d, .ref xI, .ref xO, .ref xP, .int 0])), (xI, .inl (cI, 10, .inl (upd g_xI i (-1)))), (xO, .inl (cI, 10, .inl g_xO))] := hD
        refine lv_aload_n hx hb dX3_unbindAll_15 rfl (lv_at hl 1 rfl) ?_
        refine va_get (D := (dC, dI)) (ci := 6) (v := .ref xO) (C := RX3) (T := TX3) (N := 6) hx hb hts (fun w h => List.mem_cons_of_mem _ (List.mem_append_left _ (List.mem_append_right _ (h)))) hown hK hP 0 rfl rfl 3 (by decide) (hts (.fieldLink RX3 15 "Netcompare$Match" "origin" "[I") (List.mem_cons_of_mem _ (List.mem_append_left _ (List.mem_append_left _ (List.mem_of_getElem? (i := 1) rfl))))) (fun _ h9 => h9) rfl dX3_unbindAll_16 ?_
        refine lv_iload_n hx hb dX3_unbindAll_19 rfl (lv_at hl 0 rfl) ?_
        refine lv_iconst (v := (-1)) hx hb dX3_unbindAll_20 (by decide) ?_
        refine va_iast hx hb hK hP hD hS 2 0 rfl rfl (vp_in_nI (Nat.lt_of_lt_of_le hlt (by decide)) (by decide)) dX3_unbindAll_21 (fun H locs hP hD hS => ?_)
        rw [nI_clamp (show i < 2 ^ 31 by omega)] at hP hD
        have hP : va_P (dC, dI) vwCl [(x, .inr (6, [.ref w, .ref d, .ref xI, .ref xO, .ref xP, .int 0])), (xI, .inl (cI, 10, .inl (upd g_xI i (-1)))), (xO, .inl (cI, 10, .inl (upd g_xO i (-1))))] _ := hP
        have hD : va_D A [(x, .inr (6, [.ref w, .ref d, .ref xI, .ref xO, .ref xP, .int 0])), (xI, .inl (cI, 10, .inl (upd g_xI i (-1)))), (xO, .inl (cI, 10, .inl (upd g_xO i (-1))))] := hD
        refine lv_iinc (v := (nI (i + 1))) (lv' := [(1, .int (nI (i + 1))), (0, .ref x)]) hx hb dX3_unbindAll_22 hl (k := 0) rfl (nI_1 _) (Nat.le_of_ble_eq_true rfl) rfl (fun ls hl => ?_)
        refine lv_goto (tgt := 2) hx hb dX3_unbindAll_25 (by decide) ?_
        exact ih (i + 1) hlt (by omega) (upd g_xI i (-1)) (upd g_xO i (-1)) _ _ _ (lv_sub hl [0, 1] rfl) (hP.sub [0, 1, 2] rfl) (hD.sub [0, 1, 2] (by decide) rfl) hS
      · skip
        refine lv_iload_n hx hb dX3_unbindAll_2 rfl (lv_at hl 0 rfl) ?_
        refine lv_bipush (v := 10) hx hb dX3_unbindAll_3 (by decide) ?_
        refine lv_icmp_ge (tgt := 28) hx hb dX3_unbindAll_5 (by decide) (fun _ => ?_) (fun h9 => absurd (show nI 10 ≤ nI i from nI_le hge (Nat.lt_of_le_of_lt hi (by decide))) h9)
        exact ret (g_xI, g_xO) _ _ _ _ _ _ (trivial) (hP.sub [0, 1, 2] rfl) (hK.sub [0] rfl) (hD.sub [0, 1, 2] (by decide) rfl) hS (Nat.le_of_ble_eq_true rfl) (Nat.le_of_ble_eq_true rfl) dX3_unbindAll_28
  exact lp2 (10 + 1) 0 (Nat.le_of_ble_eq_true rfl) (by decide) gi go _ _ _ (lv_sub hl [0, 1] rfl) (hP.sub [0, 1, 2] rfl) (hD.sub [0, 1, 2] (by decide) rfl) hS

set_option maxHeartbeats 4000000 in
set_option maxRecDepth 100000 in
/-- mapParts: nothing to map -/
theorem kX3_mapParts (l : Launch) (dC : Nat → ClassId) (dI : Nat → Nat → Nat) (x xI xO xP w d : Nat) (wL wP wS dL dP dS : Nat) (sz : Nat) : fMi l yX3_mapParts wsX3_mapParts ({ frames := 0, cells := 0, slots := 0, locals := 0 } : Room) dC dI [.ref x] [(x, .inr (6, [.ref w, .ref d, .ref xI, .ref xO, .ref xP, .int 0])), (w, .inr (3, [.int 0, .int 0, .ref wL, .ref wP, .ref wS])), (d, .inr (3, [.int 0, .int 0, .ref dL, .ref dP, .ref dS]))] [] sz (fun (r : Int32) (u : Unit) => r = 1) (fun u => [(x, .inr (6, [.ref w, .ref d, .ref xI, .ref xO, .ref xP, .int 0])), (w, .inr (3, [.int 0, .int 0, .ref wL, .ref wP, .ref wS])), (d, .inr (3, [.int 0, .int 0, .ref dL, .ref dP, .ref dS]))]) (fun u => []) := by
  refine oP_z (y := yX3_mapParts) (cc := cX3_mapParts) (maxL := 4) (by decide) rfl (Nat.le_of_ble_eq_true rfl) ?_
  intro p e s m args below meth c ls A Q hx hb hr hml hown hts hN hZ hA hin hlk hP hK hD hl ret
  have hS : va_S A s.heap s.heap [] := va_S.rf
  have hl : lv_has ls 4 [(0, .ref x)] := hl
  have hP : va_P (dC, dI) vwCl [(x, .inr (6, [.ref w, .ref d, .ref xI, .ref xO, .ref xP, .int 0])), (w, .inr (3, [.int 0, .int 0, .ref wL, .ref wP, .ref wS])), (d, .inr (3, [.int 0, .int 0, .ref dL, .ref dP, .ref dS]))] _ := hP
  have hD : va_D A [(x, .inr (6, [.ref w, .ref d, .ref xI, .ref xO, .ref xP, .int 0])), (w, .inr (3, [.int 0, .int 0, .ref wL, .ref wP, .ref wS])), (d, .inr (3, [.int 0, .int 0, .ref dL, .ref dP, .ref dS]))] := hD
  refine lv_iconst (v := 0) hx hb dX3_mapParts_0 (by decide) ?_
  refine lv_istore_n (lv' := [(1, .int 0), (0, .ref x)]) hx hb dX3_mapParts_1 rfl hl (Nat.le_of_ble_eq_true rfl) rfl (fun ls hl => ?_)
  refine lv_iconst (v := 0) hx hb dX3_mapParts_2 (by decide) ?_
  refine lv_istore_n (lv' := [(2, .int 0), (1, .int 0), (0, .ref x)]) hx hb dX3_mapParts_3 rfl hl (Nat.le_of_ble_eq_true rfl) rfl (fun ls hl => ?_)
  refine lv_iload_n hx hb dX3_mapParts_4 rfl (lv_at hl 0 rfl) ?_
  refine lv_aload_n hx hb dX3_mapParts_5 rfl (lv_at hl 2 rfl) ?_
  refine va_get (D := (dC, dI)) (ci := 6) (v := .ref w) (C := RX3) (T := TX3) (N := 6) hx hb hts (fun w h => List.mem_cons_of_mem _ (List.mem_append_left _ (List.mem_append_left _ (List.mem_append_left _ (List.mem_append_right _ (h)))))) hown hK hP 0 rfl rfl 0 (by decide) (hts (.fieldLink RX3 21 "Netcompare$Match" "wished" "LNetcompare$Circuit;") (List.mem_cons_of_mem _ (List.mem_append_left _ (List.mem_append_left _ (List.mem_append_left _ (List.mem_append_left _ (List.mem_append_left _ (List.mem_of_getElem? (i := 0) rfl)))))))) (fun _ h9 => h9) rfl dX3_mapParts_6 ?_
  refine va_getN (D := (dC, dI)) (ci := 3) (v := .int 0) (C := RX0) (T := TX0) (N := 5) hx hb hts (fun w h => List.mem_cons_of_mem _ (List.mem_append_left _ (List.mem_append_left _ (List.mem_append_right _ (h))))) hown hK hP 1 rfl rfl 1 (by decide) (va_Nw.use rfl (hN.1 _ (List.mem_of_getElem? (i := 23) rfl))) (fun _ h9 => h9) rfl dX3_mapParts_9 ?_
  refine lv_icmp_ge (tgt := 70) hx hb dX3_mapParts_12 (by decide) (fun _ => ?_) (fun h9 => absurd (by decide) h9)
  refine lv_iconst (v := 1) hx hb dX3_mapParts_70 (by decide) ?_
  exact ret _ () _ _ _ _ _ _ (rfl) (rfl) (hP.sub [0, 1, 2] rfl) (hK.sub [] rfl) (hD.sub [0, 1, 2] (by decide) rfl) hS (Nat.le_of_ble_eq_true rfl) (Nat.le_of_ble_eq_true rfl) dX3_mapParts_71

set_option maxHeartbeats 4000000 in
set_option maxRecDepth 100000 in
/-- doPortsFit: nothing to map -/
theorem kX3_doPortsFit (l : Launch) (dC : Nat → ClassId) (dI : Nat → Nat → Nat) (x xI xO xP w d : Nat) (wL wP wS dL dP dS : Nat) (sz : Nat) : fMi l yX3_doPortsFit wsX3_doPortsFit ({ frames := 0, cells := 0, slots := 0, locals := 0 } : Room) dC dI [.ref x] [(x, .inr (6, [.ref w, .ref d, .ref xI, .ref xO, .ref xP, .int 0])), (w, .inr (3, [.int 0, .int 0, .ref wL, .ref wP, .ref wS])), (d, .inr (3, [.int 0, .int 0, .ref dL, .ref dP, .ref dS]))] [] sz (fun (r : Int32) (u : Unit) => r = 1) (fun u => [(x, .inr (6, [.ref w, .ref d, .ref xI, .ref xO, .ref xP, .int 0])), (w, .inr (3, [.int 0, .int 0, .ref wL, .ref wP, .ref wS])), (d, .inr (3, [.int 0, .int 0, .ref dL, .ref dP, .ref dS]))]) (fun u => []) := by
  refine oP_z (y := yX3_doPortsFit) (cc := cX3_doPortsFit) (maxL := 3) (by decide) rfl (Nat.le_of_ble_eq_true rfl) ?_
  intro p e s m args below meth c ls A Q hx hb hr hml hown hts hN hZ hA hin hlk hP hK hD hl ret
  have hS : va_S A s.heap s.heap [] := va_S.rf
  have hl : lv_has ls 3 [(0, .ref x)] := hl
  have hP : va_P (dC, dI) vwCl [(x, .inr (6, [.ref w, .ref d, .ref xI, .ref xO, .ref xP, .int 0])), (w, .inr (3, [.int 0, .int 0, .ref wL, .ref wP, .ref wS])), (d, .inr (3, [.int 0, .int 0, .ref dL, .ref dP, .ref dS]))] _ := hP
  have hD : va_D A [(x, .inr (6, [.ref w, .ref d, .ref xI, .ref xO, .ref xP, .int 0])), (w, .inr (3, [.int 0, .int 0, .ref wL, .ref wP, .ref wS])), (d, .inr (3, [.int 0, .int 0, .ref dL, .ref dP, .ref dS]))] := hD
  refine lv_iconst (v := 0) hx hb dX3_doPortsFit_0 (by decide) ?_
  refine lv_istore_n (lv' := [(1, .int 0), (0, .ref x)]) hx hb dX3_doPortsFit_1 rfl hl (Nat.le_of_ble_eq_true rfl) rfl (fun ls hl => ?_)
  refine lv_iload_n hx hb dX3_doPortsFit_2 rfl (lv_at hl 0 rfl) ?_
  refine lv_aload_n hx hb dX3_doPortsFit_3 rfl (lv_at hl 1 rfl) ?_
  refine va_get (D := (dC, dI)) (ci := 6) (v := .ref w) (C := RX3) (T := TX3) (N := 6) hx hb hts (fun w h => List.mem_cons_of_mem _ (List.mem_append_left _ (List.mem_append_left _ (List.mem_append_right _ (h))))) hown hK hP 0 rfl rfl 0 (by decide) (hts (.fieldLink RX3 21 "Netcompare$Match" "wished" "LNetcompare$Circuit;") (List.mem_cons_of_mem _ (List.mem_append_left _ (List.mem_append_left _ (List.mem_append_left _ (List.mem_of_getElem? (i := 0) rfl)))))) (fun _ h9 => h9) rfl dX3_doPortsFit_4 ?_
  refine va_getN (D := (dC, dI)) (ci := 3) (v := .int 0) (C := RX0) (T := TX0) (N := 5) hx hb hts (fun w h => List.mem_cons_of_mem _ (List.mem_append_left _ (List.mem_append_right _ (h)))) hown hK hP 1 rfl rfl 0 (by decide) (va_Nw.use rfl (hN.1 _ (List.mem_of_getElem? (i := 19) rfl))) (fun _ h9 => h9) rfl dX3_doPortsFit_7 ?_
  refine lv_icmp_ge (tgt := 53) hx hb dX3_doPortsFit_10 (by decide) (fun _ => ?_) (fun h9 => absurd (by decide) h9)
  refine lv_iconst (v := 1) hx hb dX3_doPortsFit_53 (by decide) ?_
  exact ret _ () _ _ _ _ _ _ (rfl) (rfl) (hP.sub [0, 1, 2] rfl) (hK.sub [] rfl) (hD.sub [0, 1, 2] (by decide) rfl) hS (Nat.le_of_ble_eq_true rfl) (Nat.le_of_ble_eq_true rfl) dX3_doPortsFit_54

set_option maxHeartbeats 4000000 in
set_option maxRecDepth 100000 in
/-- mapNetsFrom: nothing to map -/
theorem kX3_mapNetsFrom (l : Launch) (dC : Nat → ClassId) (dI : Nat → Nat → Nat) (x xI xO xP w d : Nat) (wL wP wS dL dP dS : Nat) (o oR oL oC oD : Nat) (sz : Nat) : fMi l yX3_mapNetsFrom wsX3_mapNetsFrom ({ frames := 1, cells := 0, slots := 0, locals := 23 } : Room) dC dI [.ref x, .ref o, .int 0] [(x, .inr (6, [.ref w, .ref d, .ref xI, .ref xO, .ref xP, .int 0])), (w, .inr (3, [.int 0, .int 0, .ref wL, .ref wP, .ref wS])), (d, .inr (3, [.int 0, .int 0, .ref dL, .ref dP, .ref dS])), (o, .inr (7, [.ref oR, .ref oL, .ref oC, .ref oD, .int 0]))] [] sz (fun (r : Int32) (u : Unit) => r = 1) (fun u => [(x, .inr (6, [.ref w, .ref d, .ref xI, .ref xO, .ref xP, .int 0])), (w, .inr (3, [.int 0, .int 0, .ref wL, .ref wP, .ref wS])), (d, .inr (3, [.int 0, .int 0, .ref dL, .ref dP, .ref dS])), (o, .inr (7, [.ref oR, .ref oL, .ref oC, .ref oD, .int 0]))]) (fun u => []) := by
  refine oP_z (y := yX3_mapNetsFrom) (cc := cX3_mapNetsFrom) (maxL := 4) (by decide) rfl (Nat.le_of_ble_eq_true rfl) ?_
  intro p e s m args below meth c ls A Q hx hb hr hml hown hts hN hZ hA hin hlk hP hK hD hl ret
  have hS : va_S A s.heap s.heap [] := va_S.rf
  have hl : lv_has ls 4 [(0, .ref x), (1, .ref o), (2, .int 0)] := hl
  have hP : va_P (dC, dI) vwCl [(x, .inr (6, [.ref w, .ref d, .ref xI, .ref xO, .ref xP, .int 0])), (w, .inr (3, [.int 0, .int 0, .ref wL, .ref wP, .ref wS])), (d, .inr (3, [.int 0, .int 0, .ref dL, .ref dP, .ref dS])), (o, .inr (7, [.ref oR, .ref oL, .ref oC, .ref oD, .int 0]))] _ := hP
  have hD : va_D A [(x, .inr (6, [.ref w, .ref d, .ref xI, .ref xO, .ref xP, .int 0])), (w, .inr (3, [.int 0, .int 0, .ref wL, .ref wP, .ref wS])), (d, .inr (3, [.int 0, .int 0, .ref dL, .ref dP, .ref dS])), (o, .inr (7, [.ref oR, .ref oL, .ref oC, .ref oD, .int 0]))] := hD
  refine lv_iload_n hx hb dX3_mapNetsFrom_0 rfl (lv_at hl 2 rfl) ?_
  refine lv_aload_n hx hb dX3_mapNetsFrom_1 rfl (lv_at hl 0 rfl) ?_
  refine va_get (D := (dC, dI)) (ci := 6) (v := .ref w) (C := RX3) (T := TX3) (N := 6) hx hb hts (fun w h => List.mem_cons_of_mem _ (List.mem_append_left _ (List.mem_append_left _ (List.mem_append_left _ (List.mem_append_left _ (List.mem_append_right _ (h))))))) hown hK hP 0 rfl rfl 0 (by decide) (hts (.fieldLink RX3 21 "Netcompare$Match" "wished" "LNetcompare$Circuit;") (List.mem_cons_of_mem _ (List.mem_append_left _ (List.mem_append_left _ (List.mem_append_left _ (List.mem_append_left _ (List.mem_append_left _ (List.mem_append_left _ (List.mem_of_getElem? (i := 0) rfl))))))))) (fun _ h9 => h9) rfl dX3_mapNetsFrom_2 ?_
  refine va_getN (D := (dC, dI)) (ci := 3) (v := .int 0) (C := RX0) (T := TX0) (N := 5) hx hb hts (fun w h => List.mem_cons_of_mem _ (List.mem_append_left _ (List.mem_append_left _ (List.mem_append_left _ (List.mem_append_right _ (h)))))) hown hK hP 1 rfl rfl 0 (by decide) (va_Nw.use rfl (hN.1 _ (List.mem_of_getElem? (i := 19) rfl))) (fun _ h9 => h9) rfl dX3_mapNetsFrom_5 ?_
  refine lv_icmp_ge (tgt := 17) hx hb dX3_mapNetsFrom_8 (by decide) (fun _ => ?_) (fun h9 => absurd (by decide) h9)
  refine lv_aload_n hx hb dX3_mapNetsFrom_17 rfl (lv_at hl 0 rfl) ?_
  have hPc := hP.sub (ws' := [(x, .inr (6, [.ref w, .ref d, .ref xI, .ref xO, .ref xP, .int 0])), (w, .inr (3, [.int 0, .int 0, .ref wL, .ref wP, .ref wS])), (d, .inr (3, [.int 0, .int 0, .ref dL, .ref dP, .ref dS]))]) [0, 1, 2] rfl
  have hDc := hD.sub (ws' := [(x, .inr (6, [.ref w, .ref d, .ref xI, .ref xO, .ref xP, .int 0])), (w, .inr (3, [.int 0, .int 0, .ref wL, .ref wP, .ref wS])), (d, .inr (3, [.int 0, .int 0, .ref dL, .ref dP, .ref dS]))]) [0, 1, 2] (by decide) rfl
  have hKc := hK.sub (tys' := []) [] rfl
  have hFc := va_free (wc := [(x, .inr (6, [.ref w, .ref d, .ref xI, .ref xO, .ref xP, .int 0])), (w, .inr (3, [.int 0, .int 0, .ref wL, .ref wP, .ref wS])), (d, .inr (3, [.int 0, .int 0, .ref dL, .ref dP, .ref dS]))]) hD hS hA [0, 1, 2] rfl
  refine va_calli (va_runV (As := []) (rest := []) ⟨hx, hb, hml, hown, hts⟩ (kX3_mapParts l dC dI x xI xO xP w d wL wP wS dL dP dS s.heap.size) (cwV 0 hts gX3_mapNetsFrom_X3_mapParts rfl rfl rfl (by decide +kernel) ⟨Nat.le_of_ble_eq_true rfl, Nat.le_of_ble_eq_true rfl⟩) (fPreV hN hZ hS (fun q h => hFc q h) hPc hKc hDc (ci := 6) (q0 := 0) rfl rfl) rfl rfl hl.1 rfl (lv_room (Nat.le_of_ble_eq_true rfl)) dX3_mapNetsFrom_18 ⟨Nat.le_of_ble_eq_true rfl, Nat.le_of_ble_eq_true rfl⟩) hS (fun q _ h => hFc q h) hFc (fun r u t H1 locs ht hvm hw hB hz1 hk1 hS => ?_)
  obtain ⟨hP1, hK1, hD1⟩ := hB
  rw [ht] at hP1
  have hK1 := va_K.moved hvm.symm hK1
  obtain ⟨hP, hD⟩ := va_join (wr := [(o, .inr (7, [.ref oR, .ref oL, .ref oC, .ref oD, .int 0]))]) (w1 := [(x, .inr (6, [.ref w, .ref d, .ref xI, .ref xO, .ref xP, .int 0])), (w, .inr (3, [.int 0, .int 0, .ref wL, .ref wP, .ref wS])), (d, .inr (3, [.int 0, .int 0, .ref dL, .ref dP, .ref dS]))]) hP hD [0, 1, 2] [3] rfl rfl (by decide) (by decide) hk1 hFc hP1 hD1
  generalize H1 = H at hP hS ⊢
  have hP : va_P (dC, dI) vwCl [(o, .inr (7, [.ref oR, .ref oL, .ref oC, .ref oD, .int 0])), (x, .inr (6, [.ref w, .ref d, .ref xI, .ref xO, .ref xP, .int 0])), (w, .inr (3, [.int 0, .int 0, .ref wL, .ref wP, .ref wS])), (d, .inr (3, [.int 0, .int 0, .ref dL, .ref dP, .ref dS]))] _ := hP
  have hD : va_D A [(o, .inr (7, [.ref oR, .ref oL, .ref oC, .ref oD, .int 0])), (x, .inr (6, [.ref w, .ref d, .ref xI, .ref xO, .ref xP, .int 0])), (w, .inr (3, [.int 0, .int 0, .ref wL, .ref wP, .ref wS])), (d, .inr (3, [.int 0, .int 0, .ref dL, .ref dP, .ref dS]))] := hD
  subst hw
  exact ret _ () _ _ _ _ _ _ (rfl) (rfl) (hP.sub [1, 2, 3, 0] rfl) (hK.sub [] rfl) (hD.sub [1, 2, 3, 0] (by decide) rfl) hS (Nat.le_of_ble_eq_true rfl) (Nat.le_of_ble_eq_true rfl) dX3_mapNetsFrom_21

set_option maxHeartbeats 4000000 in
set_option maxRecDepth 100000 in
/-- tryNetsFrom: nothing to map -/
theorem kX3_tryNetsFrom (l : Launch) (dC : Nat → ClassId) (dI : Nat → Nat → Nat) (x xI xO xP w d : Nat) (wL wP wS dL dP dS : Nat) (sz : Nat) : fMi l yX3_tryNetsFrom wsX3_tryNetsFrom ({ frames := 1, cells := 0, slots := 0, locals := 23 } : Room) dC dI [.ref x, .int 0] [(x, .inr (6, [.ref w, .ref d, .ref xI, .ref xO, .ref xP, .int 0])), (w, .inr (3, [.int 0, .int 0, .ref wL, .ref wP, .ref wS])), (d, .inr (3, [.int 0, .int 0, .ref dL, .ref dP, .ref dS]))] [] sz (fun (r : Int32) (u : Unit) => r = 1) (fun u => [(x, .inr (6, [.ref w, .ref d, .ref xI, .ref xO, .ref xP, .int 0])), (w, .inr (3, [.int 0, .int 0, .ref wL, .ref wP, .ref wS])), (d, .inr (3, [.int 0, .int 0, .ref dL, .ref dP, .ref dS]))]) (fun u => []) := by
  refine oP_z (y := yX3_tryNetsFrom) (cc := cX3_tryNetsFrom) (maxL := 3) (by decide) rfl (Nat.le_of_ble_eq_true rfl) ?_
  intro p e s m args below meth c ls A Q hx hb hr hml hown hts hN hZ hA hin hlk hP hK hD hl ret
  have hS : va_S A s.heap s.heap [] := va_S.rf
  have hl : lv_has ls 3 [(0, .ref x), (1, .int 0)] := hl
  have hP : va_P (dC, dI) vwCl [(x, .inr (6, [.ref w, .ref d, .ref xI, .ref xO, .ref xP, .int 0])), (w, .inr (3, [.int 0, .int 0, .ref wL, .ref wP, .ref wS])), (d, .inr (3, [.int 0, .int 0, .ref dL, .ref dP, .ref dS]))] _ := hP
  have hD : va_D A [(x, .inr (6, [.ref w, .ref d, .ref xI, .ref xO, .ref xP, .int 0])), (w, .inr (3, [.int 0, .int 0, .ref wL, .ref wP, .ref wS])), (d, .inr (3, [.int 0, .int 0, .ref dL, .ref dP, .ref dS]))] := hD
  refine lv_iload_n hx hb dX3_tryNetsFrom_0 rfl (lv_at hl 1 rfl) ?_
  refine lv_aload_n hx hb dX3_tryNetsFrom_1 rfl (lv_at hl 0 rfl) ?_
  refine va_get (D := (dC, dI)) (ci := 6) (v := .ref w) (C := RX3) (T := TX3) (N := 6) hx hb hts (fun w h => List.mem_cons_of_mem _ (List.mem_append_left _ (List.mem_append_left _ (List.mem_append_left _ (List.mem_append_right _ (h)))))) hown hK hP 0 rfl rfl 0 (by decide) (hts (.fieldLink RX3 21 "Netcompare$Match" "wished" "LNetcompare$Circuit;") (List.mem_cons_of_mem _ (List.mem_append_left _ (List.mem_append_left _ (List.mem_append_left _ (List.mem_append_left _ (List.mem_append_left _ (List.mem_of_getElem? (i := 0) rfl)))))))) (fun _ h9 => h9) rfl dX3_tryNetsFrom_2 ?_
  refine va_getN (D := (dC, dI)) (ci := 3) (v := .int 0) (C := RX0) (T := TX0) (N := 5) hx hb hts (fun w h => List.mem_cons_of_mem _ (List.mem_append_left _ (List.mem_append_left _ (List.mem_append_right _ (h))))) hown hK hP 1 rfl rfl 0 (by decide) (va_Nw.use rfl (hN.1 _ (List.mem_of_getElem? (i := 19) rfl))) (fun _ h9 => h9) rfl dX3_tryNetsFrom_5 ?_
  refine lv_icmp_ge (tgt := 17) hx hb dX3_tryNetsFrom_8 (by decide) (fun _ => ?_) (fun h9 => absurd (by decide) h9)
  refine lv_aload_n hx hb dX3_tryNetsFrom_17 rfl (lv_at hl 0 rfl) ?_
  have hPc := hP.sub (ws' := [(x, .inr (6, [.ref w, .ref d, .ref xI, .ref xO, .ref xP, .int 0])), (w, .inr (3, [.int 0, .int 0, .ref wL, .ref wP, .ref wS])), (d, .inr (3, [.int 0, .int 0, .ref dL, .ref dP, .ref dS]))]) [0, 1, 2] rfl
  have hDc := hD.sub (ws' := [(x, .inr (6, [.ref w, .ref d, .ref xI, .ref xO, .ref xP, .int 0])), (w, .inr (3, [.int 0, .int 0, .ref wL, .ref wP, .ref wS])), (d, .inr (3, [.int 0, .int 0, .ref dL, .ref dP, .ref dS]))]) [0, 1, 2] (by decide) rfl
  have hKc := hK.sub (tys' := []) [] rfl
  have hFc := va_free (wc := [(x, .inr (6, [.ref w, .ref d, .ref xI, .ref xO, .ref xP, .int 0])), (w, .inr (3, [.int 0, .int 0, .ref wL, .ref wP, .ref wS])), (d, .inr (3, [.int 0, .int 0, .ref dL, .ref dP, .ref dS]))]) hD hS hA [0, 1, 2] rfl
  refine va_calli (va_runV (As := []) (rest := []) ⟨hx, hb, hml, hown, hts⟩ (kX3_doPortsFit l dC dI x xI xO xP w d wL wP wS dL dP dS s.heap.size) (cwV 0 hts gX3_tryNetsFrom_X3_doPortsFit rfl rfl rfl (by decide +kernel) ⟨Nat.le_of_ble_eq_true rfl, Nat.le_of_ble_eq_true rfl⟩) (fPreV hN hZ hS (fun q h => hFc q h) hPc hKc hDc (ci := 6) (q0 := 0) rfl rfl) rfl rfl hl.1 rfl (lv_room (Nat.le_of_ble_eq_true rfl)) dX3_tryNetsFrom_18 ⟨Nat.le_of_ble_eq_true rfl, Nat.le_of_ble_eq_true rfl⟩) hS (fun q _ h => hFc q h) hFc (fun r u t H1 locs ht hvm hw hB hz1 hk1 hS => ?_)
  obtain ⟨hP1, hK1, hD1⟩ := hB
  rw [ht] at hP1
  have hK1 := va_K.moved hvm.symm hK1
  obtain ⟨hP, hD⟩ := va_join (wr := []) (w1 := [(x, .inr (6, [.ref w, .ref d, .ref xI, .ref xO, .ref xP, .int 0])), (w, .inr (3, [.int 0, .int 0, .ref wL, .ref wP, .ref wS])), (d, .inr (3, [.int 0, .int 0, .ref dL, .ref dP, .ref dS]))]) hP hD [0, 1, 2] [] rfl rfl (by decide) (by decide) hk1 hFc hP1 hD1
  generalize H1 = H at hP hS ⊢
  have hP : va_P (dC, dI) vwCl [(x, .inr (6, [.ref w, .ref d, .ref xI, .ref xO, .ref xP, .int 0])), (w, .inr (3, [.int 0, .int 0, .ref wL, .ref wP, .ref wS])), (d, .inr (3, [.int 0, .int 0, .ref dL, .ref dP, .ref dS]))] _ := hP
  have hD : va_D A [(x, .inr (6, [.ref w, .ref d, .ref xI, .ref xO, .ref xP, .int 0])), (w, .inr (3, [.int 0, .int 0, .ref wL, .ref wP, .ref wS])), (d, .inr (3, [.int 0, .int 0, .ref dL, .ref dP, .ref dS]))] := hD
  subst hw
  refine lv_if_eq (tgt := 35) hx hb dX3_tryNetsFrom_21 (by decide) (fun h9 => absurd h9 (by decide)) (fun _ => ?_)
  refine lv_aload_n hx hb dX3_tryNetsFrom_24 rfl (lv_at hl 0 rfl) ?_
  have hPc := hP.sub (ws' := [(x, .inr (6, [.ref w, .ref d, .ref xI, .ref xO, .ref xP, .int 0])), (w, .inr (3, [.int 0, .int 0, .ref wL, .ref wP, .ref wS])), (d, .inr (3, [.int 0, .int 0, .ref dL, .ref dP, .ref dS]))]) [0, 1, 2] rfl
  have hDc := hD.sub (ws' := [(x, .inr (6, [.ref w, .ref d, .ref xI, .ref xO, .ref xP, .int 0])), (w, .inr (3, [.int 0, .int 0, .ref wL, .ref wP, .ref wS])), (d, .inr (3, [.int 0, .int 0, .ref dL, .ref dP, .ref dS]))]) [0, 1, 2] (by decide) rfl
  have hKc := hK.sub (tys' := []) [] rfl
  have hFc := va_free (wc := [(x, .inr (6, [.ref w, .ref d, .ref xI, .ref xO, .ref xP, .int 0])), (w, .inr (3, [.int 0, .int 0, .ref wL, .ref wP, .ref wS])), (d, .inr (3, [.int 0, .int 0, .ref dL, .ref dP, .ref dS]))]) hD hS hA [0, 1, 2] rfl
  refine va_calli (va_runV (As := []) (rest := []) ⟨hx, hb, hml, hown, hts⟩ (kX3_mapParts l dC dI x xI xO xP w d wL wP wS dL dP dS H.size) (cwV 0 hts gX3_tryNetsFrom_X3_mapParts rfl rfl rfl (by decide +kernel) ⟨Nat.le_of_ble_eq_true rfl, Nat.le_of_ble_eq_true rfl⟩) (fPreV hN hZ hS (fun q h => hFc q h) hPc hKc hDc (ci := 6) (q0 := 0) rfl rfl) rfl rfl hl.1 rfl (lv_room (Nat.le_of_ble_eq_true rfl)) dX3_tryNetsFrom_25 ⟨Nat.le_of_ble_eq_true rfl, Nat.le_of_ble_eq_true rfl⟩) hS (fun q _ h => hFc q h) hFc (fun r u t H1 locs ht hvm hw hB hz1 hk1 hS => ?_)
  obtain ⟨hP1, hK1, hD1⟩ := hB
  rw [ht] at hP1
  have hK1 := va_K.moved hvm.symm hK1
  obtain ⟨hP, hD⟩ := va_join (wr := []) (w1 := [(x, .inr (6, [.ref w, .ref d, .ref xI, .ref xO, .ref xP, .int 0])), (w, .inr (3, [.int 0, .int 0, .ref wL, .ref wP, .ref wS])), (d, .inr (3, [.int 0, .int 0, .ref dL, .ref dP, .ref dS]))]) hP hD [0, 1, 2] [] rfl rfl (by decide) (by decide) hk1 hFc hP1 hD1
  generalize H1 = H at hP hS ⊢
  have hP : va_P (dC, dI) vwCl [(x, .inr (6, [.ref w, .ref d, .ref xI, .ref xO, .ref xP, .int 0])), (w, .inr (3, [.int 0, .int 0, .ref wL, .ref wP, .ref wS])), (d, .inr (3, [.int 0, .int 0, .ref dL, .ref dP, .ref dS]))] _ := hP
  have hD : va_D A [(x, .inr (6, [.ref w, .ref d, .ref xI, .ref xO, .ref xP, .int 0])), (w, .inr (3, [.int 0, .int 0, .ref wL, .ref wP, .ref wS])), (d, .inr (3, [.int 0, .int 0, .ref dL, .ref dP, .ref dS]))] := hD
  subst hw
  refine lv_if_eq (tgt := 35) hx hb dX3_tryNetsFrom_28 (by decide) (fun h9 => absurd h9 (by decide)) (fun _ => ?_)
  refine lv_iconst (v := 1) hx hb dX3_tryNetsFrom_31 (by decide) ?_
  refine lv_goto (tgt := 36) hx hb dX3_tryNetsFrom_32 (by decide) ?_
  exact ret _ () _ _ _ _ _ _ (rfl) (rfl) (hP.sub [0, 1, 2] rfl) (hK.sub [] rfl) (hD.sub [0, 1, 2] (by decide) rfl) hS (Nat.le_of_ble_eq_true rfl) (Nat.le_of_ble_eq_true rfl) dX3_tryNetsFrom_36

set_option maxHeartbeats 4000000 in
set_option maxRecDepth 100000 in
/-- find: nothing is mapped to nothing -/
theorem kX3_find (l : Launch) (dC : Nat → ClassId) (dI : Nat → Nat → Nat) (x xI xO xP w d : Nat) (wL wP wS dL dP dS : Nat) (o oR oL oC oD : Nat) (cI : ClassId) (gi go : Nat → Int32) (sz : Nat) : fMv l yX3_find wsX3_find ({ frames := 2, cells := 0, slots := 0, locals := 46 } : Room) dC dI [.ref x, .ref o, .int 1] [(x, .inr (6, [.ref w, .ref d, .ref xI, .ref xO, .ref xP, .int 0])), (xI, .inl (cI, 10, .inl gi)), (xO, .inl (cI, 10, .inl go)), (w, .inr (3, [.int 0, .int 0, .ref wL, .ref wP, .ref wS])), (d, .inr (3, [.int 0, .int 0, .ref dL, .ref dP, .ref dS])), (o, .inr (7, [.ref oR, .ref oL, .ref oC, .ref oD, .int 0]))] [(cI, .int)] sz (fun (u : (Nat → Int32) × (Nat → Int32)) => True) (fun u => [(x, .inr (6, [.ref w, .ref d, .ref xI, .ref xO, .ref xP, .int 1])), (xI, .inl (cI, 10, .inl u.1)), (xO, .inl (cI, 10, .inl u.2)), (w, .inr (3, [.int 0, .int 0, .ref wL, .ref wP, .ref wS])), (d, .inr (3, [.int 0, .int 0, .ref dL, .ref dP, .ref dS])), (o, .inr (7, [.ref oR, .ref oL, .ref oC, .ref oD, .int 0]))]) (fun u => [(cI, .int)]) := by
  refine oP_v (y := yX3_find) (cc := cX3_find) (maxL := 3) (by decide) rfl (Nat.le_of_ble_eq_true rfl) ?_
  intro p e s m args below meth c ls A Q hx hb hr hml hown hts hN hZ hA hin hlk hP hK hD hl ret
  have hS : va_S A s.heap s.heap [] := va_S.rf
  have hl : lv_has ls 3 [(0, .ref x), (1, .ref o), (2, .int 1)] := hl
  have hP : va_P (dC, dI) vwCl [(x, .inr (6, [.ref w, .ref d, .ref xI, .ref xO, .ref xP, .int 0])), (xI, .inl (cI, 10, .inl gi)), (xO, .inl (cI, 10, .inl go)), (w, .inr (3, [.int 0, .int 0, .ref wL, .ref wP, .ref wS])), (d, .inr (3, [.int 0, .int 0, .ref dL, .ref dP, .ref dS])), (o, .inr (7, [.ref oR, .ref oL, .ref oC, .ref oD, .int 0]))] _ := hP
  have hD : va_D A [(x, .inr (6, [.ref w, .ref d, .ref xI, .ref xO, .ref xP, .int 0])), (xI, .inl (cI, 10, .inl gi)), (xO, .inl (cI, 10, .inl go)), (w, .inr (3, [.int 0, .int 0, .ref wL, .ref wP, .ref wS])), (d, .inr (3, [.int 0, .int 0, .ref dL, .ref dP, .ref dS])), (o, .inr (7, [.ref oR, .ref oL, .ref oC, .ref oD, .int 0]))] := hD
  refine lv_aload_n hx hb dX3_find_0 rfl (lv_at hl 0 rfl) ?_
  have hPc := hP.sub (ws' := [(x, .inr (6, [.ref w, .ref d, .ref xI, .ref xO, .ref xP, .int 0])), (xI, .inl (cI, 10, .inl gi)), (xO, .inl (cI, 10, .inl go))]) [0, 1, 2] rfl
  have hDc := hD.sub (ws' := [(x, .inr (6, [.ref w, .ref d, .ref xI, .ref xO, .ref xP, .int 0])), (xI, .inl (cI, 10, .inl gi)), (xO, .inl (cI, 10, .inl go))]) [0, 1, 2] (by decide) rfl
  have hKc := hK.sub (tys' := [(cI, .int)]) [0] rfl
  have hFc := va_free (wc := [(x, .inr (6, [.ref w, .ref d, .ref xI, .ref xO, .ref xP, .int 0])), (xI, .inl (cI, 10, .inl gi)), (xO, .inl (cI, 10, .inl go))]) hD hS hA [0, 1, 2] rfl
  refine va_callv (va_runV (As := []) (rest := []) ⟨hx, hb, hml, hown, hts⟩ (kX3_unbindAll l dC dI x xI xO xP w d cI gi go s.heap.size) (cwV 0 hts gX3_find_X3_unbindAll rfl rfl rfl (by decide +kernel) ⟨Nat.le_of_ble_eq_true rfl, Nat.le_of_ble_eq_true rfl⟩) (fPreV hN hZ hS (fun q h => hFc q h) hPc hKc hDc (ci := 6) (q0 := 0) rfl rfl) rfl rfl hl.1 rfl (lv_room (Nat.le_of_ble_eq_true rfl)) dX3_find_1 ⟨Nat.le_of_ble_eq_true rfl, Nat.le_of_ble_eq_true rfl⟩) hS (fun q _ h => hFc q h) hFc (fun u t H1 locs ht hvm hw hB hz1 hk1 hS => ?_)
  obtain ⟨hP1, hK1, hD1⟩ := hB
  rw [ht] at hP1
  have hK1 := va_K.moved hvm.symm hK1
  obtain ⟨u1, u2⟩ := u
  obtain ⟨hP, hD⟩ := va_join (wr := [(w, .inr (3, [.int 0, .int 0, .ref wL, .ref wP, .ref wS])), (d, .inr (3, [.int 0, .int 0, .ref dL, .ref dP, .ref dS])), (o, .inr (7, [.ref oR, .ref oL, .ref oC, .ref oD, .int 0]))]) (w1 := [(x, .inr (6, [.ref w, .ref d, .ref xI, .ref xO, .ref xP, .int 0])), (xI, .inl (cI, 10, .inl u1)), (xO, .inl (cI, 10, .inl u2))]) hP hD [0, 1, 2] [3, 4, 5] rfl rfl (by decide) (by decide) hk1 hFc hP1 hD1
  generalize H1 = H at hP hS ⊢
  have hP : va_P (dC, dI) vwCl [(w, .inr (3, [.int 0, .int 0, .ref wL, .ref wP, .ref wS])), (d, .inr (3, [.int 0, .int 0, .ref dL, .ref dP, .ref dS])), (o, .inr (7, [.ref oR, .ref oL, .ref oC, .ref oD, .int 0])), (x, .inr (6, [.ref w, .ref d, .ref xI, .ref xO, .ref xP, .int 0])), (xI, .inl (cI, 10, .inl u1)), (xO, .inl (cI, 10, .inl u2))] _ := hP
  have hD : va_D A [(w, .inr (3, [.int 0, .int 0, .ref wL, .ref wP, .ref wS])), (d, .inr (3, [.int 0, .int 0, .ref dL, .ref dP, .ref dS])), (o, .inr (7, [.ref oR, .ref oL, .ref oC, .ref oD, .int 0])), (x, .inr (6, [.ref w, .ref d, .ref xI, .ref xO, .ref xP, .int 0])), (xI, .inl (cI, 10, .inl u1)), (xO, .inl (cI, 10, .inl u2))] := hD
  refine lv_aload_n hx hb dX3_find_4 rfl (lv_at hl 0 rfl) ?_
  refine lv_iload_n hx hb dX3_find_5 rfl (lv_at hl 2 rfl) ?_
  refine lv_if_eq (tgt := 22) hx hb dX3_find_6 (by decide) (fun h9 => absurd h9 (by decide)) (fun _ => ?_)
  refine lv_aload_n hx hb dX3_find_9 rfl (lv_at hl 0 rfl) ?_
  refine lv_aload_n hx hb dX3_find_10 rfl (lv_at hl 1 rfl) ?_
  refine lv_iconst (v := 0) hx hb dX3_find_11 (by decide) ?_
  have hPc := hP.sub (ws' := [(x, .inr (6, [.ref w, .ref d, .ref xI, .ref xO, .ref xP, .int 0])), (w, .inr (3, [.int 0, .int 0, .ref wL, .ref wP, .ref wS])), (d, .inr (3, [.int 0, .int 0, .ref dL, .ref dP, .ref dS])), (o, .inr (7, [.ref oR, .ref oL, .ref oC, .ref oD, .int 0]))]) [3, 0, 1, 2] rfl
  have hDc := hD.sub (ws' := [(x, .inr (6, [.ref w, .ref d, .ref xI, .ref xO, .ref xP, .int 0])), (w, .inr (3, [.int 0, .int 0, .ref wL, .ref wP, .ref wS])), (d, .inr (3, [.int 0, .int 0, .ref dL, .ref dP, .ref dS])), (o, .inr (7, [.ref oR, .ref oL, .ref oC, .ref oD, .int 0]))]) [3, 0, 1, 2] (by decide) rfl
  have hKc := hK.sub (tys' := []) [] rfl
  have hFc := va_free (wc := [(x, .inr (6, [.ref w, .ref d, .ref xI, .ref xO, .ref xP, .int 0])), (w, .inr (3, [.int 0, .int 0, .ref wL, .ref wP, .ref wS])), (d, .inr (3, [.int 0, .int 0, .ref dL, .ref dP, .ref dS])), (o, .inr (7, [.ref oR, .ref oL, .ref oC, .ref oD, .int 0]))]) hD hS hA [3, 0, 1, 2] rfl
  refine va_calli (va_runS (As := [.ref x, .ref o, .int 0]) (rest := [.ref x]) ⟨hx, hb, hml, hown, hts⟩ (kX3_mapNetsFrom l dC dI x xI xO xP w d wL wP wS dL dP dS o oR oL oC oD H.size) (va_cwS 3 hts gX3_find_X3_mapNetsFrom rfl rfl rfl (by decide +kernel) ⟨Nat.le_of_ble_eq_true rfl, Nat.le_of_ble_eq_true rfl⟩) (fPreS hN hZ hS (fun q h => hFc q h) hPc hKc hDc) rfl rfl hl.1 rfl (lv_room (Nat.le_of_ble_eq_true rfl)) dX3_find_12 ⟨Nat.le_of_ble_eq_true rfl, Nat.le_of_ble_eq_true rfl⟩) hS (fun q _ h => hFc q h) hFc (fun r u t H1 locs ht hvm hw hB hz1 hk1 hS => ?_)
  obtain ⟨hP1, hK1, hD1⟩ := hB
  rw [ht] at hP1
  have hK1 := va_K.moved hvm.symm hK1
  obtain ⟨hP, hD⟩ := va_join (wr := [(xI, .inl (cI, 10, .inl u1)), (xO, .inl (cI, 10, .inl u2))]) (w1 := [(x, .inr (6, [.ref w, .ref d, .ref xI, .ref xO, .ref xP, .int 0])), (w, .inr (3, [.int 0, .int 0, .ref wL, .ref wP, .ref wS])), (d, .inr (3, [.int 0, .int 0, .ref dL, .ref dP, .ref dS])), (o, .inr (7, [.ref oR, .ref oL, .ref oC, .ref oD, .int 0]))]) hP hD [3, 0, 1, 2] [4, 5] rfl rfl (by decide) (by decide) hk1 hFc hP1 hD1
  generalize H1 = H at hP hS ⊢
  have hP : va_P (dC, dI) vwCl [(xI, .inl (cI, 10, .inl u1)), (xO, .inl (cI, 10, .inl u2)), (x, .inr (6, [.ref w, .ref d, .ref xI, .ref xO, .ref xP, .int 0])), (w, .inr (3, [.int 0, .int 0, .ref wL, .ref wP, .ref wS])), (d, .inr (3, [.int 0, .int 0, .ref dL, .ref dP, .ref dS])), (o, .inr (7, [.ref oR, .ref oL, .ref oC, .ref oD, .int 0]))] _ := hP
  have hD : va_D A [(xI, .inl (cI, 10, .inl u1)), (xO, .inl (cI, 10, .inl u2)), (x, .inr (6, [.ref w, .ref d, .ref xI, .ref xO, .ref xP, .int 0])), (w, .inr (3, [.int 0, .int 0, .ref wL, .ref wP, .ref wS])), (d, .inr (3, [.int 0, .int 0, .ref dL, .ref dP, .ref dS])), (o, .inr (7, [.ref oR, .ref oL, .ref oC, .ref oD, .int 0]))] := hD
  subst hw
  refine lv_if_eq (tgt := 22) hx hb dX3_find_15 (by decide) (fun h9 => absurd h9 (by decide)) (fun _ => ?_)
  refine lv_iconst (v := 1) hx hb dX3_find_18 (by decide) ?_
  refine lv_goto (tgt := 23) hx hb dX3_find_19 (by decide) ?_
  refine va_put (D := (dC, dI)) (ci := 6) (v := .int 1) (ty := .boolean) (C := RX3) (T := TX3) (N := 6) hx hb hts (fun w h => List.mem_cons_of_mem _ (List.mem_append_left _ (List.mem_append_left _ (List.mem_append_left _ (List.mem_append_left _ (List.mem_append_right _ (h))))))) tyX3 tyX3_ok nmX3 hown hK hP hD hS 2 rfl rfl 5 (by decide) (hts (.fieldLink RX3 35 "Netcompare$Match" "isFound" "Z") (List.mem_cons_of_mem _ (List.mem_append_left _ (List.mem_append_left _ (List.mem_append_left _ (List.mem_append_left _ (List.mem_append_left _ (List.mem_append_left _ (List.mem_of_getElem? (i := 0) rfl))))))))) (fun _ h9 => h9) rfl (by decide +kernel) rfl rfl (Nat.le_of_ble_eq_true rfl) dX3_find_23 (fun H locs hP hD hS => ?_)
  have hP : va_P (dC, dI) vwCl [(xI, .inl (cI, 10, .inl u1)), (xO, .inl (cI, 10, .inl u2)), (x, .inr (6, [.ref w, .ref d, .ref xI, .ref xO, .ref xP, .int 1])), (w, .inr (3, [.int 0, .int 0, .ref wL, .ref wP, .ref wS])), (d, .inr (3, [.int 0, .int 0, .ref dL, .ref dP, .ref dS])), (o, .inr (7, [.ref oR, .ref oL, .ref oC, .ref oD, .int 0]))] _ := hP
  have hD : va_D A [(xI, .inl (cI, 10, .inl u1)), (xO, .inl (cI, 10, .inl u2)), (x, .inr (6, [.ref w, .ref d, .ref xI, .ref xO, .ref xP, .int 1])), (w, .inr (3, [.int 0, .int 0, .ref wL, .ref wP, .ref wS])), (d, .inr (3, [.int 0, .int 0, .ref dL, .ref dP, .ref dS])), (o, .inr (7, [.ref oR, .ref oL, .ref oC, .ref oD, .int 0]))] := hD
  exact ret (u1, u2) _ _ _ _ _ _ (trivial) (hP.sub [2, 0, 1, 3, 4, 5] rfl) (hK.sub [0] rfl) (hD.sub [2, 0, 1, 3, 4, 5] (by decide) rfl) hS (Nat.le_of_ble_eq_true rfl) (Nat.le_of_ble_eq_true rfl) dX3_find_26

set_option maxHeartbeats 4000000 in
set_option maxRecDepth 100000 in
/-- findByTrying: nothing is mapped to nothing -/
theorem kX3_findByTrying (l : Launch) (dC : Nat → ClassId) (dI : Nat → Nat → Nat) (x xI xO xP w d : Nat) (wL wP wS dL dP dS : Nat) (cI : ClassId) (gi go : Nat → Int32) (sz : Nat) : fMv l yX3_findByTrying wsX3_findByTrying ({ frames := 2, cells := 0, slots := 0, locals := 45 } : Room) dC dI [.ref x] [(x, .inr (6, [.ref w, .ref d, .ref xI, .ref xO, .ref xP, .int 0])), (xI, .inl (cI, 10, .inl gi)), (xO, .inl (cI, 10, .inl go)), (w, .inr (3, [.int 0, .int 0, .ref wL, .ref wP, .ref wS])), (d, .inr (3, [.int 0, .int 0, .ref dL, .ref dP, .ref dS]))] [(cI, .int)] sz (fun (u : (Nat → Int32) × (Nat → Int32)) => True) (fun u => [(x, .inr (6, [.ref w, .ref d, .ref xI, .ref xO, .ref xP, .int 1])), (xI, .inl (cI, 10, .inl u.1)), (xO, .inl (cI, 10, .inl u.2)), (w, .inr (3, [.int 0, .int 0, .ref wL, .ref wP, .ref wS])), (d, .inr (3, [.int 0, .int 0, .ref dL, .ref dP, .ref dS]))]) (fun u => [(cI, .int)]) := by
  refine oP_v (y := yX3_findByTrying) (cc := cX3_findByTrying) (maxL := 1) (by decide) rfl (Nat.le_of_ble_eq_true rfl) ?_
  intro p e s m args below meth c ls A Q hx hb hr hml hown hts hN hZ hA hin hlk hP hK hD hl ret
  have hS : va_S A s.heap s.heap [] := va_S.rf
  have hl : lv_has ls 1 [(0, .ref x)] := hl
  have hP : va_P (dC, dI) vwCl [(x, .inr (6, [.ref w, .ref d, .ref xI, .ref xO, .ref xP, .int 0])), (xI, .inl (cI, 10, .inl gi)), (xO, .inl (cI, 10, .inl go)), (w, .inr (3, [.int 0, .int 0, .ref wL, .ref wP, .ref wS])), (d, .inr (3, [.int 0, .int 0, .ref dL, .ref dP, .ref dS]))] _ := hP
  have hD : va_D A [(x, .inr (6, [.ref w, .ref d, .ref xI, .ref xO, .ref xP, .int 0])), (xI, .inl (cI, 10, .inl gi)), (xO, .inl (cI, 10, .inl go)), (w, .inr (3, [.int 0, .int 0, .ref wL, .ref wP, .ref wS])), (d, .inr (3, [.int 0, .int 0, .ref dL, .ref dP, .ref dS]))] := hD
  refine lv_aload_n hx hb dX3_findByTrying_0 rfl (lv_at hl 0 rfl) ?_
  have hPc := hP.sub (ws' := [(x, .inr (6, [.ref w, .ref d, .ref xI, .ref xO, .ref xP, .int 0])), (xI, .inl (cI, 10, .inl gi)), (xO, .inl (cI, 10, .inl go))]) [0, 1, 2] rfl
  have hDc := hD.sub (ws' := [(x, .inr (6, [.ref w, .ref d, .ref xI, .ref xO, .ref xP, .int 0])), (xI, .inl (cI, 10, .inl gi)), (xO, .inl (cI, 10, .inl go))]) [0, 1, 2] (by decide) rfl
  have hKc := hK.sub (tys' := [(cI, .int)]) [0] rfl
  have hFc := va_free (wc := [(x, .inr (6, [.ref w, .ref d, .ref xI, .ref xO, .ref xP, .int 0])), (xI, .inl (cI, 10, .inl gi)), (xO, .inl (cI, 10, .inl go))]) hD hS hA [0, 1, 2] rfl
  refine va_callv (va_runV (As := []) (rest := []) ⟨hx, hb, hml, hown, hts⟩ (kX3_unbindAll l dC dI x xI xO xP w d cI gi go s.heap.size) (cwV 0 hts gX3_findByTrying_X3_unbindAll rfl rfl rfl (by decide +kernel) ⟨Nat.le_of_ble_eq_true rfl, Nat.le_of_ble_eq_true rfl⟩) (fPreV hN hZ hS (fun q h => hFc q h) hPc hKc hDc (ci := 6) (q0 := 0) rfl rfl) rfl rfl hl.1 rfl (lv_room (Nat.le_of_ble_eq_true rfl)) dX3_findByTrying_1 ⟨Nat.le_of_ble_eq_true rfl, Nat.le_of_ble_eq_true rfl⟩) hS (fun q _ h => hFc q h) hFc (fun u t H1 locs ht hvm hw hB hz1 hk1 hS => ?_)
  obtain ⟨hP1, hK1, hD1⟩ := hB
  rw [ht] at hP1
  have hK1 := va_K.moved hvm.symm hK1
  obtain ⟨u1, u2⟩ := u
  obtain ⟨hP, hD⟩ := va_join (wr := [(w, .inr (3, [.int 0, .int 0, .ref wL, .ref wP, .ref wS])), (d, .inr (3, [.int 0, .int 0, .ref dL, .ref dP, .ref dS]))]) (w1 := [(x, .inr (6, [.ref w, .ref d, .ref xI, .ref xO, .ref xP, .int 0])), (xI, .inl (cI, 10, .inl u1)), (xO, .inl (cI, 10, .inl u2))]) hP hD [0, 1, 2] [3, 4] rfl rfl (by decide) (by decide) hk1 hFc hP1 hD1
  generalize H1 = H at hP hS ⊢
  have hP : va_P (dC, dI) vwCl [(w, .inr (3, [.int 0, .int 0, .ref wL, .ref wP, .ref wS])), (d, .inr (3, [.int 0, .int 0, .ref dL, .ref dP, .ref dS])), (x, .inr (6, [.ref w, .ref d, .ref xI, .ref xO, .ref xP, .int 0])), (xI, .inl (cI, 10, .inl u1)), (xO, .inl (cI, 10, .inl u2))] _ := hP
  have hD : va_D A [(w, .inr (3, [.int 0, .int 0, .ref wL, .ref wP, .ref wS])), (d, .inr (3, [.int 0, .int 0, .ref dL, .ref dP, .ref dS])), (x, .inr (6, [.ref w, .ref d, .ref xI, .ref xO, .ref xP, .int 0])), (xI, .inl (cI, 10, .inl u1)), (xO, .inl (cI, 10, .inl u2))] := hD
  refine lv_aload_n hx hb dX3_findByTrying_4 rfl (lv_at hl 0 rfl) ?_
  refine lv_aload_n hx hb dX3_findByTrying_5 rfl (lv_at hl 0 rfl) ?_
  refine va_get (D := (dC, dI)) (ci := 6) (v := .ref w) (C := RX3) (T := TX3) (N := 6) hx hb hts (fun w h => List.mem_cons_of_mem _ (List.mem_append_left _ (List.mem_append_left _ (List.mem_append_left _ (List.mem_append_right _ (h)))))) hown hK hP 2 rfl rfl 0 (by decide) (hts (.fieldLink RX3 21 "Netcompare$Match" "wished" "LNetcompare$Circuit;") (List.mem_cons_of_mem _ (List.mem_append_left _ (List.mem_append_left _ (List.mem_append_left _ (List.mem_append_left _ (List.mem_append_left _ (List.mem_of_getElem? (i := 0) rfl)))))))) (fun _ h9 => h9) rfl dX3_findByTrying_6 ?_
  refine va_getN (D := (dC, dI)) (ci := 3) (v := .int 0) (C := RX0) (T := TX0) (N := 5) hx hb hts (fun w h => List.mem_cons_of_mem _ (List.mem_append_left _ (List.mem_append_left _ (List.mem_append_right _ (h))))) hown hK hP 0 rfl rfl 0 (by decide) (va_Nw.use rfl (hN.1 _ (List.mem_of_getElem? (i := 19) rfl))) (fun _ h9 => h9) rfl dX3_findByTrying_9 ?_
  refine lv_aload_n hx hb dX3_findByTrying_12 rfl (lv_at hl 0 rfl) ?_
  refine va_get (D := (dC, dI)) (ci := 6) (v := .ref d) (C := RX3) (T := TX3) (N := 6) hx hb hts (fun w h => List.mem_cons_of_mem _ (List.mem_append_left _ (List.mem_append_left _ (List.mem_append_left _ (List.mem_append_right _ (h)))))) hown hK hP 2 rfl rfl 1 (by decide) (hts (.fieldLink RX3 25 "Netcompare$Match" "drawn" "LNetcompare$Circuit;") (List.mem_cons_of_mem _ (List.mem_append_left _ (List.mem_append_left _ (List.mem_append_left _ (List.mem_append_left _ (List.mem_append_left _ (List.mem_of_getElem? (i := 1) rfl)))))))) (fun _ h9 => h9) rfl dX3_findByTrying_13 ?_
  refine va_getN (D := (dC, dI)) (ci := 3) (v := .int 0) (C := RX0) (T := TX0) (N := 5) hx hb hts (fun w h => List.mem_cons_of_mem _ (List.mem_append_left _ (List.mem_append_left _ (List.mem_append_right _ (h))))) hown hK hP 1 rfl rfl 0 (by decide) (va_Nw.use rfl (hN.1 _ (List.mem_of_getElem? (i := 19) rfl))) (fun _ h9 => h9) rfl dX3_findByTrying_16 ?_
  refine lv_icmp_ne (tgt := 51) hx hb dX3_findByTrying_19 (by decide) (fun h9 => absurd (by decide) h9) (fun _ => ?_)
  refine lv_aload_n hx hb dX3_findByTrying_22 rfl (lv_at hl 0 rfl) ?_
  refine va_get (D := (dC, dI)) (ci := 6) (v := .ref w) (C := RX3) (T := TX3) (N := 6) hx hb hts (fun w h => List.mem_cons_of_mem _ (List.mem_append_left _ (List.mem_append_left _ (List.mem_append_left _ (List.mem_append_right _ (h)))))) hown hK hP 2 rfl rfl 0 (by decide) (hts (.fieldLink RX3 21 "Netcompare$Match" "wished" "LNetcompare$Circuit;") (List.mem_cons_of_mem _ (List.mem_append_left _ (List.mem_append_left _ (List.mem_append_left _ (List.mem_append_left _ (List.mem_append_left _ (List.mem_of_getElem? (i := 0) rfl)))))))) (fun _ h9 => h9) rfl dX3_findByTrying_23 ?_
  have hPc := hP.sub (ws' := [(w, .inr (3, [.int 0, .int 0, .ref wL, .ref wP, .ref wS]))]) [0] rfl
  have hDc := hD.sub (ws' := [(w, .inr (3, [.int 0, .int 0, .ref wL, .ref wP, .ref wS]))]) [0] (by decide) rfl
  have hKc := hK.sub (tys' := []) [] rfl
  have hFc := va_free (wc := [(w, .inr (3, [.int 0, .int 0, .ref wL, .ref wP, .ref wS]))]) hD hS hA [0] rfl
  refine va_calli (va_runV (As := []) (rest := [.ref x]) ⟨hx, hb, hml, hown, hts⟩ (kX0_countParts l dC dI w wL wP wS H.size) (cwV 0 hts gX3_findByTrying_X0_countParts rfl rfl rfl (by decide +kernel) ⟨Nat.le_of_ble_eq_true rfl, Nat.le_of_ble_eq_true rfl⟩) (fPreV hN hZ hS (fun q h => hFc q h) hPc hKc hDc (ci := 3) (q0 := 0) rfl rfl) rfl rfl hl.1 rfl (lv_room (Nat.le_of_ble_eq_true rfl)) dX3_findByTrying_26 ⟨Nat.le_of_ble_eq_true rfl, Nat.le_of_ble_eq_true rfl⟩) hS (fun q _ h => hFc q h) hFc (fun r u t H1 locs ht hvm hw hB hz1 hk1 hS => ?_)
  obtain ⟨hP1, hK1, hD1⟩ := hB
  rw [ht] at hP1
  have hK1 := va_K.moved hvm.symm hK1
  obtain ⟨hP, hD⟩ := va_join (wr := [(d, .inr (3, [.int 0, .int 0, .ref dL, .ref dP, .ref dS])), (x, .inr (6, [.ref w, .ref d, .ref xI, .ref xO, .ref xP, .int 0])), (xI, .inl (cI, 10, .inl u1)), (xO, .inl (cI, 10, .inl u2))]) (w1 := [(w, .inr (3, [.int 0, .int 0, .ref wL, .ref wP, .ref wS]))]) hP hD [0] [1, 2, 3, 4] rfl rfl (by decide) (by decide) hk1 hFc hP1 hD1
  generalize H1 = H at hP hS ⊢
  have hP : va_P (dC, dI) vwCl [(d, .inr (3, [.int 0, .int 0, .ref dL, .ref dP, .ref dS])), (x, .inr (6, [.ref w, .ref d, .ref xI, .ref xO, .ref xP, .int 0])), (xI, .inl (cI, 10, .inl u1)), (xO, .inl (cI, 10, .inl u2)), (w, .inr (3, [.int 0, .int 0, .ref wL, .ref wP, .ref wS]))] _ := hP
  have hD : va_D A [(d, .inr (3, [.int 0, .int 0, .ref dL, .ref dP, .ref dS])), (x, .inr (6, [.ref w, .ref d, .ref xI, .ref xO, .ref xP, .int 0])), (xI, .inl (cI, 10, .inl u1)), (xO, .inl (cI, 10, .inl u2)), (w, .inr (3, [.int 0, .int 0, .ref wL, .ref wP, .ref wS]))] := hD
  subst hw
  refine lv_aload_n hx hb dX3_findByTrying_29 rfl (lv_at hl 0 rfl) ?_
  refine va_get (D := (dC, dI)) (ci := 6) (v := .ref d) (C := RX3) (T := TX3) (N := 6) hx hb hts (fun w h => List.mem_cons_of_mem _ (List.mem_append_left _ (List.mem_append_left _ (List.mem_append_left _ (List.mem_append_right _ (h)))))) hown hK hP 1 rfl rfl 1 (by decide) (hts (.fieldLink RX3 25 "Netcompare$Match" "drawn" "LNetcompare$Circuit;") (List.mem_cons_of_mem _ (List.mem_append_left _ (List.mem_append_left _ (List.mem_append_left _ (List.mem_append_left _ (List.mem_append_left _ (List.mem_of_getElem? (i := 1) rfl)))))))) (fun _ h9 => h9) rfl dX3_findByTrying_30 ?_
  have hPc := hP.sub (ws' := [(d, .inr (3, [.int 0, .int 0, .ref dL, .ref dP, .ref dS]))]) [0] rfl
  have hDc := hD.sub (ws' := [(d, .inr (3, [.int 0, .int 0, .ref dL, .ref dP, .ref dS]))]) [0] (by decide) rfl
  have hKc := hK.sub (tys' := []) [] rfl
  have hFc := va_free (wc := [(d, .inr (3, [.int 0, .int 0, .ref dL, .ref dP, .ref dS]))]) hD hS hA [0] rfl
  refine va_calli (va_runV (As := []) (rest := [.int 0, .ref x]) ⟨hx, hb, hml, hown, hts⟩ (kX0_countParts l dC dI d dL dP dS H.size) (cwV 0 hts gX3_findByTrying_X0_countParts rfl rfl rfl (by decide +kernel) ⟨Nat.le_of_ble_eq_true rfl, Nat.le_of_ble_eq_true rfl⟩) (fPreV hN hZ hS (fun q h => hFc q h) hPc hKc hDc (ci := 3) (q0 := 0) rfl rfl) rfl rfl hl.1 rfl (lv_room (Nat.le_of_ble_eq_true rfl)) dX3_findByTrying_33 ⟨Nat.le_of_ble_eq_true rfl, Nat.le_of_ble_eq_true rfl⟩) hS (fun q _ h => hFc q h) hFc (fun r u t H1 locs ht hvm hw hB hz1 hk1 hS => ?_)
  obtain ⟨hP1, hK1, hD1⟩ := hB
  rw [ht] at hP1
  have hK1 := va_K.moved hvm.symm hK1
  obtain ⟨hP, hD⟩ := va_join (wr := [(x, .inr (6, [.ref w, .ref d, .ref xI, .ref xO, .ref xP, .int 0])), (xI, .inl (cI, 10, .inl u1)), (xO, .inl (cI, 10, .inl u2)), (w, .inr (3, [.int 0, .int 0, .ref wL, .ref wP, .ref wS]))]) (w1 := [(d, .inr (3, [.int 0, .int 0, .ref dL, .ref dP, .ref dS]))]) hP hD [0] [1, 2, 3, 4] rfl rfl (by decide) (by decide) hk1 hFc hP1 hD1
  generalize H1 = H at hP hS ⊢
  have hP : va_P (dC, dI) vwCl [(x, .inr (6, [.ref w, .ref d, .ref xI, .ref xO, .ref xP, .int 0])), (xI, .inl (cI, 10, .inl u1)), (xO, .inl (cI, 10, .inl u2)), (w, .inr (3, [.int 0, .int 0, .ref wL, .ref wP, .ref wS])), (d, .inr (3, [.int 0, .int 0, .ref dL, .ref dP, .ref dS]))] _ := hP
  have hD : va_D A [(x, .inr (6, [.ref w, .ref d, .ref xI, .ref xO, .ref xP, .int 0])), (xI, .inl (cI, 10, .inl u1)), (xO, .inl (cI, 10, .inl u2)), (w, .inr (3, [.int 0, .int 0, .ref wL, .ref wP, .ref wS])), (d, .inr (3, [.int 0, .int 0, .ref dL, .ref dP, .ref dS]))] := hD
  subst hw
  refine lv_icmp_ne (tgt := 51) hx hb dX3_findByTrying_36 (by decide) (fun h9 => absurd (by decide) h9) (fun _ => ?_)
  refine lv_aload_n hx hb dX3_findByTrying_39 rfl (lv_at hl 0 rfl) ?_
  refine lv_iconst (v := 0) hx hb dX3_findByTrying_40 (by decide) ?_
  have hPc := hP.sub (ws' := [(x, .inr (6, [.ref w, .ref d, .ref xI, .ref xO, .ref xP, .int 0])), (w, .inr (3, [.int 0, .int 0, .ref wL, .ref wP, .ref wS])), (d, .inr (3, [.int 0, .int 0, .ref dL, .ref dP, .ref dS]))]) [0, 3, 4] rfl
  have hDc := hD.sub (ws' := [(x, .inr (6, [.ref w, .ref d, .ref xI, .ref xO, .ref xP, .int 0])), (w, .inr (3, [.int 0, .int 0, .ref wL, .ref wP, .ref wS])), (d, .inr (3, [.int 0, .int 0, .ref dL, .ref dP, .ref dS]))]) [0, 3, 4] (by decide) rfl
  have hKc := hK.sub (tys' := []) [] rfl
  have hFc := va_free (wc := [(x, .inr (6, [.ref w, .ref d, .ref xI, .ref xO, .ref xP, .int 0])), (w, .inr (3, [.int 0, .int 0, .ref wL, .ref wP, .ref wS])), (d, .inr (3, [.int 0, .int 0, .ref dL, .ref dP, .ref dS]))]) hD hS hA [0, 3, 4] rfl
  refine va_calli (va_runS (As := [.ref x, .int 0]) (rest := [.ref x]) ⟨hx, hb, hml, hown, hts⟩ (kX3_tryNetsFrom l dC dI x xI xO xP w d wL wP wS dL dP dS H.size) (va_cwS 2 hts gX3_findByTrying_X3_tryNetsFrom rfl rfl rfl (by decide +kernel) ⟨Nat.le_of_ble_eq_true rfl, Nat.le_of_ble_eq_true rfl⟩) (fPreS hN hZ hS (fun q h => hFc q h) hPc hKc hDc) rfl rfl hl.1 rfl (lv_room (Nat.le_of_ble_eq_true rfl)) dX3_findByTrying_41 ⟨Nat.le_of_ble_eq_true rfl, Nat.le_of_ble_eq_true rfl⟩) hS (fun q _ h => hFc q h) hFc (fun r u t H1 locs ht hvm hw hB hz1 hk1 hS => ?_)
  obtain ⟨hP1, hK1, hD1⟩ := hB
  rw [ht] at hP1
  have hK1 := va_K.moved hvm.symm hK1
  obtain ⟨hP, hD⟩ := va_join (wr := [(xI, .inl (cI, 10, .inl u1)), (xO, .inl (cI, 10, .inl u2))]) (w1 := [(x, .inr (6, [.ref w, .ref d, .ref xI, .ref xO, .ref xP, .int 0])), (w, .inr (3, [.int 0, .int 0, .ref wL, .ref wP, .ref wS])), (d, .inr (3, [.int 0, .int 0, .ref dL, .ref dP, .ref dS]))]) hP hD [0, 3, 4] [1, 2] rfl rfl (by decide) (by decide) hk1 hFc hP1 hD1
  generalize H1 = H at hP hS ⊢
  have hP : va_P (dC, dI) vwCl [(xI, .inl (cI, 10, .inl u1)), (xO, .inl (cI, 10, .inl u2)), (x, .inr (6, [.ref w, .ref d, .ref xI, .ref xO, .ref xP, .int 0])), (w, .inr (3, [.int 0, .int 0, .ref wL, .ref wP, .ref wS])), (d, .inr (3, [.int 0, .int 0, .ref dL, .ref dP, .ref dS]))] _ := hP
  have hD : va_D A [(xI, .inl (cI, 10, .inl u1)), (xO, .inl (cI, 10, .inl u2)), (x, .inr (6, [.ref w, .ref d, .ref xI, .ref xO, .ref xP, .int 0])), (w, .inr (3, [.int 0, .int 0, .ref wL, .ref wP, .ref wS])), (d, .inr (3, [.int 0, .int 0, .ref dL, .ref dP, .ref dS]))] := hD
  subst hw
  refine lv_if_eq (tgt := 51) hx hb dX3_findByTrying_44 (by decide) (fun h9 => absurd h9 (by decide)) (fun _ => ?_)
  refine lv_iconst (v := 1) hx hb dX3_findByTrying_47 (by decide) ?_
  refine lv_goto (tgt := 52) hx hb dX3_findByTrying_48 (by decide) ?_
  refine va_put (D := (dC, dI)) (ci := 6) (v := .int 1) (ty := .boolean) (C := RX3) (T := TX3) (N := 6) hx hb hts (fun w h => List.mem_cons_of_mem _ (List.mem_append_left _ (List.mem_append_left _ (List.mem_append_left _ (List.mem_append_right _ (h)))))) tyX3 tyX3_ok nmX3 hown hK hP hD hS 2 rfl rfl 5 (by decide) (hts (.fieldLink RX3 35 "Netcompare$Match" "isFound" "Z") (List.mem_cons_of_mem _ (List.mem_append_left _ (List.mem_append_left _ (List.mem_append_left _ (List.mem_append_left _ (List.mem_append_left _ (List.mem_of_getElem? (i := 2) rfl)))))))) (fun _ h9 => h9) rfl (by decide +kernel) rfl rfl (Nat.le_of_ble_eq_true rfl) dX3_findByTrying_52 (fun H locs hP hD hS => ?_)
  have hP : va_P (dC, dI) vwCl [(xI, .inl (cI, 10, .inl u1)), (xO, .inl (cI, 10, .inl u2)), (x, .inr (6, [.ref w, .ref d, .ref xI, .ref xO, .ref xP, .int 1])), (w, .inr (3, [.int 0, .int 0, .ref wL, .ref wP, .ref wS])), (d, .inr (3, [.int 0, .int 0, .ref dL, .ref dP, .ref dS]))] _ := hP
  have hD : va_D A [(xI, .inl (cI, 10, .inl u1)), (xO, .inl (cI, 10, .inl u2)), (x, .inr (6, [.ref w, .ref d, .ref xI, .ref xO, .ref xP, .int 1])), (w, .inr (3, [.int 0, .int 0, .ref wL, .ref wP, .ref wS])), (d, .inr (3, [.int 0, .int 0, .ref dL, .ref dP, .ref dS]))] := hD
  exact ret (u1, u2) _ _ _ _ _ _ (trivial) (hP.sub [2, 0, 1, 3, 4] rfl) (hK.sub [0] rfl) (hD.sub [2, 0, 1, 3, 4] (by decide) rfl) hS (Nat.le_of_ble_eq_true rfl) (Nat.le_of_ble_eq_true rfl) dX3_findByTrying_55

set_option maxHeartbeats 4000000 in
set_option maxRecDepth 100000 in
/-- search: found -/
theorem kX6_search (l : Launch) (dC : Nat → ClassId) (dI : Nat → Nat → Nat) (h0 ma tm un unK co : Nat) (w wL wP wS d dL dP dS : Nat) (on onR onL onC onD op opR opL opC opD : Nat) (cI : ClassId) (gn gp : Nat → Int32) (maI maO maP : Nat) (gi go : Nat → Int32) (sz : Nat) : fMv l yX6_search wsX6_search ({ frames := 4, cells := 0, slots := 0, locals := 85 } : Room) dC dI [.ref h0] [(h0, .inr (9, [.ref w, .ref d, .ref co, .ref un, .ref ma, .ref tm, .int 0, .int 0, .int 0])), (co, .inr (4, [.ref w, .ref d, .ref on, .ref op, .int 0])), (w, .inr (3, [.int 0, .int 0, .ref wL, .ref wP, .ref wS])), (d, .inr (3, [.int 0, .int 0, .ref dL, .ref dP, .ref dS])), (on, .inr (7, [.ref onR, .ref onL, .ref onC, .ref onD, .int 0])), (onL, .inl (cI, 20, .inl (fun _ => 0))), (onC, .inl (cI, 20, .inl gn)), (op, .inr (7, [.ref opR, .ref opL, .ref opC, .ref opD, .int 0])), (opL, .inl (cI, 20, .inl (fun _ => 0))), (opC, .inl (cI, 20, .inl gp)), (un, .inr (5, [.ref unK, .int 0])), (ma, .inr (6, [.ref w, .ref d, .ref maI, .ref maO, .ref maP, .int 0])), (maI, .inl (cI, 10, .inl gi)), (maO, .inl (cI, 10, .inl go))] [(cI, .int)] sz (fun (u : (Nat → Int32) × (Nat → Int32) × (Nat → Int32) × (Nat → Int32)) => True) (fun u => [(h0, .inr (9, [.ref w, .ref d, .ref co, .ref un, .ref ma, .ref tm, .int 1, .int 1, .int 0])), (co, .inr (4, [.ref w, .ref d, .ref on, .ref op, .int 0])), (w, .inr (3, [.int 0, .int 0, .ref wL, .ref wP, .ref wS])), (d, .inr (3, [.int 0, .int 0, .ref dL, .ref dP, .ref dS])), (on, .inr (7, [.ref onR, .ref onL, .ref onC, .ref onD, .int 0])), (onL, .inl (cI, 20, .inl (fun _ => 0))), (onC, .inl (cI, 20, .inl u.1)), (op, .inr (7, [.ref opR, .ref opL, .ref opC, .ref opD, .int 0])), (opL, .inl (cI, 20, .inl (fun _ => 0))), (opC, .inl (cI, 20, .inl u.2.1)), (un, .inr (5, [.ref unK, .int 0])), (ma, .inr (6, [.ref w, .ref d, .ref maI, .ref maO, .ref maP, .int 1])), (maI, .inl (cI, 10, .inl u.2.2.1)), (maO, .inl (cI, 10, .inl u.2.2.2))]) (fun u => [(cI, .int)]) := by
  refine oP_v (y := yX6_search) (cc := cX6_search) (maxL := 1) (by decide) rfl (Nat.le_of_ble_eq_true rfl) ?_
  intro p e s m args below meth c ls A Q hx hb hr hml hown hts hN hZ hA hin hlk hP hK hD hl ret
  have hS : va_S A s.heap s.heap [] := va_S.rf
  have hl : lv_has ls 1 [(0, .ref h0)] := hl
  have hP : va_P (dC, dI) vwCl [(h0, .inr (9, [.ref w, .ref d, .ref co, .ref un, .ref ma, .ref tm, .int 0, .int 0, .int 0])), (co, .inr (4, [.ref w, .ref d, .ref on, .ref op, .int 0])), (w, .inr (3, [.int 0, .int 0, .ref wL, .ref wP, .ref wS])), (d, .inr (3, [.int 0, .int 0, .ref dL, .ref dP, .ref dS])), (on, .inr (7, [.ref onR, .ref onL, .ref onC, .ref onD, .int 0])), (onL, .inl (cI, 20, .inl (fun _ => 0))), (onC, .inl (cI, 20, .inl gn)), (op, .inr (7, [.ref opR, .ref opL, .ref opC, .ref opD, .int 0])), (opL, .inl (cI, 20, .inl (fun _ => 0))), (opC, .inl (cI, 20, .inl gp)), (un, .inr (5, [.ref unK, .int 0])), (ma, .inr (6, [.ref w, .ref d, .ref maI, .ref maO, .ref maP, .int 0])), (maI, .inl (cI, 10, .inl gi)), (maO, .inl (cI, 10, .inl go))] _ := hP
  have hD : va_D A [(h0, .inr (9, [.ref w, .ref d, .ref co, .ref un, .ref ma, .ref tm, .int 0, .int 0, .int 0])), (co, .inr (4, [.ref w, .ref d, .ref on, .ref op, .int 0])), (w, .inr (3, [.int 0, .int 0, .ref wL, .ref wP, .ref wS])), (d, .inr (3, [.int 0, .int 0, .ref dL, .ref dP, .ref dS])), (on, .inr (7, [.ref onR, .ref onL, .ref onC, .ref onD, .int 0])), (onL, .inl (cI, 20, .inl (fun _ => 0))), (onC, .inl (cI, 20, .inl gn)), (op, .inr (7, [.ref opR, .ref opL, .ref opC, .ref opD, .int 0])), (opL, .inl (cI, 20, .inl (fun _ => 0))), (opC, .inl (cI, 20, .inl gp)), (un, .inr (5, [.ref unK, .int 0])), (ma, .inr (6, [.ref w, .ref d, .ref maI, .ref maO, .ref maP, .int 0])), (maI, .inl (cI, 10, .inl gi)), (maO, .inl (cI, 10, .inl go))] := hD
  refine lv_aload_n hx hb dX6_search_0 rfl (lv_at hl 0 rfl) ?_
  refine va_get (D := (dC, dI)) (ci := 9) (v := .int 0) (C := RX6) (T := TX6) (N := 9) hx hb hts (fun w h => List.mem_cons_of_mem _ (List.mem_append_left _ (List.mem_append_left _ (List.mem_append_left _ (List.mem_append_left _ (List.mem_append_left _ (List.mem_append_left _ (List.mem_append_left _ (List.mem_append_right _ (h)))))))))) hown hK hP 0 rfl rfl 7 (by decide) (hts (.fieldLink RX6 311 "Netcompare" "isSearched" "Z") (List.mem_cons_of_mem _ (List.mem_append_left _ (List.mem_append_left _ (List.mem_append_left _ (List.mem_append_left _ (List.mem_append_left _ (List.mem_append_left _ (List.mem_append_left _ (List.mem_append_left _ (List.mem_append_left _ (List.mem_of_getElem? (i := 0) rfl)))))))))))) (fun _ h9 => h9) rfl dX6_search_1 ?_
  refine lv_if_ne (tgt := 45) hx hb dX6_search_4 (by decide) (fun h9 => absurd (by decide) h9) (fun _ => ?_)
  refine lv_aload_n hx hb dX6_search_7 rfl (lv_at hl 0 rfl) ?_
  have hPc := hP.sub (ws' := [(h0, .inr (9, [.ref w, .ref d, .ref co, .ref un, .ref ma, .ref tm, .int 0, .int 0, .int 0])), (co, .inr (4, [.ref w, .ref d, .ref on, .ref op, .int 0])), (w, .inr (3, [.int 0, .int 0, .ref wL, .ref wP, .ref wS])), (d, .inr (3, [.int 0, .int 0, .ref dL, .ref dP, .ref dS])), (on, .inr (7, [.ref onR, .ref onL, .ref onC, .ref onD, .int 0])), (onL, .inl (cI, 20, .inl (fun _ => 0))), (onC, .inl (cI, 20, .inl gn)), (op, .inr (7, [.ref opR, .ref opL, .ref opC, .ref opD, .int 0])), (opL, .inl (cI, 20, .inl (fun _ => 0))), (opC, .inl (cI, 20, .inl gp)), (un, .inr (5, [.ref unK, .int 0]))]) [0, 1, 2, 3, 4, 5, 6, 7, 8, 9, 10] rfl
  have hDc := hD.sub (ws' := [(h0, .inr (9, [.ref w, .ref d, .ref co, .ref un, .ref ma, .ref tm, .int 0, .int 0, .int 0])), (co, .inr (4, [.ref w, .ref d, .ref on, .ref op, .int 0])), (w, .inr (3, [.int 0, .int 0, .ref wL, .ref wP, .ref wS])), (d, .inr (3, [.int 0, .int 0, .ref dL, .ref dP, .ref dS])), (on, .inr (7, [.ref onR, .ref onL, .ref onC, .ref onD, .int 0])), (onL, .inl (cI, 20, .inl (fun _ => 0))), (onC, .inl (cI, 20, .inl gn)), (op, .inr (7, [.ref opR, .ref opL, .ref opC, .ref opD, .int 0])), (opL, .inl (cI, 20, .inl (fun _ => 0))), (opC, .inl (cI, 20, .inl gp)), (un, .inr (5, [.ref unK, .int 0]))]) [0, 1, 2, 3, 4, 5, 6, 7, 8, 9, 10] (by decide) rfl
  have hKc := hK.sub (tys' := [(cI, .int)]) [0] rfl
  have hFc := va_free (wc := [(h0, .inr (9, [.ref w, .ref d, .ref co, .ref un, .ref ma, .ref tm, .int 0, .int 0, .int 0])), (co, .inr (4, [.ref w, .ref d, .ref on, .ref op, .int 0])), (w, .inr (3, [.int 0, .int 0, .ref wL, .ref wP, .ref wS])), (d, .inr (3, [.int 0, .int 0, .ref dL, .ref dP, .ref dS])), (on, .inr (7, [.ref onR, .ref onL, .ref onC, .ref onD, .int 0])), (onL, .inl (cI, 20, .inl (fun _ => 0))), (onC, .inl (cI, 20, .inl gn)), (op, .inr (7, [.ref opR, .ref opL, .ref opC, .ref opD, .int 0])), (opL, .inl (cI, 20, .inl (fun _ => 0))), (opC, .inl (cI, 20, .inl gp)), (un, .inr (5, [.ref unK, .int 0]))]) hD hS hA [0, 1, 2, 3, 4, 5, 6, 7, 8, 9, 10] rfl
  refine va_callv (va_runV (As := []) (rest := []) ⟨hx, hb, hml, hown, hts⟩ (kX6_colour l dC dI h0 ma tm un unK co w wL wP wS d dL dP dS on onR onL onC onD op opR opL opC opD cI gn gp s.heap.size) (cwV 0 hts gX6_search_X6_colour rfl rfl rfl (by decide +kernel) ⟨Nat.le_of_ble_eq_true rfl, Nat.le_of_ble_eq_true rfl⟩) (fPreV hN hZ hS (fun q h => hFc q h) hPc hKc hDc (ci := 9) (q0 := 0) rfl rfl) rfl rfl hl.1 rfl (lv_room (Nat.le_of_ble_eq_true rfl)) dX6_search_8 ⟨Nat.le_of_ble_eq_true rfl, Nat.le_of_ble_eq_true rfl⟩) hS (fun q _ h => hFc q h) hFc (fun u t H1 locs ht hvm hw hB hz1 hk1 hS => ?_)
  obtain ⟨hP1, hK1, hD1⟩ := hB
  rw [ht] at hP1
  have hK1 := va_K.moved hvm.symm hK1
  obtain ⟨u1, u2⟩ := u
  obtain ⟨hP, hD⟩ := va_join (wr := [(ma, .inr (6, [.ref w, .ref d, .ref maI, .ref maO, .ref maP, .int 0])), (maI, .inl (cI, 10, .inl gi)), (maO, .inl (cI, 10, .inl go))]) (w1 := [(h0, .inr (9, [.ref w, .ref d, .ref co, .ref un, .ref ma, .ref tm, .int 1, .int 0, .int 0])), (co, .inr (4, [.ref w, .ref d, .ref on, .ref op, .int 0])), (w, .inr (3, [.int 0, .int 0, .ref wL, .ref wP, .ref wS])), (d, .inr (3, [.int 0, .int 0, .ref dL, .ref dP, .ref dS])), (on, .inr (7, [.ref onR, .ref onL, .ref onC, .ref onD, .int 0])), (onL, .inl (cI, 20, .inl (fun _ => 0))), (onC, .inl (cI, 20, .inl u1)), (op, .inr (7, [.ref opR, .ref opL, .ref opC, .ref opD, .int 0])), (opL, .inl (cI, 20, .inl (fun _ => 0))), (opC, .inl (cI, 20, .inl u2)), (un, .inr (5, [.ref unK, .int 0]))]) hP hD [0, 1, 2, 3, 4, 5, 6, 7, 8, 9, 10] [11, 12, 13] rfl rfl (by decide) (by decide) hk1 hFc hP1 hD1
  generalize H1 = H at hP hS ⊢
  have hP : va_P (dC, dI) vwCl [(ma, .inr (6, [.ref w, .ref d, .ref maI, .ref maO, .ref maP, .int 0])), (maI, .inl (cI, 10, .inl gi)), (maO, .inl (cI, 10, .inl go)), (h0, .inr (9, [.ref w, .ref d, .ref co, .ref un, .ref ma, .ref tm, .int 1, .int 0, .int 0])), (co, .inr (4, [.ref w, .ref d, .ref on, .ref op, .int 0])), (w, .inr (3, [.int 0, .int 0, .ref wL, .ref wP, .ref wS])), (d, .inr (3, [.int 0, .int 0, .ref dL, .ref dP, .ref dS])), (on, .inr (7, [.ref onR, .ref onL, .ref onC, .ref onD, .int 0])), (onL, .inl (cI, 20, .inl (fun _ => 0))), (onC, .inl (cI, 20, .inl u1)), (op, .inr (7, [.ref opR, .ref opL, .ref opC, .ref opD, .int 0])), (opL, .inl (cI, 20, .inl (fun _ => 0))), (opC, .inl (cI, 20, .inl u2)), (un, .inr (5, [.ref unK, .int 0]))] _ := hP
  have hD : va_D A [(ma, .inr (6, [.ref w, .ref d, .ref maI, .ref maO, .ref maP, .int 0])), (maI, .inl (cI, 10, .inl gi)), (maO, .inl (cI, 10, .inl go)), (h0, .inr (9, [.ref w, .ref d, .ref co, .ref un, .ref ma, .ref tm, .int 1, .int 0, .int 0])), (co, .inr (4, [.ref w, .ref d, .ref on, .ref op, .int 0])), (w, .inr (3, [.int 0, .int 0, .ref wL, .ref wP, .ref wS])), (d, .inr (3, [.int 0, .int 0, .ref dL, .ref dP, .ref dS])), (on, .inr (7, [.ref onR, .ref onL, .ref onC, .ref onD, .int 0])), (onL, .inl (cI, 20, .inl (fun _ => 0))), (onC, .inl (cI, 20, .inl u1)), (op, .inr (7, [.ref opR, .ref opL, .ref opC, .ref opD, .int 0])), (opL, .inl (cI, 20, .inl (fun _ => 0))), (opC, .inl (cI, 20, .inl u2)), (un, .inr (5, [.ref unK, .int 0]))] := hD
  refine lv_aload_n hx hb dX6_search_11 rfl (lv_at hl 0 rfl) ?_
  refine va_get (D := (dC, dI)) (ci := 9) (v := .ref ma) (C := RX6) (T := TX6) (N := 9) hx hb hts (fun w h => List.mem_cons_of_mem _ (List.mem_append_left _ (List.mem_append_left _ (List.mem_append_left _ (List.mem_append_left _ (List.mem_append_left _ (List.mem_append_left _ (List.mem_append_left _ (List.mem_append_right _ (h)))))))))) hown hK hP 3 rfl rfl 4 (by decide) (hts (.fieldLink RX6 38 "Netcompare" "match" "LNetcompare$Match;") (List.mem_cons_of_mem _ (List.mem_append_left _ (List.mem_append_left _ (List.mem_append_left _ (List.mem_append_left _ (List.mem_append_left _ (List.mem_append_left _ (List.mem_append_left _ (List.mem_append_left _ (List.mem_append_left _ (List.mem_of_getElem? (i := 1) rfl)))))))))))) (fun _ h9 => h9) rfl dX6_search_12 ?_
  refine lv_aload_n hx hb dX6_search_15 rfl (lv_at hl 0 rfl) ?_
  refine va_get (D := (dC, dI)) (ci := 9) (v := .ref co) (C := RX6) (T := TX6) (N := 9) hx hb hts (fun w h => List.mem_cons_of_mem _ (List.mem_append_left _ (List.mem_append_left _ (List.mem_append_left _ (List.mem_append_left _ (List.mem_append_left _ (List.mem_append_left _ (List.mem_append_left _ (List.mem_append_right _ (h)))))))))) hown hK hP 3 rfl rfl 2 (by decide) (hts (.fieldLink RX6 24 "Netcompare" "colours" "LNetcompare$Colours;") (List.mem_cons_of_mem _ (List.mem_append_left _ (List.mem_append_left _ (List.mem_append_left _ (List.mem_append_left _ (List.mem_append_left _ (List.mem_append_left _ (List.mem_append_left _ (List.mem_append_left _ (List.mem_append_left _ (List.mem_of_getElem? (i := 2) rfl)))))))))))) (fun _ h9 => h9) rfl dX6_search_16 ?_
  refine va_getN (D := (dC, dI)) (ci := 4) (v := .ref on) (C := RX1) (T := TX1) (N := 5) hx hb hts (fun w h => List.mem_cons_of_mem _ (List.mem_append_left _ (List.mem_append_left _ (List.mem_append_left _ (List.mem_append_left _ (List.mem_append_left _ (List.mem_append_left _ (List.mem_append_right _ (h))))))))) hown hK hP 4 rfl rfl 2 (by decide) (va_Nw.use rfl (hN.1 _ (List.mem_of_getElem? (i := 40) rfl))) (fun _ h9 => h9) rfl dX6_search_19 ?_
  refine lv_aload_n hx hb dX6_search_22 rfl (lv_at hl 0 rfl) ?_
  refine va_get (D := (dC, dI)) (ci := 9) (v := .ref un) (C := RX6) (T := TX6) (N := 9) hx hb hts (fun w h => List.mem_cons_of_mem _ (List.mem_append_left _ (List.mem_append_left _ (List.mem_append_left _ (List.mem_append_left _ (List.mem_append_left _ (List.mem_append_left _ (List.mem_append_left _ (List.mem_append_right _ (h)))))))))) hown hK hP 3 rfl rfl 3 (by decide) (hts (.fieldLink RX6 31 "Netcompare" "unequal" "LNetcompare$Differences;") (List.mem_cons_of_mem _ (List.mem_append_left _ (List.mem_append_left _ (List.mem_append_left _ (List.mem_append_left _ (List.mem_append_left _ (List.mem_append_left _ (List.mem_append_left _ (List.mem_append_left _ (List.mem_append_left _ (List.mem_of_getElem? (i := 3) rfl)))))))))))) (fun _ h9 => h9) rfl dX6_search_23 ?_
  refine va_getN (D := (dC, dI)) (ci := 5) (v := .int 0) (C := RX2) (T := TX2) (N := 2) hx hb hts (fun w h => List.mem_cons_of_mem _ (List.mem_append_left _ (List.mem_append_left _ (List.mem_append_left _ (List.mem_append_left _ (List.mem_append_left _ (List.mem_append_right _ (h)))))))) hown hK hP 13 rfl rfl 1 (by decide) (va_Nw.use rfl (hN.1 _ (List.mem_of_getElem? (i := 44) rfl))) (fun _ h9 => h9) rfl dX6_search_26 ?_
  refine lv_if_ne (tgt := 36) hx hb dX6_search_29 (by decide) (fun h9 => absurd (by decide) h9) (fun _ => ?_)
  refine lv_iconst (v := 1) hx hb dX6_search_32 (by decide) ?_
  refine lv_goto (tgt := 37) hx hb dX6_search_33 (by decide) ?_
  have hPc := hP.sub (ws' := [(ma, .inr (6, [.ref w, .ref d, .ref maI, .ref maO, .ref maP, .int 0])), (maI, .inl (cI, 10, .inl gi)), (maO, .inl (cI, 10, .inl go)), (w, .inr (3, [.int 0, .int 0, .ref wL, .ref wP, .ref wS])), (d, .inr (3, [.int 0, .int 0, .ref dL, .ref dP, .ref dS])), (on, .inr (7, [.ref onR, .ref onL, .ref onC, .ref onD, .int 0]))]) [0, 1, 2, 5, 6, 7] rfl
  have hDc := hD.sub (ws' := [(ma, .inr (6, [.ref w, .ref d, .ref maI, .ref maO, .ref maP, .int 0])), (maI, .inl (cI, 10, .inl gi)), (maO, .inl (cI, 10, .inl go)), (w, .inr (3, [.int 0, .int 0, .ref wL, .ref wP, .ref wS])), (d, .inr (3, [.int 0, .int 0, .ref dL, .ref dP, .ref dS])), (on, .inr (7, [.ref onR, .ref onL, .ref onC, .ref onD, .int 0]))]) [0, 1, 2, 5, 6, 7] (by decide) rfl
  have hKc := hK.sub (tys' := [(cI, .int)]) [0] rfl
  have hFc := va_free (wc := [(ma, .inr (6, [.ref w, .ref d, .ref maI, .ref maO, .ref maP, .int 0])), (maI, .inl (cI, 10, .inl gi)), (maO, .inl (cI, 10, .inl go)), (w, .inr (3, [.int 0, .int 0, .ref wL, .ref wP, .ref wS])), (d, .inr (3, [.int 0, .int 0, .ref dL, .ref dP, .ref dS])), (on, .inr (7, [.ref onR, .ref onL, .ref onC, .ref onD, .int 0]))]) hD hS hA [0, 1, 2, 5, 6, 7] rfl
  refine va_callv (va_runV (As := [.ref on, .int 1]) (rest := []) ⟨hx, hb, hml, hown, hts⟩ (kX3_find l dC dI ma maI maO maP w d wL wP wS dL dP dS on onR onL onC onD cI gi go H.size) (cwV 2 hts gX6_search_X3_find rfl rfl rfl (by decide +kernel) ⟨Nat.le_of_ble_eq_true rfl, Nat.le_of_ble_eq_true rfl⟩) (fPreV hN hZ hS (fun q h => hFc q h) hPc hKc hDc (ci := 6) (q0 := 0) rfl rfl) rfl rfl hl.1 rfl (lv_room (Nat.le_of_ble_eq_true rfl)) dX6_search_37 ⟨Nat.le_of_ble_eq_true rfl, Nat.le_of_ble_eq_true rfl⟩) hS (fun q _ h => hFc q h) hFc (fun u t H1 locs ht hvm hw hB hz1 hk1 hS => ?_)
  obtain ⟨hP1, hK1, hD1⟩ := hB
  rw [ht] at hP1
  have hK1 := va_K.moved hvm.symm hK1
  obtain ⟨u3, u4⟩ := u
  obtain ⟨hP, hD⟩ := va_join (wr := [(h0, .inr (9, [.ref w, .ref d, .ref co, .ref un, .ref ma, .ref tm, .int 1, .int 0, .int 0])), (co, .inr (4, [.ref w, .ref d, .ref on, .ref op, .int 0])), (onL, .inl (cI, 20, .inl (fun _ => 0))), (onC, .inl (cI, 20, .inl u1)), (op, .inr (7, [.ref opR, .ref opL, .ref opC, .ref opD, .int 0])), (opL, .inl (cI, 20, .inl (fun _ => 0))), (opC, .inl (cI, 20, .inl u2)), (un, .inr (5, [.ref unK, .int 0]))]) (w1 := [(ma, .inr (6, [.ref w, .ref d, .ref maI, .ref maO, .ref maP, .int 1])), (maI, .inl (cI, 10, .inl u3)), (maO, .inl (cI, 10, .inl u4)), (w, .inr (3, [.int 0, .int 0, .ref wL, .ref wP, .ref wS])), (d, .inr (3, [.int 0, .int 0, .ref dL, .ref dP, .ref dS])), (on, .inr (7, [.ref onR, .ref onL, .ref onC, .ref onD, .int 0]))]) hP hD [0, 1, 2, 5, 6, 7] [3, 4, 8, 9, 10, 11, 12, 13] rfl rfl (by decide) (by decide) hk1 hFc hP1 hD1
  generalize H1 = H at hP hS ⊢
  have hP : va_P (dC, dI) vwCl [(h0, .inr (9, [.ref w, .ref d, .ref co, .ref un, .ref ma, .ref tm, .int 1, .int 0, .int 0])), (co, .inr (4, [.ref w, .ref d, .ref on, .ref op, .int 0])), (onL, .inl (cI, 20, .inl (fun _ => 0))), (onC, .inl (cI, 20, .inl u1)), (op, .inr (7, [.ref opR, .ref opL, .ref opC, .ref opD, .int 0])), (opL, .inl (cI, 20, .inl (fun _ => 0))), (opC, .inl (cI, 20, .inl u2)), (un, .inr (5, [.ref unK, .int 0])), (ma, .inr (6, [.ref w, .ref d, .ref maI, .ref maO, .ref maP, .int 1])), (maI, .inl (cI, 10, .inl u3)), (maO, .inl (cI, 10, .inl u4)), (w, .inr (3, [.int 0, .int 0, .ref wL, .ref wP, .ref wS])), (d, .inr (3, [.int 0, .int 0, .ref dL, .ref dP, .ref dS])), (on, .inr (7, [.ref onR, .ref onL, .ref onC, .ref onD, .int 0]))] _ := hP
  have hD : va_D A [(h0, .inr (9, [.ref w, .ref d, .ref co, .ref un, .ref ma, .ref tm, .int 1, .int 0, .int 0])), (co, .inr (4, [.ref w, .ref d, .ref on, .ref op, .int 0])), (onL, .inl (cI, 20, .inl (fun _ => 0))), (onC, .inl (cI, 20, .inl u1)), (op, .inr (7, [.ref opR, .ref opL, .ref opC, .ref opD, .int 0])), (opL, .inl (cI, 20, .inl (fun _ => 0))), (opC, .inl (cI, 20, .inl u2)), (un, .inr (5, [.ref unK, .int 0])), (ma, .inr (6, [.ref w, .ref d, .ref maI, .ref maO, .ref maP, .int 1])), (maI, .inl (cI, 10, .inl u3)), (maO, .inl (cI, 10, .inl u4)), (w, .inr (3, [.int 0, .int 0, .ref wL, .ref wP, .ref wS])), (d, .inr (3, [.int 0, .int 0, .ref dL, .ref dP, .ref dS])), (on, .inr (7, [.ref onR, .ref onL, .ref onC, .ref onD, .int 0]))] := hD
  refine lv_aload_n hx hb dX6_search_40 rfl (lv_at hl 0 rfl) ?_
  refine lv_iconst (v := 1) hx hb dX6_search_41 (by decide) ?_
  refine va_put (D := (dC, dI)) (ci := 9) (v := .int 1) (ty := .boolean) (C := RX6) (T := TX6) (N := 9) hx hb hts (fun w h => List.mem_cons_of_mem _ (List.mem_append_left _ (List.mem_append_left _ (List.mem_append_left _ (List.mem_append_left _ (List.mem_append_left _ (List.mem_append_left _ (List.mem_append_left _ (List.mem_append_right _ (h)))))))))) tyX6 tyX6_ok nmX6 hown hK hP hD hS 0 rfl rfl 7 (by decide) (hts (.fieldLink RX6 311 "Netcompare" "isSearched" "Z") (List.mem_cons_of_mem _ (List.mem_append_left _ (List.mem_append_left _ (List.mem_append_left _ (List.mem_append_left _ (List.mem_append_left _ (List.mem_append_left _ (List.mem_append_left _ (List.mem_append_left _ (List.mem_append_left _ (List.mem_of_getElem? (i := 0) rfl)))))))))))) (fun _ h9 => h9) rfl (by decide +kernel) rfl rfl (Nat.le_of_ble_eq_true rfl) dX6_search_42 (fun H locs hP hD hS => ?_)
  have hP : va_P (dC, dI) vwCl [(h0, .inr (9, [.ref w, .ref d, .ref co, .ref un, .ref ma, .ref tm, .int 1, .int 1, .int 0])), (co, .inr (4, [.ref w, .ref d, .ref on, .ref op, .int 0])), (onL, .inl (cI, 20, .inl (fun _ => 0))), (onC, .inl (cI, 20, .inl u1)), (op, .inr (7, [.ref opR, .ref opL, .ref opC, .ref opD, .int 0])), (opL, .inl (cI, 20, .inl (fun _ => 0))), (opC, .inl (cI, 20, .inl u2)), (un, .inr (5, [.ref unK, .int 0])), (ma, .inr (6, [.ref w, .ref d, .ref maI, .ref maO, .ref maP, .int 1])), (maI, .inl (cI, 10, .inl u3)), (maO, .inl (cI, 10, .inl u4)), (w, .inr (3, [.int 0, .int 0, .ref wL, .ref wP, .ref wS])), (d, .inr (3, [.int 0, .int 0, .ref dL, .ref dP, .ref dS])), (on, .inr (7, [.ref onR, .ref onL, .ref onC, .ref onD, .int 0]))] _ := hP
  have hD : va_D A [(h0, .inr (9, [.ref w, .ref d, .ref co, .ref un, .ref ma, .ref tm, .int 1, .int 1, .int 0])), (co, .inr (4, [.ref w, .ref d, .ref on, .ref op, .int 0])), (onL, .inl (cI, 20, .inl (fun _ => 0))), (onC, .inl (cI, 20, .inl u1)), (op, .inr (7, [.ref opR, .ref opL, .ref opC, .ref opD, .int 0])), (opL, .inl (cI, 20, .inl (fun _ => 0))), (opC, .inl (cI, 20, .inl u2)), (un, .inr (5, [.ref unK, .int 0])), (ma, .inr (6, [.ref w, .ref d, .ref maI, .ref maO, .ref maP, .int 1])), (maI, .inl (cI, 10, .inl u3)), (maO, .inl (cI, 10, .inl u4)), (w, .inr (3, [.int 0, .int 0, .ref wL, .ref wP, .ref wS])), (d, .inr (3, [.int 0, .int 0, .ref dL, .ref dP, .ref dS])), (on, .inr (7, [.ref onR, .ref onL, .ref onC, .ref onD, .int 0]))] := hD
  exact ret (u1, u2, u3, u4) _ _ _ _ _ _ (trivial) (hP.sub [0, 1, 11, 12, 13, 2, 3, 4, 5, 6, 7, 8, 9, 10] rfl) (hK.sub [0] rfl) (hD.sub [0, 1, 11, 12, 13, 2, 3, 4, 5, 6, 7, 8, 9, 10] (by decide) rfl) hS (Nat.le_of_ble_eq_true rfl) (Nat.le_of_ble_eq_true rfl) dX6_search_45

set_option maxHeartbeats 4000000 in
set_option maxRecDepth 100000 in
/-- searchByTrying: found -/
theorem kX6_searchByTrying (l : Launch) (dC : Nat → ClassId) (dI : Nat → Nat → Nat) (h0 w d co un ma tm : Nat) (wL wP wS dL dP dS : Nat) (tmI tmO tmP : Nat) (cI : ClassId) (gi go : Nat → Int32) (sz : Nat) : fMv l yX6_searchByTrying wsX6_searchByTrying ({ frames := 3, cells := 0, slots := 0, locals := 65 } : Room) dC dI [.ref h0] [(h0, .inr (9, [.ref w, .ref d, .ref co, .ref un, .ref ma, .ref tm, .int 0, .int 0, .int 0])), (w, .inr (3, [.int 0, .int 0, .ref wL, .ref wP, .ref wS])), (d, .inr (3, [.int 0, .int 0, .ref dL, .ref dP, .ref dS])), (tm, .inr (6, [.ref w, .ref d, .ref tmI, .ref tmO, .ref tmP, .int 0])), (tmI, .inl (cI, 10, .inl gi)), (tmO, .inl (cI, 10, .inl go))] [(cI, .int)] sz (fun (u : (Nat → Int32) × (Nat → Int32)) => True) (fun u => [(h0, .inr (9, [.ref w, .ref d, .ref co, .ref un, .ref ma, .ref tm, .int 0, .int 0, .int 1])), (w, .inr (3, [.int 0, .int 0, .ref wL, .ref wP, .ref wS])), (d, .inr (3, [.int 0, .int 0, .ref dL, .ref dP, .ref dS])), (tm, .inr (6, [.ref w, .ref d, .ref tmI, .ref tmO, .ref tmP, .int 1])), (tmI, .inl (cI, 10, .inl u.1)), (tmO, .inl (cI, 10, .inl u.2))]) (fun u => [(cI, .int)]) := by
  refine oP_v (y := yX6_searchByTrying) (cc := cX6_searchByTrying) (maxL := 1) (by decide) rfl (Nat.le_of_ble_eq_true rfl) ?_
  intro p e s m args below meth c ls A Q hx hb hr hml hown hts hN hZ hA hin hlk hP hK hD hl ret
  have hS : va_S A s.heap s.heap [] := va_S.rf
  have hl : lv_has ls 1 [(0, .ref h0)] := hl
  have hP : va_P (dC, dI) vwCl [(h0, .inr (9, [.ref w, .ref d, .ref co, .ref un, .ref ma, .ref tm, .int 0, .int 0, .int 0])), (w, .inr (3, [.int 0, .int 0, .ref wL, .ref wP, .ref wS])), (d, .inr (3, [.int 0, .int 0, .ref dL, .ref dP, .ref dS])), (tm, .inr (6, [.ref w, .ref d, .ref tmI, .ref tmO, .ref tmP, .int 0])), (tmI, .inl (cI, 10, .inl gi)), (tmO, .inl (cI, 10, .inl go))] _ := hP
  have hD : va_D A [(h0, .inr (9, [.ref w, .ref d, .ref co, .ref un, .ref ma, .ref tm, .int 0, .int 0, .int 0])), (w, .inr (3, [.int 0, .int 0, .ref wL, .ref wP, .ref wS])), (d, .inr (3, [.int 0, .int 0, .ref dL, .ref dP, .ref dS])), (tm, .inr (6, [.ref w, .ref d, .ref tmI, .ref tmO, .ref tmP, .int 0])), (tmI, .inl (cI, 10, .inl gi)), (tmO, .inl (cI, 10, .inl go))] := hD
  refine lv_aload_n hx hb dX6_searchByTrying_0 rfl (lv_at hl 0 rfl) ?_
  refine va_get (D := (dC, dI)) (ci := 9) (v := .int 0) (C := RX6) (T := TX6) (N := 9) hx hb hts (fun w h => List.mem_cons_of_mem _ (List.mem_append_left _ (List.mem_append_left _ (List.mem_append_left _ (List.mem_append_left _ (List.mem_append_right _ (h))))))) hown hK hP 0 rfl rfl 8 (by decide) (hts (.fieldLink RX6 314 "Netcompare" "isTried" "Z") (List.mem_cons_of_mem _ (List.mem_append_left _ (List.mem_append_left _ (List.mem_append_left _ (List.mem_append_left _ (List.mem_append_left _ (List.mem_append_left _ (List.mem_of_getElem? (i := 0) rfl))))))))) (fun _ h9 => h9) rfl dX6_searchByTrying_1 ?_
  refine lv_if_ne (tgt := 19) hx hb dX6_searchByTrying_4 (by decide) (fun h9 => absurd (by decide) h9) (fun _ => ?_)
  refine lv_aload_n hx hb dX6_searchByTrying_7 rfl (lv_at hl 0 rfl) ?_
  refine va_get (D := (dC, dI)) (ci := 9) (v := .ref tm) (C := RX6) (T := TX6) (N := 9) hx hb hts (fun w h => List.mem_cons_of_mem _ (List.mem_append_left _ (List.mem_append_left _ (List.mem_append_left _ (List.mem_append_left _ (List.mem_append_right _ (h))))))) hown hK hP 0 rfl rfl 5 (by decide) (hts (.fieldLink RX6 42 "Netcompare" "triedMatch" "LNetcompare$Match;") (List.mem_cons_of_mem _ (List.mem_append_left _ (List.mem_append_left _ (List.mem_append_left _ (List.mem_append_left _ (List.mem_append_left _ (List.mem_append_left _ (List.mem_of_getElem? (i := 1) rfl))))))))) (fun _ h9 => h9) rfl dX6_searchByTrying_8 ?_
  have hPc := hP.sub (ws' := [(tm, .inr (6, [.ref w, .ref d, .ref tmI, .ref tmO, .ref tmP, .int 0])), (tmI, .inl (cI, 10, .inl gi)), (tmO, .inl (cI, 10, .inl go)), (w, .inr (3, [.int 0, .int 0, .ref wL, .ref wP, .ref wS])), (d, .inr (3, [.int 0, .int 0, .ref dL, .ref dP, .ref dS]))]) [3, 4, 5, 1, 2] rfl
  have hDc := hD.sub (ws' := [(tm, .inr (6, [.ref w, .ref d, .ref tmI, .ref tmO, .ref tmP, .int 0])), (tmI, .inl (cI, 10, .inl gi)), (tmO, .inl (cI, 10, .inl go)), (w, .inr (3, [.int 0, .int 0, .ref wL, .ref wP, .ref wS])), (d, .inr (3, [.int 0, .int 0, .ref dL, .ref dP, .ref dS]))]) [3, 4, 5, 1, 2] (by decide) rfl
  have hKc := hK.sub (tys' := [(cI, .int)]) [0] rfl
  have hFc := va_free (wc := [(tm, .inr (6, [.ref w, .ref d, .ref tmI, .ref tmO, .ref tmP, .int 0])), (tmI, .inl (cI, 10, .inl gi)), (tmO, .inl (cI, 10, .inl go)), (w, .inr (3, [.int 0, .int 0, .ref wL, .ref wP, .ref wS])), (d, .inr (3, [.int 0, .int 0, .ref dL, .ref dP, .ref dS]))]) hD hS hA [3, 4, 5, 1, 2] rfl
  refine va_callv (va_runV (As := []) (rest := []) ⟨hx, hb, hml, hown, hts⟩ (kX3_findByTrying l dC dI tm tmI tmO tmP w d wL wP wS dL dP dS cI gi go s.heap.size) (cwV 0 hts gX6_searchByTrying_X3_findByTrying rfl rfl rfl (by decide +kernel) ⟨Nat.le_of_ble_eq_true rfl, Nat.le_of_ble_eq_true rfl⟩) (fPreV hN hZ hS (fun q h => hFc q h) hPc hKc hDc (ci := 6) (q0 := 0) rfl rfl) rfl rfl hl.1 rfl (lv_room (Nat.le_of_ble_eq_true rfl)) dX6_searchByTrying_11 ⟨Nat.le_of_ble_eq_true rfl, Nat.le_of_ble_eq_true rfl⟩) hS (fun q _ h => hFc q h) hFc (fun u t H1 locs ht hvm hw hB hz1 hk1 hS => ?_)
  obtain ⟨hP1, hK1, hD1⟩ := hB
  rw [ht] at hP1
  have hK1 := va_K.moved hvm.symm hK1
  obtain ⟨u1, u2⟩ := u
  obtain ⟨hP, hD⟩ := va_join (wr := [(h0, .inr (9, [.ref w, .ref d, .ref co, .ref un, .ref ma, .ref tm, .int 0, .int 0, .int 0]))]) (w1 := [(tm, .inr (6, [.ref w, .ref d, .ref tmI, .ref tmO, .ref tmP, .int 1])), (tmI, .inl (cI, 10, .inl u1)), (tmO, .inl (cI, 10, .inl u2)), (w, .inr (3, [.int 0, .int 0, .ref wL, .ref wP, .ref wS])), (d, .inr (3, [.int 0, .int 0, .ref dL, .ref dP, .ref dS]))]) hP hD [3, 4, 5, 1, 2] [0] rfl rfl (by decide) (by decide) hk1 hFc hP1 hD1
  generalize H1 = H at hP hS ⊢
  have hP : va_P (dC, dI) vwCl [(h0, .inr (9, [.ref w, .ref d, .ref co, .ref un, .ref ma, .ref tm, .int 0, .int 0, .int 0])), (tm, .inr (6, [.ref w, .ref d, .ref tmI, .ref tmO, .ref tmP, .int 1])), (tmI, .inl (cI, 10, .inl u1)), (tmO, .inl (cI, 10, .inl u2)), (w, .inr (3, [.int 0, .int 0, .ref wL, .ref wP, .ref wS])), (d, .inr (3, [.int 0, .int 0, .ref dL, .ref dP, .ref dS]))] _ := hP
  have hD : va_D A [(h0, .inr (9, [.ref w, .ref d, .ref co, .ref un, .ref ma, .ref tm, .int 0, .int 0, .int 0])), (tm, .inr (6, [.ref w, .ref d, .ref tmI, .ref tmO, .ref tmP, .int 1])), (tmI, .inl (cI, 10, .inl u1)), (tmO, .inl (cI, 10, .inl u2)), (w, .inr (3, [.int 0, .int 0, .ref wL, .ref wP, .ref wS])), (d, .inr (3, [.int 0, .int 0, .ref dL, .ref dP, .ref dS]))] := hD
  refine lv_aload_n hx hb dX6_searchByTrying_14 rfl (lv_at hl 0 rfl) ?_
  refine lv_iconst (v := 1) hx hb dX6_searchByTrying_15 (by decide) ?_
  refine va_put (D := (dC, dI)) (ci := 9) (v := .int 1) (ty := .boolean) (C := RX6) (T := TX6) (N := 9) hx hb hts (fun w h => List.mem_cons_of_mem _ (List.mem_append_left _ (List.mem_append_left _ (List.mem_append_left _ (List.mem_append_left _ (List.mem_append_right _ (h))))))) tyX6 tyX6_ok nmX6 hown hK hP hD hS 0 rfl rfl 8 (by decide) (hts (.fieldLink RX6 314 "Netcompare" "isTried" "Z") (List.mem_cons_of_mem _ (List.mem_append_left _ (List.mem_append_left _ (List.mem_append_left _ (List.mem_append_left _ (List.mem_append_left _ (List.mem_append_left _ (List.mem_of_getElem? (i := 0) rfl))))))))) (fun _ h9 => h9) rfl (by decide +kernel) rfl rfl (Nat.le_of_ble_eq_true rfl) dX6_searchByTrying_16 (fun H locs hP hD hS => ?_)
  have hP : va_P (dC, dI) vwCl [(h0, .inr (9, [.ref w, .ref d, .ref co, .ref un, .ref ma, .ref tm, .int 0, .int 0, .int 1])), (tm, .inr (6, [.ref w, .ref d, .ref tmI, .ref tmO, .ref tmP, .int 1])), (tmI, .inl (cI, 10, .inl u1)), (tmO, .inl (cI, 10, .inl u2)), (w, .inr (3, [.int 0, .int 0, .ref wL, .ref wP, .ref wS])), (d, .inr (3, [.int 0, .int 0, .ref dL, .ref dP, .ref dS]))] _ := hP
  have hD : va_D A [(h0, .inr (9, [.ref w, .ref d, .ref co, .ref un, .ref ma, .ref tm, .int 0, .int 0, .int 1])), (tm, .inr (6, [.ref w, .ref d, .ref tmI, .ref tmO, .ref tmP, .int 1])), (tmI, .inl (cI, 10, .inl u1)), (tmO, .inl (cI, 10, .inl u2)), (w, .inr (3, [.int 0, .int 0, .ref wL, .ref wP, .ref wS])), (d, .inr (3, [.int 0, .int 0, .ref dL, .ref dP, .ref dS]))] := hD
  exact ret (u1, u2) _ _ _ _ _ _ (trivial) (hP.sub [0, 4, 5, 1, 2, 3] rfl) (hK.sub [0] rfl) (hD.sub [0, 4, 5, 1, 2, 3] (by decide) rfl) hS (Nat.le_of_ble_eq_true rfl) (Nat.le_of_ble_eq_true rfl) dX6_searchByTrying_19

set_option maxHeartbeats 4000000 in
set_option maxRecDepth 100000 in
/-- requireFewNets: few -/
theorem kX6_requireFewNets (l : Launch) (hfl : l.stackTraces = false) (dC : Nat → ClassId) (dI : Nat → Nat → Nat) (h0 w d co un ma tm : Nat) (wL wP wS dL dP dS : Nat) (sz : Nat) : fXv l yX6_requireFewNets wsX6_requireFewNets ({ frames := 0, cells := 0, slots := 0, locals := 0 } : Room) dC dI [.ref h0] [(h0, .inr (9, [.ref w, .ref d, .ref co, .ref un, .ref ma, .ref tm, .int 0, .int 0, .int 0])), (w, .inr (3, [.int 0, .int 0, .ref wL, .ref wP, .ref wS])), (d, .inr (3, [.int 0, .int 0, .ref dL, .ref dP, .ref dS]))] [] sz (fun E : String => False) (fun (u : Unit) => True) (fun u => [(h0, .inr (9, [.ref w, .ref d, .ref co, .ref un, .ref ma, .ref tm, .int 0, .int 0, .int 0])), (w, .inr (3, [.int 0, .int 0, .ref wL, .ref wP, .ref wS])), (d, .inr (3, [.int 0, .int 0, .ref dL, .ref dP, .ref dS]))]) (fun u => []) := by
  refine oX_v hfl (y := yX6_requireFewNets) (cc := cX6_requireFewNets) (maxL := 1) (by decide) rfl (Nat.le_of_ble_eq_true rfl) ?_
  intro p e s m args below meth c ls A Q hx hb hr hml hown hts hN hZ hA hin hlk hP hK hD hl ret thr thn
  have hS : va_S A s.heap s.heap [] := va_S.rf
  have hl : lv_has ls 1 [(0, .ref h0)] := hl
  have hP : va_P (dC, dI) vwCl [(h0, .inr (9, [.ref w, .ref d, .ref co, .ref un, .ref ma, .ref tm, .int 0, .int 0, .int 0])), (w, .inr (3, [.int 0, .int 0, .ref wL, .ref wP, .ref wS])), (d, .inr (3, [.int 0, .int 0, .ref dL, .ref dP, .ref dS]))] _ := hP
  have hD : va_D A [(h0, .inr (9, [.ref w, .ref d, .ref co, .ref un, .ref ma, .ref tm, .int 0, .int 0, .int 0])), (w, .inr (3, [.int 0, .int 0, .ref wL, .ref wP, .ref wS])), (d, .inr (3, [.int 0, .int 0, .ref dL, .ref dP, .ref dS]))] := hD
  refine lv_aload_n hx hb dX6_requireFewNets_0 rfl (lv_at hl 0 rfl) ?_
  refine va_get (D := (dC, dI)) (ci := 9) (v := .ref w) (C := RX6) (T := TX6) (N := 9) hx hb hts (fun w h => List.mem_cons_of_mem _ (List.mem_append_left _ (List.mem_append_left _ (List.mem_append_right _ (h))))) hown hK hP 0 rfl rfl 0 (by decide) (hts (.fieldLink RX6 10 "Netcompare" "wished" "LNetcompare$Circuit;") (List.mem_cons_of_mem _ (List.mem_append_left _ (List.mem_append_left _ (List.mem_append_left _ (List.mem_of_getElem? (i := 2) rfl)))))) (fun _ h9 => h9) rfl dX6_requireFewNets_1 ?_
  refine va_getN (D := (dC, dI)) (ci := 3) (v := .int 0) (C := RX0) (T := TX0) (N := 5) hx hb hts (fun w h => List.mem_cons_of_mem _ (List.mem_append_left _ (List.mem_append_right _ (h)))) hown hK hP 1 rfl rfl 0 (by decide) (va_Nw.use rfl (hN.1 _ (List.mem_of_getElem? (i := 18) rfl))) (fun _ h9 => h9) rfl dX6_requireFewNets_4 ?_
  refine lv_bipush (v := 6) hx hb dX6_requireFewNets_7 (by decide) ?_
  refine lv_icmp_gt (tgt := 24) hx hb dX6_requireFewNets_9 (by decide) (fun h9 => absurd h9 (by decide)) (fun _ => ?_)
  refine lv_aload_n hx hb dX6_requireFewNets_12 rfl (lv_at hl 0 rfl) ?_
  refine va_get (D := (dC, dI)) (ci := 9) (v := .ref d) (C := RX6) (T := TX6) (N := 9) hx hb hts (fun w h => List.mem_cons_of_mem _ (List.mem_append_left _ (List.mem_append_left _ (List.mem_append_right _ (h))))) hown hK hP 0 rfl rfl 1 (by decide) (hts (.fieldLink RX6 16 "Netcompare" "drawn" "LNetcompare$Circuit;") (List.mem_cons_of_mem _ (List.mem_append_left _ (List.mem_append_left _ (List.mem_append_left _ (List.mem_of_getElem? (i := 3) rfl)))))) (fun _ h9 => h9) rfl dX6_requireFewNets_13 ?_
  refine va_getN (D := (dC, dI)) (ci := 3) (v := .int 0) (C := RX0) (T := TX0) (N := 5) hx hb hts (fun w h => List.mem_cons_of_mem _ (List.mem_append_left _ (List.mem_append_right _ (h)))) hown hK hP 2 rfl rfl 0 (by decide) (va_Nw.use rfl (hN.1 _ (List.mem_of_getElem? (i := 18) rfl))) (fun _ h9 => h9) rfl dX6_requireFewNets_16 ?_
  refine lv_bipush (v := 6) hx hb dX6_requireFewNets_19 (by decide) ?_
  refine lv_icmp_le (tgt := 35) hx hb dX6_requireFewNets_21 (by decide) (fun _ => ?_) (fun h9 => absurd (by decide) h9)
  exact ret () _ _ _ _ _ _ (trivial) (hP.sub [0, 1, 2] rfl) (hK.sub [] rfl) (hD.sub [0, 1, 2] (by decide) rfl) hS (Nat.le_of_ble_eq_true rfl) (Nat.le_of_ble_eq_true rfl) dX6_requireFewNets_35

set_option maxHeartbeats 4000000 in
set_option maxRecDepth 100000 in
/-- requireDifference: there is none -/
theorem kX6_requireDifference (l : Launch) (hfl : l.stackTraces = false) (dC : Nat → ClassId) (dI : Nat → Nat → Nat) (h0 ma tm un unK co : Nat) (w wL wP wS d dL dP dS : Nat) (on onR onL onC onD op opR opL opC opD : Nat) (cI : ClassId) (gn gp : Nat → Int32) (p0 : Int32) (sz : Nat) : fXv l yX6_requireDifference wsX6_requireDifference ({ frames := 6, cells := 1, slots := 6, locals := 85 } : Room) dC dI [.ref h0, .int p0] [(h0, .inr (9, [.ref w, .ref d, .ref co, .ref un, .ref ma, .ref tm, .int 0, .int 0, .int 0])), (co, .inr (4, [.ref w, .ref d, .ref on, .ref op, .int 0])), (w, .inr (3, [.int 0, .int 0, .ref wL, .ref wP, .ref wS])), (d, .inr (3, [.int 0, .int 0, .ref dL, .ref dP, .ref dS])), (on, .inr (7, [.ref onR, .ref onL, .ref onC, .ref onD, .int 0])), (onL, .inl (cI, 20, .inl (fun _ => 0))), (onC, .inl (cI, 20, .inl gn)), (op, .inr (7, [.ref opR, .ref opL, .ref opC, .ref opD, .int 0])), (opL, .inl (cI, 20, .inl (fun _ => 0))), (opC, .inl (cI, 20, .inl gp)), (un, .inr (5, [.ref unK, .int 0]))] [(cI, .int)] sz (fun E : String => E = "java/lang/IndexOutOfBoundsException") (fun (u : Unit) => False) (fun u => [(h0, .inr (9, [.ref w, .ref d, .ref co, .ref un, .ref ma, .ref tm, .int 0, .int 0, .int 0])), (co, .inr (4, [.ref w, .ref d, .ref on, .ref op, .int 0])), (w, .inr (3, [.int 0, .int 0, .ref wL, .ref wP, .ref wS])), (d, .inr (3, [.int 0, .int 0, .ref dL, .ref dP, .ref dS])), (on, .inr (7, [.ref onR, .ref onL, .ref onC, .ref onD, .int 0])), (onL, .inl (cI, 20, .inl (fun _ => 0))), (onC, .inl (cI, 20, .inl gn)), (op, .inr (7, [.ref opR, .ref opL, .ref opC, .ref opD, .int 0])), (opL, .inl (cI, 20, .inl (fun _ => 0))), (opC, .inl (cI, 20, .inl gp)), (un, .inr (5, [.ref unK, .int 0]))]) (fun u => [(cI, .int)]) := by
  refine oX_v hfl (y := yX6_requireDifference) (cc := cX6_requireDifference) (maxL := 2) (by decide) rfl (Nat.le_of_ble_eq_true rfl) ?_
  intro p e s m args below meth c ls A Q hx hb hr hml hown hts hN hZ hA hin hlk hP hK hD hl ret thr thn
  have hS : va_S A s.heap s.heap [] := va_S.rf
  have hl : lv_has ls 2 [(0, .ref h0), (1, .int p0)] := hl
  have hP : va_P (dC, dI) vwCl [(h0, .inr (9, [.ref w, .ref d, .ref co, .ref un, .ref ma, .ref tm, .int 0, .int 0, .int 0])), (co, .inr (4, [.ref w, .ref d, .ref on, .ref op, .int 0])), (w, .inr (3, [.int 0, .int 0, .ref wL, .ref wP, .ref wS])), (d, .inr (3, [.int 0, .int 0, .ref dL, .ref dP, .ref dS])), (on, .inr (7, [.ref onR, .ref onL, .ref onC, .ref onD, .int 0])), (onL, .inl (cI, 20, .inl (fun _ => 0))), (onC, .inl (cI, 20, .inl gn)), (op, .inr (7, [.ref opR, .ref opL, .ref opC, .ref opD, .int 0])), (opL, .inl (cI, 20, .inl (fun _ => 0))), (opC, .inl (cI, 20, .inl gp)), (un, .inr (5, [.ref unK, .int 0]))] _ := hP
  have hD : va_D A [(h0, .inr (9, [.ref w, .ref d, .ref co, .ref un, .ref ma, .ref tm, .int 0, .int 0, .int 0])), (co, .inr (4, [.ref w, .ref d, .ref on, .ref op, .int 0])), (w, .inr (3, [.int 0, .int 0, .ref wL, .ref wP, .ref wS])), (d, .inr (3, [.int 0, .int 0, .ref dL, .ref dP, .ref dS])), (on, .inr (7, [.ref onR, .ref onL, .ref onC, .ref onD, .int 0])), (onL, .inl (cI, 20, .inl (fun _ => 0))), (onC, .inl (cI, 20, .inl gn)), (op, .inr (7, [.ref opR, .ref opL, .ref opC, .ref opD, .int 0])), (opL, .inl (cI, 20, .inl (fun _ => 0))), (opC, .inl (cI, 20, .inl gp)), (un, .inr (5, [.ref unK, .int 0]))] := hD
  refine lv_aload_n hx hb dX6_requireDifference_0 rfl (lv_at hl 0 rfl) ?_
  have hPc := hP.sub (ws' := [(h0, .inr (9, [.ref w, .ref d, .ref co, .ref un, .ref ma, .ref tm, .int 0, .int 0, .int 0])), (co, .inr (4, [.ref w, .ref d, .ref on, .ref op, .int 0])), (w, .inr (3, [.int 0, .int 0, .ref wL, .ref wP, .ref wS])), (d, .inr (3, [.int 0, .int 0, .ref dL, .ref dP, .ref dS])), (on, .inr (7, [.ref onR, .ref onL, .ref onC, .ref onD, .int 0])), (onL, .inl (cI, 20, .inl (fun _ => 0))), (onC, .inl (cI, 20, .inl gn)), (op, .inr (7, [.ref opR, .ref opL, .ref opC, .ref opD, .int 0])), (opL, .inl (cI, 20, .inl (fun _ => 0))), (opC, .inl (cI, 20, .inl gp)), (un, .inr (5, [.ref unK, .int 0]))]) [0, 1, 2, 3, 4, 5, 6, 7, 8, 9, 10] rfl
  have hDc := hD.sub (ws' := [(h0, .inr (9, [.ref w, .ref d, .ref co, .ref un, .ref ma, .ref tm, .int 0, .int 0, .int 0])), (co, .inr (4, [.ref w, .ref d, .ref on, .ref op, .int 0])), (w, .inr (3, [.int 0, .int 0, .ref wL, .ref wP, .ref wS])), (d, .inr (3, [.int 0, .int 0, .ref dL, .ref dP, .ref dS])), (on, .inr (7, [.ref onR, .ref onL, .ref onC, .ref onD, .int 0])), (onL, .inl (cI, 20, .inl (fun _ => 0))), (onC, .inl (cI, 20, .inl gn)), (op, .inr (7, [.ref opR, .ref opL, .ref opC, .ref opD, .int 0])), (opL, .inl (cI, 20, .inl (fun _ => 0))), (opC, .inl (cI, 20, .inl gp)), (un, .inr (5, [.ref unK, .int 0]))]) [0, 1, 2, 3, 4, 5, 6, 7, 8, 9, 10] (by decide) rfl
  have hKc := hK.sub (tys' := [(cI, .int)]) [0] rfl
  have hFc := va_free (wc := [(h0, .inr (9, [.ref w, .ref d, .ref co, .ref un, .ref ma, .ref tm, .int 0, .int 0, .int 0])), (co, .inr (4, [.ref w, .ref d, .ref on, .ref op, .int 0])), (w, .inr (3, [.int 0, .int 0, .ref wL, .ref wP, .ref wS])), (d, .inr (3, [.int 0, .int 0, .ref dL, .ref dP, .ref dS])), (on, .inr (7, [.ref onR, .ref onL, .ref onC, .ref onD, .int 0])), (onL, .inl (cI, 20, .inl (fun _ => 0))), (onC, .inl (cI, 20, .inl gn)), (op, .inr (7, [.ref opR, .ref opL, .ref opC, .ref opD, .int 0])), (opL, .inl (cI, 20, .inl (fun _ => 0))), (opC, .inl (cI, 20, .inl gp)), (un, .inr (5, [.ref unK, .int 0]))]) hD hS hA [0, 1, 2, 3, 4, 5, 6, 7, 8, 9, 10] rfl
  refine va_callv (va_runV (As := []) (rest := []) ⟨hx, hb, hml, hown, hts⟩ (kX6_colour l dC dI h0 ma tm un unK co w wL wP wS d dL dP dS on onR onL onC onD op opR opL opC opD cI gn gp s.heap.size) (cwV 0 hts gX6_requireDifference_X6_colour rfl rfl rfl (by decide +kernel) ⟨Nat.le_of_ble_eq_true rfl, Nat.le_of_ble_eq_true rfl⟩) (fPreV hN hZ hS (fun q h => hFc q h) hPc hKc hDc (ci := 9) (q0 := 0) rfl rfl) rfl rfl hl.1 rfl (lv_room (Nat.le_of_ble_eq_true rfl)) dX6_requireDifference_1 ⟨Nat.le_of_ble_eq_true rfl, Nat.le_of_ble_eq_true rfl⟩) hS (fun q _ h => hFc q h) hFc (fun u t H1 locs ht hvm hw hB hz1 hk1 hS => ?_)
  obtain ⟨hP1, hK1, hD1⟩ := hB
  rw [ht] at hP1
  have hK1 := va_K.moved hvm.symm hK1
  obtain ⟨u1, u2⟩ := u
  obtain ⟨hP, hD⟩ := va_join (wr := []) (w1 := [(h0, .inr (9, [.ref w, .ref d, .ref co, .ref un, .ref ma, .ref tm, .int 1, .int 0, .int 0])), (co, .inr (4, [.ref w, .ref d, .ref on, .ref op, .int 0])), (w, .inr (3, [.int 0, .int 0, .ref wL, .ref wP, .ref wS])), (d, .inr (3, [.int 0, .int 0, .ref dL, .ref dP, .ref dS])), (on, .inr (7, [.ref onR, .ref onL, .ref onC, .ref onD, .int 0])), (onL, .inl (cI, 20, .inl (fun _ => 0))), (onC, .inl (cI, 20, .inl u1)), (op, .inr (7, [.ref opR, .ref opL, .ref opC, .ref opD, .int 0])), (opL, .inl (cI, 20, .inl (fun _ => 0))), (opC, .inl (cI, 20, .inl u2)), (un, .inr (5, [.ref unK, .int 0]))]) hP hD [0, 1, 2, 3, 4, 5, 6, 7, 8, 9, 10] [] rfl rfl (by decide) (by decide) hk1 hFc hP1 hD1
  generalize H1 = H at hP hS ⊢
  have hP : va_P (dC, dI) vwCl [(h0, .inr (9, [.ref w, .ref d, .ref co, .ref un, .ref ma, .ref tm, .int 1, .int 0, .int 0])), (co, .inr (4, [.ref w, .ref d, .ref on, .ref op, .int 0])), (w, .inr (3, [.int 0, .int 0, .ref wL, .ref wP, .ref wS])), (d, .inr (3, [.int 0, .int 0, .ref dL, .ref dP, .ref dS])), (on, .inr (7, [.ref onR, .ref onL, .ref onC, .ref onD, .int 0])), (onL, .inl (cI, 20, .inl (fun _ => 0))), (onC, .inl (cI, 20, .inl u1)), (op, .inr (7, [.ref opR, .ref opL, .ref opC, .ref opD, .int 0])), (opL, .inl (cI, 20, .inl (fun _ => 0))), (opC, .inl (cI, 20, .inl u2)), (un, .inr (5, [.ref unK, .int 0]))] _ := hP
  have hD : va_D A [(h0, .inr (9, [.ref w, .ref d, .ref co, .ref un, .ref ma, .ref tm, .int 1, .int 0, .int 0])), (co, .inr (4, [.ref w, .ref d, .ref on, .ref op, .int 0])), (w, .inr (3, [.int 0, .int 0, .ref wL, .ref wP, .ref wS])), (d, .inr (3, [.int 0, .int 0, .ref dL, .ref dP, .ref dS])), (on, .inr (7, [.ref onR, .ref onL, .ref onC, .ref onD, .int 0])), (onL, .inl (cI, 20, .inl (fun _ => 0))), (onC, .inl (cI, 20, .inl u1)), (op, .inr (7, [.ref opR, .ref opL, .ref opC, .ref opD, .int 0])), (opL, .inl (cI, 20, .inl (fun _ => 0))), (opC, .inl (cI, 20, .inl u2)), (un, .inr (5, [.ref unK, .int 0]))] := hD
  refine lv_iload_n hx hb dX6_requireDifference_4 rfl (lv_at hl 1 rfl) ?_
  refine lv_if_lt (tgt := 19) hx hb dX6_requireDifference_5 (by decide) (fun h3 => ?_) (fun h3 => ?_)
  · skip
    exact thn "java/lang/IndexOutOfBoundsException" _ ["java/lang/RuntimeException", "java/lang/Exception"] 188 306 192 _ _ _ _ 19 _ (rfl) (by decide +kernel) (by decide +kernel) (hts (.classLink RX6 188 "java/lang/IndexOutOfBoundsException") (List.mem_cons_of_mem _ (List.mem_append_left _ (List.mem_append_left _ (List.mem_append_left _ (List.mem_append_left _ (List.mem_append_left _ (List.mem_append_left _ (List.mem_append_left _ (List.mem_append_left _ (List.mem_append_left _ (List.mem_of_getElem? (i := 0) rfl)))))))))))) (hts (.initialized "java/lang/IndexOutOfBoundsException") (List.mem_cons_of_mem _ (List.mem_append_left _ (List.mem_append_left _ (List.mem_append_left _ (List.mem_append_left _ (List.mem_append_left _ (List.mem_append_left _ (List.mem_append_left _ (List.mem_append_left _ (List.mem_append_left _ (List.mem_of_getElem? (i := 1) rfl)))))))))))) (hN.2 _ (List.mem_of_getElem? (i := 16) rfl)) (vx_hat (fun w h => hts w ((fun w h => List.mem_cons_of_mem _ (List.mem_append_left _ (List.mem_append_right _ (h)))) w h)) (B := [.castable "java/lang/IndexOutOfBoundsException" "java/lang/IndexOutOfBoundsException", .declares ⟨"java/lang/RuntimeException", "<init>", "(Ljava/lang/String;)V"⟩, .declares ⟨"java/lang/Exception", "<init>", "(Ljava/lang/String;)V"⟩, .declares ⟨"java/lang/Throwable", "<init>", "(Ljava/lang/String;)V"⟩]) (by decide +kernel) (vx_c (va_Nw.use rfl (hN.1 _ (List.mem_of_getElem? (i := 58) rfl))) (vx_c (va_Nw.use rfl (hN.1 _ (List.mem_of_getElem? (i := 51) rfl))) (vx_c (va_Nw.use rfl (hN.1 _ (List.mem_of_getElem? (i := 52) rfl))) (vx_c (va_Nw.use rfl (hN.1 _ (List.mem_of_getElem? (i := 53) rfl))) vx_n))))) (by decide +kernel) hS hl.1 (Nat.le_of_ble_eq_true rfl) (Nat.le_of_ble_eq_true rfl) (Nat.le_of_ble_eq_true rfl) (Nat.le_of_ble_eq_true rfl) dX6_requireDifference_19 dX6_requireDifference_22 (Or.inr ⟨dX6_requireDifference_23, dX6_requireDifference_26, dX6_requireDifference_29⟩)
  · skip
    refine lv_iload_n hx hb dX6_requireDifference_8 rfl (lv_at hl 1 rfl) ?_
    refine lv_aload_n hx hb dX6_requireDifference_9 rfl (lv_at hl 0 rfl) ?_
    refine va_get (D := (dC, dI)) (ci := 9) (v := .ref un) (C := RX6) (T := TX6) (N := 9) hx hb hts (fun w h => List.mem_cons_of_mem _ (List.mem_append_left _ (List.mem_append_left _ (List.mem_append_left _ (List.mem_append_left _ (List.mem_append_left _ (List.mem_append_left _ (List.mem_append_left _ (List.mem_append_right _ (h)))))))))) hown hK hP 0 rfl rfl 3 (by decide) (hts (.fieldLink RX6 31 "Netcompare" "unequal" "LNetcompare$Differences;") (List.mem_cons_of_mem _ (List.mem_append_left _ (List.mem_append_left _ (List.mem_append_left _ (List.mem_append_left _ (List.mem_append_left _ (List.mem_append_left _ (List.mem_append_left _ (List.mem_append_left _ (List.mem_append_left _ (List.mem_of_getElem? (i := 2) rfl)))))))))))) (fun _ h9 => h9) rfl dX6_requireDifference_10 ?_
    refine va_getN (D := (dC, dI)) (ci := 5) (v := .int 0) (C := RX2) (T := TX2) (N := 2) hx hb hts (fun w h => List.mem_cons_of_mem _ (List.mem_append_left _ (List.mem_append_left _ (List.mem_append_left _ (List.mem_append_left _ (List.mem_append_left _ (List.mem_append_left _ (List.mem_append_right _ (h))))))))) hown hK hP 10 rfl rfl 1 (by decide) (va_Nw.use rfl (hN.1 _ (List.mem_of_getElem? (i := 44) rfl))) (fun _ h9 => h9) rfl dX6_requireDifference_13 ?_
    refine lv_icmp_lt (tgt := 30) hx hb dX6_requireDifference_16 (by decide) (fun h9 => absurd h9 (h3)) (fun _ => ?_)
    exact thn "java/lang/IndexOutOfBoundsException" _ ["java/lang/RuntimeException", "java/lang/Exception"] 188 306 192 _ _ _ _ 19 _ (rfl) (by decide +kernel) (by decide +kernel) (hts (.classLink RX6 188 "java/lang/IndexOutOfBoundsException") (List.mem_cons_of_mem _ (List.mem_append_left _ (List.mem_append_left _ (List.mem_append_left _ (List.mem_append_left _ (List.mem_append_left _ (List.mem_append_left _ (List.mem_append_left _ (List.mem_append_left _ (List.mem_append_left _ (List.mem_of_getElem? (i := 0) rfl)))))))))))) (hts (.initialized "java/lang/IndexOutOfBoundsException") (List.mem_cons_of_mem _ (List.mem_append_left _ (List.mem_append_left _ (List.mem_append_left _ (List.mem_append_left _ (List.mem_append_left _ (List.mem_append_left _ (List.mem_append_left _ (List.mem_append_left _ (List.mem_append_left _ (List.mem_of_getElem? (i := 1) rfl)))))))))))) (hN.2 _ (List.mem_of_getElem? (i := 16) rfl)) (vx_hat (fun w h => hts w ((fun w h => List.mem_cons_of_mem _ (List.mem_append_left _ (List.mem_append_right _ (h)))) w h)) (B := [.castable "java/lang/IndexOutOfBoundsException" "java/lang/IndexOutOfBoundsException", .declares ⟨"java/lang/RuntimeException", "<init>", "(Ljava/lang/String;)V"⟩, .declares ⟨"java/lang/Exception", "<init>", "(Ljava/lang/String;)V"⟩, .declares ⟨"java/lang/Throwable", "<init>", "(Ljava/lang/String;)V"⟩]) (by decide +kernel) (vx_c (va_Nw.use rfl (hN.1 _ (List.mem_of_getElem? (i := 58) rfl))) (vx_c (va_Nw.use rfl (hN.1 _ (List.mem_of_getElem? (i := 51) rfl))) (vx_c (va_Nw.use rfl (hN.1 _ (List.mem_of_getElem? (i := 52) rfl))) (vx_c (va_Nw.use rfl (hN.1 _ (List.mem_of_getElem? (i := 53) rfl))) vx_n))))) (by decide +kernel) hS hl.1 (Nat.le_of_ble_eq_true rfl) (Nat.le_of_ble_eq_true rfl) (Nat.le_of_ble_eq_true rfl) (Nat.le_of_ble_eq_true rfl) dX6_requireDifference_19 dX6_requireDifference_22 (Or.inr ⟨dX6_requireDifference_23, dX6_requireDifference_26, dX6_requireDifference_29⟩)
