theorem dX0_newNet_0 : decode cX0_newNet 0 = .ok (.aload_n 0, 1) := by decide +kernel
theorem dX0_newNet_1 : decode cX0_newNet 1 = .ok (.getfield 26, 3) := by decide +kernel
theorem dX0_newNet_4 : decode cX0_newNet 4 = .ok (.istore_n 1, 1) := by decide +kernel
theorem dX0_newNet_5 : decode cX0_newNet 5 = .ok (.aload_n 0, 1) := by decide +kernel
theorem dX0_newNet_6 : decode cX0_newNet 6 = .ok (.getfield 9, 3) := by decide +kernel
theorem dX0_newNet_9 : decode cX0_newNet 9 = .ok (.iload_n 1, 1) := by decide +kernel
theorem dX0_newNet_10 : decode cX0_newNet 10 = .ok (.bipush 45, 2) := by decide +kernel
theorem dX0_newNet_12 : decode cX0_newNet 12 = .ok (.castore, 1) := by decide +kernel
theorem dX0_newNet_13 : decode cX0_newNet 13 = .ok (.aload_n 0, 1) := by decide +kernel
theorem dX0_newNet_14 : decode cX0_newNet 14 = .ok (.dup, 1) := by decide +kernel
theorem dX0_newNet_15 : decode cX0_newNet 15 = .ok (.getfield 26, 3) := by decide +kernel
theorem dX0_newNet_18 : decode cX0_newNet 18 = .ok (.iconst 1, 1) := by decide +kernel
theorem dX0_newNet_19 : decode cX0_newNet 19 = .ok (.iadd, 1) := by decide +kernel
theorem dX0_newNet_20 : decode cX0_newNet 20 = .ok (.putfield 26, 3) := by decide +kernel
theorem dX0_newNet_23 : decode cX0_newNet 23 = .ok (.iload_n 1, 1) := by decide +kernel
theorem dX0_newNet_24 : decode cX0_newNet 24 = .ok (.ireturn, 1) := by decide +kernel
set_option maxRecDepth 20000 in
theorem ggX0_copyFrom_X5_copyFrom : GoodIn wsX0_copyFrom wsX5_copyFrom := goodIn_r _ [13, 14, 15, 16, 17, 18, 19, 5, 6, 7, 25, 26, 27, 28, 29, 30] (by decide +kernel) (by decide +kernel)
set_option maxRecDepth 20000 in
theorem gX0_copyFrom_X5_copyFrom : GoodIn wsX0_copyFrom (wsV RX0 43 RX5 yX5_copyFrom wsX5_copyFrom) := goodIn_app (goodIn_of _ (by decide +kernel)) ggX0_copyFrom_X5_copyFrom
theorem dX0_copyFrom_0 : decode cX0_copyFrom 0 = .ok (.aload_n 0, 1) := by decide +kernel
theorem dX0_copyFrom_1 : decode cX0_copyFrom 1 = .ok (.aload_n 1, 1) := by decide +kernel
theorem dX0_copyFrom_2 : decode cX0_copyFrom 2 = .ok (.getfield 26, 3) := by decide +kernel
theorem dX0_copyFrom_5 : decode cX0_copyFrom 5 = .ok (.putfield 26, 3) := by decide +kernel
theorem dX0_copyFrom_8 : decode cX0_copyFrom 8 = .ok (.aload_n 0, 1) := by decide +kernel
theorem dX0_copyFrom_9 : decode cX0_copyFrom 9 = .ok (.aload_n 1, 1) := by decide +kernel
theorem dX0_copyFrom_10 : decode cX0_copyFrom 10 = .ok (.getfield 30, 3) := by decide +kernel
theorem dX0_copyFrom_13 : decode cX0_copyFrom 13 = .ok (.putfield 30, 3) := by decide +kernel
theorem dX0_copyFrom_16 : decode cX0_copyFrom 16 = .ok (.aload_n 1, 1) := by decide +kernel
theorem dX0_copyFrom_17 : decode cX0_copyFrom 17 = .ok (.getfield 9, 3) := by decide +kernel
theorem dX0_copyFrom_20 : decode cX0_copyFrom 20 = .ok (.iconst 0, 1) := by decide +kernel
theorem dX0_copyFrom_21 : decode cX0_copyFrom 21 = .ok (.aload_n 0, 1) := by decide +kernel
theorem dX0_copyFrom_22 : decode cX0_copyFrom 22 = .ok (.getfield 9, 3) := by decide +kernel
theorem dX0_copyFrom_25 : decode cX0_copyFrom 25 = .ok (.iconst 0, 1) := by decide +kernel
theorem dX0_copyFrom_26 : decode cX0_copyFrom 26 = .ok (.bipush 10, 2) := by decide +kernel
theorem dX0_copyFrom_28 : decode cX0_copyFrom 28 = .ok (.invokestatic 37, 3) := by decide +kernel
theorem dX0_copyFrom_31 : decode cX0_copyFrom 31 = .ok (.iconst 0, 1) := by decide +kernel
theorem dX0_copyFrom_32 : decode cX0_copyFrom 32 = .ok (.istore_n 2, 1) := by decide +kernel
theorem dX0_copyFrom_33 : decode cX0_copyFrom 33 = .ok (.iload_n 2, 1) := by decide +kernel
theorem dX0_copyFrom_34 : decode cX0_copyFrom 34 = .ok (.bipush 10, 2) := by decide +kernel
theorem dX0_copyFrom_36 : decode cX0_copyFrom 36 = .ok (.if_icmp .ge 24, 3) := by decide +kernel
theorem dX0_copyFrom_39 : decode cX0_copyFrom 39 = .ok (.aload_n 0, 1) := by decide +kernel
theorem dX0_copyFrom_40 : decode cX0_copyFrom 40 = .ok (.getfield 17, 3) := by decide +kernel
theorem dX0_copyFrom_43 : decode cX0_copyFrom 43 = .ok (.iload_n 2, 1) := by decide +kernel
theorem dX0_copyFrom_44 : decode cX0_copyFrom 44 = .ok (.aaload, 1) := by decide +kernel
theorem dX0_copyFrom_45 : decode cX0_copyFrom 45 = .ok (.aload_n 1, 1) := by decide +kernel
theorem dX0_copyFrom_46 : decode cX0_copyFrom 46 = .ok (.getfield 17, 3) := by decide +kernel
theorem dX0_copyFrom_49 : decode cX0_copyFrom 49 = .ok (.iload_n 2, 1) := by decide +kernel
theorem dX0_copyFrom_50 : decode cX0_copyFrom 50 = .ok (.aaload, 1) := by decide +kernel
theorem dX0_copyFrom_51 : decode cX0_copyFrom 51 = .ok (.invokevirtual 43, 3) := by decide +kernel
theorem dX0_copyFrom_54 : decode cX0_copyFrom 54 = .ok (.iinc 2 1, 3) := by decide +kernel
theorem dX0_copyFrom_57 : decode cX0_copyFrom 57 = .ok (.goto (-24), 3) := by decide +kernel
theorem dX0_copyFrom_60 : decode cX0_copyFrom 60 = .ok (.return_, 1) := by decide +kernel
theorem dX5_copyFrom_0 : decode cX5_copyFrom 0 = .ok (.aload_n 0, 1) := by decide +kernel
theorem dX5_copyFrom_1 : decode cX5_copyFrom 1 = .ok (.aload_n 1, 1) := by decide +kernel
theorem dX5_copyFrom_2 : decode cX5_copyFrom 2 = .ok (.getfield 19, 3) := by decide +kernel
theorem dX5_copyFrom_5 : decode cX5_copyFrom 5 = .ok (.putfield 19, 3) := by decide +kernel
theorem dX5_copyFrom_8 : decode cX5_copyFrom 8 = .ok (.aload_n 0, 1) := by decide +kernel
theorem dX5_copyFrom_9 : decode cX5_copyFrom 9 = .ok (.aload_n 1, 1) := by decide +kernel
theorem dX5_copyFrom_10 : decode cX5_copyFrom 10 = .ok (.getfield 23, 3) := by decide +kernel
theorem dX5_copyFrom_13 : decode cX5_copyFrom 13 = .ok (.putfield 23, 3) := by decide +kernel
theorem dX5_copyFrom_16 : decode cX5_copyFrom 16 = .ok (.aload_n 0, 1) := by decide +kernel
theorem dX5_copyFrom_17 : decode cX5_copyFrom 17 = .ok (.aload_n 1, 1) := by decide +kernel
theorem dX5_copyFrom_18 : decode cX5_copyFrom 18 = .ok (.getfield 27, 3) := by decide +kernel
theorem dX5_copyFrom_21 : decode cX5_copyFrom 21 = .ok (.putfield 27, 3) := by decide +kernel
theorem dX5_copyFrom_24 : decode cX5_copyFrom 24 = .ok (.aload_n 0, 1) := by decide +kernel
theorem dX5_copyFrom_25 : decode cX5_copyFrom 25 = .ok (.aload_n 1, 1) := by decide +kernel
theorem dX5_copyFrom_26 : decode cX5_copyFrom 26 = .ok (.getfield 30, 3) := by decide +kernel
theorem dX5_copyFrom_29 : decode cX5_copyFrom 29 = .ok (.putfield 30, 3) := by decide +kernel
theorem dX5_copyFrom_32 : decode cX5_copyFrom 32 = .ok (.aload_n 1, 1) := by decide +kernel
theorem dX5_copyFrom_33 : decode cX5_copyFrom 33 = .ok (.getfield 9, 3) := by decide +kernel
theorem dX5_copyFrom_36 : decode cX5_copyFrom 36 = .ok (.iconst 0, 1) := by decide +kernel
theorem dX5_copyFrom_37 : decode cX5_copyFrom 37 = .ok (.aload_n 0, 1) := by decide +kernel
theorem dX5_copyFrom_38 : decode cX5_copyFrom 38 = .ok (.getfield 9, 3) := by decide +kernel
theorem dX5_copyFrom_41 : decode cX5_copyFrom 41 = .ok (.iconst 0, 1) := by decide +kernel
theorem dX5_copyFrom_42 : decode cX5_copyFrom 42 = .ok (.iconst 3, 1) := by decide +kernel
theorem dX5_copyFrom_43 : decode cX5_copyFrom 43 = .ok (.invokestatic 33, 3) := by decide +kernel
theorem dX5_copyFrom_46 : decode cX5_copyFrom 46 = .ok (.return_, 1) := by decide +kernel
set_option maxRecDepth 20000 in
theorem ggX6_addNet_X6_circuitAt : GoodIn wsX6_addNet wsX6_circuitAt := goodIn_ca (goodIn_r _ [7, 8, 9, 10, 11, 6, 12, 13, 14, 34, 35, 36, 37, 38, 39, 40, 41, 42] (by decide +kernel) (by decide +kernel)) (goodIn_sub (fun _ h => List.mem_cons_of_mem _ (List.mem_append_left _ (List.mem_append_right _ h))) (by decide +kernel))
set_option maxRecDepth 20000 in
theorem gX6_addNet_X6_circuitAt : GoodIn wsX6_addNet (wsV RX6 45 RX6 yX6_circuitAt wsX6_circuitAt) := goodIn_app (goodIn_of _ (by decide +kernel)) ggX6_addNet_X6_circuitAt
set_option maxRecDepth 20000 in
theorem ggX6_addNet_X6_forget : GoodIn wsX6_addNet wsX6_forget := goodIn_r _ [18, 19, 20, 21, 34, 35, 36, 37, 38, 39, 40, 41, 42] (by decide +kernel) (by decide +kernel)
set_option maxRecDepth 20000 in
theorem gX6_addNet_X6_forget : GoodIn wsX6_addNet (wsV RX6 60 RX6 yX6_forget wsX6_forget) := goodIn_app (goodIn_of _ (by decide +kernel)) ggX6_addNet_X6_forget
set_option maxRecDepth 20000 in
theorem ggX6_addNet_X0_newNet : GoodIn wsX6_addNet wsX0_newNet := goodIn_ca (goodIn_r _ [26, 27, 28, 29, 30, 31, 32, 33] (by decide +kernel) (by decide +kernel)) (goodIn_sub (fun _ h => List.mem_cons_of_mem _ (List.mem_append_right _ h)) (by decide +kernel))
set_option maxRecDepth 20000 in
theorem gX6_addNet_X0_newNet : GoodIn wsX6_addNet (wsV RX6 63 RX0 yX0_newNet wsX0_newNet) := goodIn_app (goodIn_of _ (by decide +kernel)) ggX6_addNet_X0_newNet
theorem dX6_addNet_0 : decode cX6_addNet 0 = .ok (.aload_n 0, 1) := by decide +kernel
theorem dX6_addNet_1 : decode cX6_addNet 1 = .ok (.iload_n 1, 1) := by decide +kernel
theorem dX6_addNet_2 : decode cX6_addNet 2 = .ok (.invokevirtual 45, 3) := by decide +kernel
theorem dX6_addNet_5 : decode cX6_addNet 5 = .ok (.astore_n 2, 1) := by decide +kernel
theorem dX6_addNet_6 : decode cX6_addNet 6 = .ok (.aload_n 2, 1) := by decide +kernel
theorem dX6_addNet_7 : decode cX6_addNet 7 = .ok (.getfield 49, 3) := by decide +kernel
theorem dX6_addNet_10 : decode cX6_addNet 10 = .ok (.bipush 10, 2) := by decide +kernel
theorem dX6_addNet_12 : decode cX6_addNet 12 = .ok (.if_icmp .lt 13, 3) := by decide +kernel
theorem dX6_addNet_25 : decode cX6_addNet 25 = .ok (.aload_n 0, 1) := by decide +kernel
theorem dX6_addNet_26 : decode cX6_addNet 26 = .ok (.invokevirtual 60, 3) := by decide +kernel
theorem dX6_addNet_29 : decode cX6_addNet 29 = .ok (.aload_n 2, 1) := by decide +kernel
theorem dX6_addNet_30 : decode cX6_addNet 30 = .ok (.invokevirtual 63, 3) := by decide +kernel
theorem dX6_addNet_33 : decode cX6_addNet 33 = .ok (.ireturn, 1) := by decide +kernel
set_option maxRecDepth 20000 in
theorem ggX6_setPort_X6_circuitAt : GoodIn wsX6_setPort wsX6_circuitAt := goodIn_ca (goodIn_r _ [9, 10, 11, 12, 13, 8, 14, 1, 2, 43, 44, 45, 46, 47, 48, 49, 50, 51] (by decide +kernel) (by decide +kernel)) (goodIn_sub (fun _ h => List.mem_cons_of_mem _ (List.mem_append_left _ (List.mem_append_left _ (List.mem_append_left _ (List.mem_append_right _ h))))) (by decide +kernel))
set_option maxRecDepth 20000 in
theorem gX6_setPort_X6_circuitAt : GoodIn wsX6_setPort (wsV RX6 45 RX6 yX6_circuitAt wsX6_circuitAt) := goodIn_app (goodIn_of _ (by decide +kernel)) ggX6_setPort_X6_circuitAt
set_option maxRecDepth 20000 in
theorem ggX6_setPort_X6_requireNet : GoodIn wsX6_setPort wsX6_requireNet := goodIn_ca (goodIn_r _ [17, 18, 19, 20, 21, 22, 23, 24, 25, 38, 39, 40, 41, 42] (by decide +kernel) (by decide +kernel)) (goodIn_sub (fun _ h => List.mem_cons_of_mem _ (List.mem_append_right _ h)) (by decide +kernel))
set_option maxRecDepth 20000 in
theorem gX6_setPort_X6_requireNet : GoodIn wsX6_setPort (va_wsS RX6 72 yX6_requireNet wsX6_requireNet) := goodIn_app (goodIn_of _ (by decide +kernel)) ggX6_setPort_X6_requireNet
theorem dX6_setPort_0 : decode cX6_setPort 0 = .ok (.aload_n 0, 1) := by decide +kernel
theorem dX6_setPort_1 : decode cX6_setPort 1 = .ok (.iload_n 1, 1) := by decide +kernel
theorem dX6_setPort_2 : decode cX6_setPort 2 = .ok (.invokevirtual 45, 3) := by decide +kernel
theorem dX6_setPort_5 : decode cX6_setPort 5 = .ok (.astore 4, 2) := by decide +kernel
theorem dX6_setPort_7 : decode cX6_setPort 7 = .ok (.iload_n 3, 1) := by decide +kernel
theorem dX6_setPort_8 : decode cX6_setPort 8 = .ok (.bipush 45, 2) := by decide +kernel
theorem dX6_setPort_10 : decode cX6_setPort 10 = .ok (.if_icmp .eq 25, 3) := by decide +kernel
theorem dX6_setPort_13 : decode cX6_setPort 13 = .ok (.iload_n 3, 1) := by decide +kernel
theorem dX6_setPort_14 : decode cX6_setPort 14 = .ok (.bipush 97, 2) := by decide +kernel
theorem dX6_setPort_16 : decode cX6_setPort 16 = .ok (.if_icmp .lt 9, 3) := by decide +kernel
theorem dX6_setPort_19 : decode cX6_setPort 19 = .ok (.iload_n 3, 1) := by decide +kernel
theorem dX6_setPort_20 : decode cX6_setPort 20 = .ok (.bipush 102, 2) := by decide +kernel
theorem dX6_setPort_22 : decode cX6_setPort 22 = .ok (.if_icmp .le 13, 3) := by decide +kernel
theorem dX6_setPort_25 : decode cX6_setPort 25 = .ok (.new 67, 3) := by decide +kernel
theorem dX6_setPort_28 : decode cX6_setPort 28 = .ok (.dup, 1) := by decide +kernel
theorem dX6_setPort_29 : decode cX6_setPort 29 = .ok (.ldc 69, 2) := by decide +kernel
theorem dX6_setPort_31 : decode cX6_setPort 31 = .ok (.invokespecial 71, 3) := by decide +kernel
theorem dX6_setPort_34 : decode cX6_setPort 34 = .ok (.athrow, 1) := by decide +kernel
theorem dX6_setPort_35 : decode cX6_setPort 35 = .ok (.aload 4, 2) := by decide +kernel
theorem dX6_setPort_37 : decode cX6_setPort 37 = .ok (.iload_n 2, 1) := by decide +kernel
theorem dX6_setPort_38 : decode cX6_setPort 38 = .ok (.invokestatic 72, 3) := by decide +kernel
set_option maxRecDepth 20000 in
theorem ggX6_addPart_X6_circuitAt : GoodIn wsX6_addPart wsX6_circuitAt := goodIn_ca (goodIn_r _ [9, 10, 11, 12, 13, 8, 14, 1, 2, 59, 60, 61, 62, 63, 64, 65, 66, 67] (by decide +kernel) (by decide +kernel)) (goodIn_sub (fun _ h => List.mem_cons_of_mem _ (List.mem_append_left _ (List.mem_append_left _ (List.mem_append_left _ (List.mem_append_right _ h))))) (by decide +kernel))
set_option maxRecDepth 20000 in
theorem gX6_addPart_X6_circuitAt : GoodIn wsX6_addPart (wsV RX6 45 RX6 yX6_circuitAt wsX6_circuitAt) := goodIn_app (goodIn_of _ (by decide +kernel)) ggX6_addPart_X6_circuitAt
set_option maxRecDepth 20000 in
theorem ggX6_addPart_X6_requireKind : GoodIn wsX6_addPart wsX6_requireKind := goodIn_ca (goodIn_r _ [17, 1, 2] (by decide +kernel) (by decide +kernel)) (goodIn_sub (fun _ h => List.mem_cons_of_mem _ (List.mem_append_left _ (List.mem_append_left _ (List.mem_append_left _ (List.mem_append_right _ h))))) (by decide +kernel))
set_option maxRecDepth 20000 in
theorem gX6_addPart_X6_requireKind : GoodIn wsX6_addPart (va_wsS RX6 86 yX6_requireKind wsX6_requireKind) := goodIn_app (goodIn_of _ (by decide +kernel)) ggX6_addPart_X6_requireKind
set_option maxRecDepth 20000 in
theorem ggX6_addPart_X6_requireValue : GoodIn wsX6_addPart wsX6_requireValue := goodIn_ca (goodIn_r _ [20, 1, 2] (by decide +kernel) (by decide +kernel)) (goodIn_sub (fun _ h => List.mem_cons_of_mem _ (List.mem_append_left _ (List.mem_append_left _ (List.mem_append_left _ (List.mem_append_right _ h))))) (by decide +kernel))
set_option maxRecDepth 20000 in
theorem gX6_addPart_X6_requireValue : GoodIn wsX6_addPart (va_wsS RX6 90 yX6_requireValue wsX6_requireValue) := goodIn_app (goodIn_of _ (by decide +kernel)) ggX6_addPart_X6_requireValue
set_option maxRecDepth 20000 in
theorem ggX6_addPart_X6_requireNet : GoodIn wsX6_addPart wsX6_requireNet := goodIn_ca (goodIn_r _ [23, 24, 25, 26, 27, 28, 29, 30, 31, 48, 49, 50, 51, 52] (by decide +kernel) (by decide +kernel)) (goodIn_sub (fun _ h => List.mem_cons_of_mem _ (List.mem_append_right _ h)) (by decide +kernel))
set_option maxRecDepth 20000 in
theorem gX6_addPart_X6_requireNet : GoodIn wsX6_addPart (va_wsS RX6 72 yX6_requireNet wsX6_requireNet) := goodIn_app (goodIn_of _ (by decide +kernel)) ggX6_addPart_X6_requireNet
theorem dX6_addPart_0 : decode cX6_addPart 0 = .ok (.aload_n 0, 1) := by decide +kernel
theorem dX6_addPart_1 : decode cX6_addPart 1 = .ok (.iload_n 1, 1) := by decide +kernel
theorem dX6_addPart_2 : decode cX6_addPart 2 = .ok (.invokevirtual 45, 3) := by decide +kernel
theorem dX6_addPart_5 : decode cX6_addPart 5 = .ok (.astore 7, 2) := by decide +kernel
theorem dX6_addPart_7 : decode cX6_addPart 7 = .ok (.iload_n 2, 1) := by decide +kernel
theorem dX6_addPart_8 : decode cX6_addPart 8 = .ok (.invokestatic 86, 3) := by decide +kernel
theorem dX6_addPart_11 : decode cX6_addPart 11 = .ok (.iload_n 3, 1) := by decide +kernel
theorem dX6_addPart_12 : decode cX6_addPart 12 = .ok (.invokestatic 90, 3) := by decide +kernel
theorem dX6_addPart_15 : decode cX6_addPart 15 = .ok (.iload_n 2, 1) := by decide +kernel
theorem dX6_addPart_16 : decode cX6_addPart 16 = .ok (.bipush 116, 2) := by decide +kernel
theorem dX6_addPart_18 : decode cX6_addPart 18 = .ok (.if_icmp .eq 19, 3) := by decide +kernel
theorem dX6_addPart_21 : decode cX6_addPart 21 = .ok (.iload 6, 2) := by decide +kernel
theorem dX6_addPart_23 : decode cX6_addPart 23 = .ok (.iconst (-1), 1) := by decide +kernel
theorem dX6_addPart_24 : decode cX6_addPart 24 = .ok (.if_icmp .eq 13, 3) := by decide +kernel
theorem dX6_addPart_27 : decode cX6_addPart 27 = .ok (.new 67, 3) := by decide +kernel
theorem dX6_addPart_30 : decode cX6_addPart 30 = .ok (.dup, 1) := by decide +kernel
theorem dX6_addPart_31 : decode cX6_addPart 31 = .ok (.ldc 94, 2) := by decide +kernel
theorem dX6_addPart_33 : decode cX6_addPart 33 = .ok (.invokespecial 71, 3) := by decide +kernel
theorem dX6_addPart_36 : decode cX6_addPart 36 = .ok (.athrow, 1) := by decide +kernel
theorem dX6_addPart_37 : decode cX6_addPart 37 = .ok (.aload 7, 2) := by decide +kernel
theorem dX6_addPart_39 : decode cX6_addPart 39 = .ok (.iload 4, 2) := by decide +kernel
theorem dX6_addPart_41 : decode cX6_addPart 41 = .ok (.invokestatic 72, 3) := by decide +kernel
set_option maxRecDepth 20000 in
theorem ggX6_removePart_X6_circuitAt : GoodIn wsX6_removePart wsX6_circuitAt := goodIn_ca (goodIn_r _ [5, 6, 7, 8, 9, 4, 10, 11, 12, 53, 54, 55, 56, 57, 58, 59, 60, 61] (by decide +kernel) (by decide +kernel)) (goodIn_sub (fun _ h => List.mem_cons_of_mem _ (List.mem_append_left _ (List.mem_append_right _ h))) (by decide +kernel))
set_option maxRecDepth 20000 in
theorem gX6_removePart_X6_circuitAt : GoodIn wsX6_removePart (wsV RX6 45 RX6 yX6_circuitAt wsX6_circuitAt) := goodIn_app (goodIn_of _ (by decide +kernel)) ggX6_removePart_X6_circuitAt
set_option maxRecDepth 20000 in
theorem ggX6_removePart_X6_requirePart : GoodIn wsX6_removePart wsX6_requirePart := goodIn_ca (goodIn_r _ [15, 16, 17, 18, 19, 20, 21, 22, 23, 24, 25, 26, 27, 28, 29, 30, 42, 43, 44, 45, 46, 47, 48, 49, 50, 51, 52] (by decide +kernel) (by decide +kernel)) (goodIn_sub (fun _ h => List.mem_cons_of_mem _ (List.mem_append_right _ h)) (by decide +kernel))
set_option maxRecDepth 20000 in
theorem gX6_removePart_X6_requirePart : GoodIn wsX6_removePart (va_wsS RX6 115 yX6_requirePart wsX6_requirePart) := goodIn_app (goodIn_of _ (by decide +kernel)) ggX6_removePart_X6_requirePart
theorem dX6_removePart_0 : decode cX6_removePart 0 = .ok (.aload_n 0, 1) := by decide +kernel
theorem dX6_removePart_1 : decode cX6_removePart 1 = .ok (.iload_n 1, 1) := by decide +kernel
theorem dX6_removePart_2 : decode cX6_removePart 2 = .ok (.invokevirtual 45, 3) := by decide +kernel
theorem dX6_removePart_5 : decode cX6_removePart 5 = .ok (.astore_n 3, 1) := by decide +kernel
theorem dX6_removePart_6 : decode cX6_removePart 6 = .ok (.aload_n 3, 1) := by decide +kernel
theorem dX6_removePart_7 : decode cX6_removePart 7 = .ok (.iload_n 2, 1) := by decide +kernel
theorem dX6_removePart_8 : decode cX6_removePart 8 = .ok (.invokestatic 115, 3) := by decide +kernel
set_option maxRecDepth 20000 in
theorem ggX6_setValue_X6_circuitAt : GoodIn wsX6_setValue wsX6_circuitAt := goodIn_ca (goodIn_r _ [5, 6, 7, 8, 9, 4, 10, 11, 12, 52, 53, 54, 55, 56, 57, 58, 59, 60] (by decide +kernel) (by decide +kernel)) (goodIn_sub (fun _ h => List.mem_cons_of_mem _ (List.mem_append_left _ (List.mem_append_right _ h))) (by decide +kernel))
set_option maxRecDepth 20000 in
theorem gX6_setValue_X6_circuitAt : GoodIn wsX6_setValue (wsV RX6 45 RX6 yX6_circuitAt wsX6_circuitAt) := goodIn_app (goodIn_of _ (by decide +kernel)) ggX6_setValue_X6_circuitAt
set_option maxRecDepth 20000 in
theorem ggX6_setValue_X6_requireValue : GoodIn wsX6_setValue wsX6_requireValue := goodIn_ca (goodIn_r _ [15, 11, 12] (by decide +kernel) (by decide +kernel)) (goodIn_sub (fun _ h => List.mem_cons_of_mem _ (List.mem_append_left _ (List.mem_append_right _ h))) (by decide +kernel))
set_option maxRecDepth 20000 in
theorem gX6_setValue_X6_requireValue : GoodIn wsX6_setValue (va_wsS RX6 90 yX6_requireValue wsX6_requireValue) := goodIn_app (goodIn_of _ (by decide +kernel)) ggX6_setValue_X6_requireValue
set_option maxRecDepth 20000 in
theorem ggX6_setValue_X6_requirePart : GoodIn wsX6_setValue wsX6_requirePart := goodIn_ca (goodIn_r _ [18, 19, 20, 21, 22, 23, 24, 25, 26, 27, 28, 29, 30, 31, 32, 33, 41, 42, 43, 44, 45, 46, 47, 48, 49, 50, 51] (by decide +kernel) (by decide +kernel)) (goodIn_sub (fun _ h => List.mem_cons_of_mem _ (List.mem_append_right _ h)) (by decide +kernel))
set_option maxRecDepth 20000 in
theorem gX6_setValue_X6_requirePart : GoodIn wsX6_setValue (va_wsS RX6 115 yX6_requirePart wsX6_requirePart) := goodIn_app (goodIn_of _ (by decide +kernel)) ggX6_setValue_X6_requirePart
theorem dX6_setValue_0 : decode cX6_setValue 0 = .ok (.aload_n 0, 1) := by decide +kernel
theorem dX6_setValue_1 : decode cX6_setValue 1 = .ok (.iload_n 1, 1) := by decide +kernel
theorem dX6_setValue_2 : decode cX6_setValue 2 = .ok (.invokevirtual 45, 3) := by decide +kernel
theorem dX6_setValue_5 : decode cX6_setValue 5 = .ok (.astore 4, 2) := by decide +kernel
theorem dX6_setValue_7 : decode cX6_setValue 7 = .ok (.iload_n 3, 1) := by decide +kernel
theorem dX6_setValue_8 : decode cX6_setValue 8 = .ok (.invokestatic 90, 3) := by decide +kernel
theorem dX6_setValue_11 : decode cX6_setValue 11 = .ok (.aload 4, 2) := by decide +kernel
theorem dX6_setValue_13 : decode cX6_setValue 13 = .ok (.iload_n 2, 1) := by decide +kernel
theorem dX6_setValue_14 : decode cX6_setValue 14 = .ok (.invokestatic 115, 3) := by decide +kernel
set_option maxRecDepth 20000 in
theorem ggX6_rewire_X6_circuitAt : GoodIn wsX6_rewire wsX6_circuitAt := goodIn_ca (goodIn_r _ [7, 8, 9, 10, 11, 6, 12, 13, 14, 61, 62, 63, 64, 65, 66, 67, 68, 69] (by decide +kernel) (by decide +kernel)) (goodIn_sub (fun _ h => List.mem_cons_of_mem _ (List.mem_append_left _ (List.mem_append_left _ (List.mem_append_right _ h)))) (by decide +kernel))
set_option maxRecDepth 20000 in
theorem gX6_rewire_X6_circuitAt : GoodIn wsX6_rewire (wsV RX6 45 RX6 yX6_circuitAt wsX6_circuitAt) := goodIn_app (goodIn_of _ (by decide +kernel)) ggX6_rewire_X6_circuitAt
set_option maxRecDepth 20000 in
theorem ggX6_rewire_X6_requirePart : GoodIn wsX6_rewire wsX6_requirePart := goodIn_ca (goodIn_r _ [17, 18, 19, 20, 21, 22, 23, 24, 25, 26, 27, 28, 29, 30, 31, 32, 50, 51, 52, 53, 54, 55, 56, 57, 58, 59, 60] (by decide +kernel) (by decide +kernel)) (goodIn_sub (fun _ h => List.mem_cons_of_mem _ (List.mem_append_left _ (List.mem_append_right _ h))) (by decide +kernel))
set_option maxRecDepth 20000 in
theorem gX6_rewire_X6_requirePart : GoodIn wsX6_rewire (va_wsS RX6 115 yX6_requirePart wsX6_requirePart) := goodIn_app (goodIn_of _ (by decide +kernel)) ggX6_rewire_X6_requirePart
theorem dX6_rewire_0 : decode cX6_rewire 0 = .ok (.aload_n 0, 1) := by decide +kernel
theorem dX6_rewire_1 : decode cX6_rewire 1 = .ok (.iload_n 1, 1) := by decide +kernel
theorem dX6_rewire_2 : decode cX6_rewire 2 = .ok (.invokevirtual 45, 3) := by decide +kernel
theorem dX6_rewire_5 : decode cX6_rewire 5 = .ok (.astore 5, 2) := by decide +kernel
theorem dX6_rewire_7 : decode cX6_rewire 7 = .ok (.aload 5, 2) := by decide +kernel
theorem dX6_rewire_9 : decode cX6_rewire 9 = .ok (.iload_n 2, 1) := by decide +kernel
theorem dX6_rewire_10 : decode cX6_rewire 10 = .ok (.invokestatic 115, 3) := by decide +kernel
set_option maxRecDepth 20000 in
theorem ggX6_swapPins_X6_circuitAt : GoodIn wsX6_swapPins wsX6_circuitAt := goodIn_ca (goodIn_r _ [7, 8, 9, 10, 11, 6, 12, 13, 14, 56, 57, 58, 59, 60, 61, 62, 63, 64] (by decide +kernel) (by decide +kernel)) (goodIn_sub (fun _ h => List.mem_cons_of_mem _ (List.mem_append_left _ (List.mem_append_left _ (List.mem_append_right _ h)))) (by decide +kernel))
set_option maxRecDepth 20000 in
theorem gX6_swapPins_X6_circuitAt : GoodIn wsX6_swapPins (wsV RX6 45 RX6 yX6_circuitAt wsX6_circuitAt) := goodIn_app (goodIn_of _ (by decide +kernel)) ggX6_swapPins_X6_circuitAt
set_option maxRecDepth 20000 in
theorem ggX6_swapPins_X6_requirePart : GoodIn wsX6_swapPins wsX6_requirePart := goodIn_ca (goodIn_r _ [17, 18, 19, 20, 21, 22, 23, 24, 25, 26, 27, 28, 29, 30, 31, 32, 51, 52, 53, 54, 55, 65, 66, 67, 68, 69, 70] (by decide +kernel) (by decide +kernel)) (goodIn_sub (fun _ h => List.mem_cons_of_mem _ (List.mem_append_left _ (List.mem_append_right _ h))) (by decide +kernel))
set_option maxRecDepth 20000 in
theorem gX6_swapPins_X6_requirePart : GoodIn wsX6_swapPins (va_wsS RX6 115 yX6_requirePart wsX6_requirePart) := goodIn_app (goodIn_of _ (by decide +kernel)) ggX6_swapPins_X6_requirePart
theorem dX6_swapPins_0 : decode cX6_swapPins 0 = .ok (.aload_n 0, 1) := by decide +kernel
theorem dX6_swapPins_1 : decode cX6_swapPins 1 = .ok (.iload_n 1, 1) := by decide +kernel
theorem dX6_swapPins_2 : decode cX6_swapPins 2 = .ok (.invokevirtual 45, 3) := by decide +kernel
theorem dX6_swapPins_5 : decode cX6_swapPins 5 = .ok (.astore_n 3, 1) := by decide +kernel
theorem dX6_swapPins_6 : decode cX6_swapPins 6 = .ok (.aload_n 3, 1) := by decide +kernel
theorem dX6_swapPins_7 : decode cX6_swapPins 7 = .ok (.iload_n 2, 1) := by decide +kernel
theorem dX6_swapPins_8 : decode cX6_swapPins 8 = .ok (.invokestatic 115, 3) := by decide +kernel
set_option maxRecDepth 20000 in
theorem ggX6_copyWished_X6_forget : GoodIn wsX6_copyWished wsX6_forget := goodIn_r _ [7, 8, 9, 10, 43, 44, 45, 46, 47, 48, 49, 50, 51] (by decide +kernel) (by decide +kernel)
set_option maxRecDepth 20000 in
theorem gX6_copyWished_X6_forget : GoodIn wsX6_copyWished (wsV RX6 60 RX6 yX6_forget wsX6_forget) := goodIn_app (goodIn_of _ (by decide +kernel)) ggX6_copyWished_X6_forget
set_option maxRecDepth 20000 in
theorem ggX6_copyWished_X0_copyFrom : GoodIn wsX6_copyWished wsX0_copyFrom := goodIn_r _ [15, 16, 17, 18, 19, 20, 21, 22, 23, 24, 25, 26, 27, 28, 29, 30, 31, 32, 33, 34, 52, 53, 54, 55, 56, 57, 58, 59, 60, 61, 62] (by decide +kernel) (by decide +kernel)
set_option maxRecDepth 20000 in
theorem gX6_copyWished_X0_copyFrom : GoodIn wsX6_copyWished (wsV RX6 146 RX0 yX0_copyFrom wsX0_copyFrom) := goodIn_app (goodIn_of _ (by decide +kernel)) ggX6_copyWished_X0_copyFrom
set_option maxRecDepth 20000 in
theorem ggX6_copyWished_X0_countParts : GoodIn wsX6_copyWished wsX0_countParts := goodIn_r _ [38, 17, 23, 39, 40, 41, 27, 42, 30, 52, 53, 54, 55, 56, 57, 58, 59, 60, 61, 62] (by decide +kernel) (by decide +kernel)
set_option maxRecDepth 20000 in
theorem gX6_copyWished_X0_countParts : GoodIn wsX6_copyWished (wsV RX6 121 RX0 yX0_countParts wsX0_countParts) := goodIn_app (goodIn_of _ (by decide +kernel)) ggX6_copyWished_X0_countParts
theorem dX6_copyWished_0 : decode cX6_copyWished 0 = .ok (.aload_n 0, 1) := by decide +kernel
theorem dX6_copyWished_1 : decode cX6_copyWished 1 = .ok (.invokevirtual 60, 3) := by decide +kernel
theorem dX6_copyWished_4 : decode cX6_copyWished 4 = .ok (.aload_n 0, 1) := by decide +kernel
theorem dX6_copyWished_5 : decode cX6_copyWished 5 = .ok (.getfield 16, 3) := by decide +kernel
theorem dX6_copyWished_8 : decode cX6_copyWished 8 = .ok (.aload_n 0, 1) := by decide +kernel
theorem dX6_copyWished_9 : decode cX6_copyWished 9 = .ok (.getfield 10, 3) := by decide +kernel
theorem dX6_copyWished_12 : decode cX6_copyWished 12 = .ok (.invokevirtual 146, 3) := by decide +kernel
theorem dX6_copyWished_15 : decode cX6_copyWished 15 = .ok (.aload_n 0, 1) := by decide +kernel
theorem dX6_copyWished_16 : decode cX6_copyWished 16 = .ok (.getfield 16, 3) := by decide +kernel
theorem dX6_copyWished_19 : decode cX6_copyWished 19 = .ok (.invokevirtual 121, 3) := by decide +kernel
theorem dX6_copyWished_22 : decode cX6_copyWished 22 = .ok (.ireturn, 1) := by decide +kernel
set_option maxRecDepth 20000 in
theorem ggX6_canJoin_X6_circuitAt : GoodIn wsX6_canJoin wsX6_circuitAt := goodIn_ca (goodIn_r _ [5, 6, 7, 8, 9, 4, 10, 11, 12, 63, 64, 65, 66, 67, 68, 69, 70, 71] (by decide +kernel) (by decide +kernel)) (goodIn_sub (fun _ h => List.mem_cons_of_mem _ (List.mem_append_left _ (List.mem_append_left _ (List.mem_append_right _ h)))) (by decide +kernel))
set_option maxRecDepth 20000 in
theorem gX6_canJoin_X6_circuitAt : GoodIn wsX6_canJoin (wsV RX6 45 RX6 yX6_circuitAt wsX6_circuitAt) := goodIn_app (goodIn_of _ (by decide +kernel)) ggX6_canJoin_X6_circuitAt
set_option maxRecDepth 20000 in
theorem ggX6_canJoin_X6_requirePart : GoodIn wsX6_canJoin wsX6_requirePart := goodIn_ca (goodIn_r _ [15, 16, 17, 18, 19, 20, 21, 22, 23, 24, 25, 26, 27, 28, 29, 30, 72, 73, 74, 75, 76, 77, 78, 79, 80, 81, 82] (by decide +kernel) (by decide +kernel)) (goodIn_sub (fun _ h => List.mem_cons_of_mem _ (List.mem_append_left _ (List.mem_append_right _ h))) (by decide +kernel))
set_option maxRecDepth 20000 in
theorem gX6_canJoin_X6_requirePart : GoodIn wsX6_canJoin (va_wsS RX6 115 yX6_requirePart wsX6_requirePart) := goodIn_app (goodIn_of _ (by decide +kernel)) ggX6_canJoin_X6_requirePart
theorem dX6_canJoin_0 : decode cX6_canJoin 0 = .ok (.aload_n 0, 1) := by decide +kernel
theorem dX6_canJoin_1 : decode cX6_canJoin 1 = .ok (.iload_n 1, 1) := by decide +kernel
theorem dX6_canJoin_2 : decode cX6_canJoin 2 = .ok (.invokevirtual 45, 3) := by decide +kernel
theorem dX6_canJoin_5 : decode cX6_canJoin 5 = .ok (.astore 4, 2) := by decide +kernel
theorem dX6_canJoin_7 : decode cX6_canJoin 7 = .ok (.aload 4, 2) := by decide +kernel
theorem dX6_canJoin_9 : decode cX6_canJoin 9 = .ok (.iload_n 2, 1) := by decide +kernel
theorem dX6_canJoin_10 : decode cX6_canJoin 10 = .ok (.invokestatic 115, 3) := by decide +kernel
set_option maxRecDepth 20000 in
theorem ggX6_join_X6_circuitAt : GoodIn wsX6_join wsX6_circuitAt := goodIn_ca (goodIn_r _ [14, 15, 16, 17, 18, 13, 19, 20, 21, 88, 89, 90, 91, 92, 93, 94, 95, 96] (by decide +kernel) (by decide +kernel)) (goodIn_sub (fun _ h => List.mem_cons_of_mem _ (List.mem_append_left _ (List.mem_append_left _ (List.mem_append_left _ (List.mem_append_right _ h))))) (by decide +kernel))
set_option maxRecDepth 20000 in
theorem gX6_join_X6_circuitAt : GoodIn wsX6_join (wsV RX6 45 RX6 yX6_circuitAt wsX6_circuitAt) := goodIn_app (goodIn_of _ (by decide +kernel)) ggX6_join_X6_circuitAt
set_option maxRecDepth 20000 in
theorem ggX6_join_X6_requirePart : GoodIn wsX6_join wsX6_requirePart := goodIn_ca (goodIn_r _ [24, 25, 26, 27, 28, 29, 30, 31, 32, 33, 34, 35, 36, 37, 38, 39, 97, 98, 99, 100, 101, 102, 103, 104, 105, 106, 107] (by decide +kernel) (by decide +kernel)) (goodIn_sub (fun _ h => List.mem_cons_of_mem _ (List.mem_append_left _ (List.mem_append_left _ (List.mem_append_right _ h)))) (by decide +kernel))
set_option maxRecDepth 20000 in
theorem gX6_join_X6_requirePart : GoodIn wsX6_join (va_wsS RX6 115 yX6_requirePart wsX6_requirePart) := goodIn_app (goodIn_of _ (by decide +kernel)) ggX6_join_X6_requirePart
theorem dX6_join_0 : decode cX6_join 0 = .ok (.aload_n 0, 1) := by decide +kernel
theorem dX6_join_1 : decode cX6_join 1 = .ok (.iload_n 1, 1) := by decide +kernel
theorem dX6_join_2 : decode cX6_join 2 = .ok (.invokevirtual 45, 3) := by decide +kernel
theorem dX6_join_5 : decode cX6_join 5 = .ok (.astore 4, 2) := by decide +kernel
theorem dX6_join_7 : decode cX6_join 7 = .ok (.aload 4, 2) := by decide +kernel
theorem dX6_join_9 : decode cX6_join 9 = .ok (.iload_n 2, 1) := by decide +kernel
theorem dX6_join_10 : decode cX6_join 10 = .ok (.invokestatic 115, 3) := by decide +kernel
set_option maxRecDepth 20000 in
theorem ggX6_joinAll_X6_circuitAt : GoodIn wsX6_joinAll wsX6_circuitAt := goodIn_ca (goodIn_r _ [5, 6, 7, 8, 9, 4, 10, 11, 12, 87, 88, 89, 90, 91, 92, 93, 94, 95] (by decide +kernel) (by decide +kernel)) (goodIn_sub (fun _ h => List.mem_cons_of_mem _ (List.mem_append_left _ (List.mem_append_left _ (List.mem_append_right _ h)))) (by decide +kernel))
set_option maxRecDepth 20000 in
theorem gX6_joinAll_X6_circuitAt : GoodIn wsX6_joinAll (wsV RX6 45 RX6 yX6_circuitAt wsX6_circuitAt) := goodIn_app (goodIn_of _ (by decide +kernel)) ggX6_joinAll_X6_circuitAt
set_option maxRecDepth 20000 in
theorem ggX6_joinAll_X6_forget : GoodIn wsX6_joinAll wsX6_forget := goodIn_r _ [16, 17, 18, 19, 87, 88, 89, 90, 91, 92, 93, 94, 95] (by decide +kernel) (by decide +kernel)
set_option maxRecDepth 20000 in
theorem gX6_joinAll_X6_forget : GoodIn wsX6_joinAll (wsV RX6 60 RX6 yX6_forget wsX6_forget) := goodIn_app (goodIn_of _ (by decide +kernel)) ggX6_joinAll_X6_forget
set_option maxRecDepth 20000 in
theorem ggX6_joinAll_X0_joinWhilePossible : GoodIn wsX6_joinAll wsX0_joinWhilePossible := goodIn_ca (goodIn_ca (goodIn_r _ [24, 25, 26, 27, 23, 28, 29, 30, 31, 32, 33, 34, 35, 36, 37, 38, 39, 40, 41, 42, 43, 44, 45, 46, 47, 48, 49, 50, 51, 52, 53, 54, 55, 56, 57, 58, 59, 60, 61, 62, 63, 64, 65, 66, 67, 68, 69, 70, 71, 72, 73, 74, 75, 76, 77, 78, 79, 80, 81, 82, 83, 84, 85, 86, 96, 97, 98, 99, 100, 101, 102, 103, 104, 105, 106] (by decide +kernel) (by decide +kernel)) (goodIn_sub (fun _ h => List.mem_cons_of_mem _ (List.mem_append_left _ (List.mem_append_right _ h))) (by decide +kernel))) (goodIn_sub (fun _ h => List.mem_cons_of_mem _ (List.mem_append_right _ h)) (by decide +kernel))
set_option maxRecDepth 20000 in
theorem gX6_joinAll_X0_joinWhilePossible : GoodIn wsX6_joinAll (wsV RX6 168 RX0 yX0_joinWhilePossible wsX0_joinWhilePossible) := goodIn_app (goodIn_of _ (by decide +kernel)) ggX6_joinAll_X0_joinWhilePossible
theorem dX6_joinAll_0 : decode cX6_joinAll 0 = .ok (.aload_n 0, 1) := by decide +kernel
theorem dX6_joinAll_1 : decode cX6_joinAll 1 = .ok (.iload_n 1, 1) := by decide +kernel
theorem dX6_joinAll_2 : decode cX6_joinAll 2 = .ok (.invokevirtual 45, 3) := by decide +kernel
theorem dX6_joinAll_5 : decode cX6_joinAll 5 = .ok (.astore_n 2, 1) := by decide +kernel
theorem dX6_joinAll_6 : decode cX6_joinAll 6 = .ok (.aload_n 0, 1) := by decide +kernel
theorem dX6_joinAll_7 : decode cX6_joinAll 7 = .ok (.invokevirtual 60, 3) := by decide +kernel
theorem dX6_joinAll_10 : decode cX6_joinAll 10 = .ok (.aload_n 2, 1) := by decide +kernel
theorem dX6_joinAll_11 : decode cX6_joinAll 11 = .ok (.invokevirtual 168, 3) := by decide +kernel
theorem dX6_joinAll_14 : decode cX6_joinAll 14 = .ok (.ireturn, 1) := by decide +kernel
set_option maxRecDepth 20000 in
theorem ggX6_nets_X6_circuitAt : GoodIn wsX6_nets wsX6_circuitAt := goodIn_ca (goodIn_r _ [5, 6, 7, 8, 9, 4, 10, 11, 12, 18, 19, 20, 21, 22, 23, 24, 25, 26] (by decide +kernel) (by decide +kernel)) (goodIn_sub (fun _ h => List.mem_cons_of_mem _ (List.mem_append_right _ h)) (by decide +kernel))
set_option maxRecDepth 20000 in
theorem gX6_nets_X6_circuitAt : GoodIn wsX6_nets (wsV RX6 45 RX6 yX6_circuitAt wsX6_circuitAt) := goodIn_app (goodIn_of _ (by decide +kernel)) ggX6_nets_X6_circuitAt
theorem dX6_nets_0 : decode cX6_nets 0 = .ok (.aload_n 0, 1) := by decide +kernel
theorem dX6_nets_1 : decode cX6_nets 1 = .ok (.iload_n 1, 1) := by decide +kernel
theorem dX6_nets_2 : decode cX6_nets 2 = .ok (.invokevirtual 45, 3) := by decide +kernel
theorem dX6_nets_5 : decode cX6_nets 5 = .ok (.getfield 49, 3) := by decide +kernel
theorem dX6_nets_8 : decode cX6_nets 8 = .ok (.ireturn, 1) := by decide +kernel
set_option maxRecDepth 20000 in
theorem ggX6_parts_X6_circuitAt : GoodIn wsX6_parts wsX6_circuitAt := goodIn_ca (goodIn_r _ [5, 6, 7, 8, 9, 4, 10, 11, 12, 26, 27, 28, 29, 30, 31, 32, 33, 34] (by decide +kernel) (by decide +kernel)) (goodIn_sub (fun _ h => List.mem_cons_of_mem _ (List.mem_append_right _ h)) (by decide +kernel))
set_option maxRecDepth 20000 in
theorem gX6_parts_X6_circuitAt : GoodIn wsX6_parts (wsV RX6 45 RX6 yX6_circuitAt wsX6_circuitAt) := goodIn_app (goodIn_of _ (by decide +kernel)) ggX6_parts_X6_circuitAt
set_option maxRecDepth 20000 in
theorem ggX6_parts_X0_countParts : GoodIn wsX6_parts wsX0_countParts := goodIn_r _ [17, 18, 19, 20, 21, 22, 23, 24, 25, 35, 36, 37, 38, 39, 40, 41, 42, 43, 44, 45] (by decide +kernel) (by decide +kernel)
set_option maxRecDepth 20000 in
theorem gX6_parts_X0_countParts : GoodIn wsX6_parts (wsV RX6 121 RX0 yX0_countParts wsX0_countParts) := goodIn_app (goodIn_of _ (by decide +kernel)) ggX6_parts_X0_countParts
theorem dX6_parts_0 : decode cX6_parts 0 = .ok (.aload_n 0, 1) := by decide +kernel
theorem dX6_parts_1 : decode cX6_parts 1 = .ok (.iload_n 1, 1) := by decide +kernel
theorem dX6_parts_2 : decode cX6_parts 2 = .ok (.invokevirtual 45, 3) := by decide +kernel
theorem dX6_parts_5 : decode cX6_parts 5 = .ok (.invokevirtual 121, 3) := by decide +kernel
theorem dX6_parts_8 : decode cX6_parts 8 = .ok (.ireturn, 1) := by decide +kernel
set_option maxRecDepth 20000 in
theorem ggX6_kindOf_X6_circuitAt : GoodIn wsX6_kindOf wsX6_circuitAt := goodIn_ca (goodIn_r _ [5, 6, 7, 8, 9, 4, 10, 11, 12, 42, 43, 44, 45, 46, 47, 48, 49, 50] (by decide +kernel) (by decide +kernel)) (goodIn_sub (fun _ h => List.mem_cons_of_mem _ (List.mem_append_left _ (List.mem_append_right _ h))) (by decide +kernel))
set_option maxRecDepth 20000 in
theorem gX6_kindOf_X6_circuitAt : GoodIn wsX6_kindOf (wsV RX6 45 RX6 yX6_circuitAt wsX6_circuitAt) := goodIn_app (goodIn_of _ (by decide +kernel)) ggX6_kindOf_X6_circuitAt
set_option maxRecDepth 20000 in
theorem ggX6_kindOf_X6_requirePart : GoodIn wsX6_kindOf wsX6_requirePart := goodIn_ca (goodIn_r _ [15, 16, 17, 18, 19, 20, 21, 22, 23, 24, 25, 26, 27, 28, 29, 30, 31, 32, 33, 34, 35, 36, 37, 38, 39, 40, 41] (by decide +kernel) (by decide +kernel)) (goodIn_sub (fun _ h => List.mem_cons_of_mem _ (List.mem_append_right _ h)) (by decide +kernel))
set_option maxRecDepth 20000 in
theorem gX6_kindOf_X6_requirePart : GoodIn wsX6_kindOf (va_wsS RX6 115 yX6_requirePart wsX6_requirePart) := goodIn_app (goodIn_of _ (by decide +kernel)) ggX6_kindOf_X6_requirePart
theorem dX6_kindOf_0 : decode cX6_kindOf 0 = .ok (.aload_n 0, 1) := by decide +kernel
theorem dX6_kindOf_1 : decode cX6_kindOf 1 = .ok (.iload_n 1, 1) := by decide +kernel
theorem dX6_kindOf_2 : decode cX6_kindOf 2 = .ok (.invokevirtual 45, 3) := by decide +kernel
theorem dX6_kindOf_5 : decode cX6_kindOf 5 = .ok (.astore_n 3, 1) := by decide +kernel
theorem dX6_kindOf_6 : decode cX6_kindOf 6 = .ok (.aload_n 3, 1) := by decide +kernel
theorem dX6_kindOf_7 : decode cX6_kindOf 7 = .ok (.iload_n 2, 1) := by decide +kernel
theorem dX6_kindOf_8 : decode cX6_kindOf 8 = .ok (.invokestatic 115, 3) := by decide +kernel
set_option maxRecDepth 20000 in
theorem ggX6_valueOf_X6_circuitAt : GoodIn wsX6_valueOf wsX6_circuitAt := goodIn_ca (goodIn_r _ [5, 6, 7, 8, 9, 4, 10, 11, 12, 42, 43, 44, 45, 46, 47, 48, 49, 50] (by decide +kernel) (by decide +kernel)) (goodIn_sub (fun _ h => List.mem_cons_of_mem _ (List.mem_append_left _ (List.mem_append_right _ h))) (by decide +kernel))
set_option maxRecDepth 20000 in
theorem gX6_valueOf_X6_circuitAt : GoodIn wsX6_valueOf (wsV RX6 45 RX6 yX6_circuitAt wsX6_circuitAt) := goodIn_app (goodIn_of _ (by decide +kernel)) ggX6_valueOf_X6_circuitAt
set_option maxRecDepth 20000 in
theorem ggX6_valueOf_X6_requirePart : GoodIn wsX6_valueOf wsX6_requirePart := goodIn_ca (goodIn_r _ [15, 16, 17, 18, 19, 20, 21, 22, 23, 24, 25, 26, 27, 28, 29, 30, 31, 32, 33, 34, 35, 36, 37, 38, 39, 40, 41] (by decide +kernel) (by decide +kernel)) (goodIn_sub (fun _ h => List.mem_cons_of_mem _ (List.mem_append_right _ h)) (by decide +kernel))
set_option maxRecDepth 20000 in
theorem gX6_valueOf_X6_requirePart : GoodIn wsX6_valueOf (va_wsS RX6 115 yX6_requirePart wsX6_requirePart) := goodIn_app (goodIn_of _ (by decide +kernel)) ggX6_valueOf_X6_requirePart
theorem dX6_valueOf_0 : decode cX6_valueOf 0 = .ok (.aload_n 0, 1) := by decide +kernel
theorem dX6_valueOf_1 : decode cX6_valueOf 1 = .ok (.iload_n 1, 1) := by decide +kernel
theorem dX6_valueOf_2 : decode cX6_valueOf 2 = .ok (.invokevirtual 45, 3) := by decide +kernel
theorem dX6_valueOf_5 : decode cX6_valueOf 5 = .ok (.astore_n 3, 1) := by decide +kernel
theorem dX6_valueOf_6 : decode cX6_valueOf 6 = .ok (.aload_n 3, 1) := by decide +kernel
theorem dX6_valueOf_7 : decode cX6_valueOf 7 = .ok (.iload_n 2, 1) := by decide +kernel
theorem dX6_valueOf_8 : decode cX6_valueOf 8 = .ok (.invokestatic 115, 3) := by decide +kernel
set_option maxRecDepth 20000 in
theorem ggX6_netOf_X6_circuitAt : GoodIn wsX6_netOf wsX6_circuitAt := goodIn_ca (goodIn_r _ [5, 6, 7, 8, 9, 4, 10, 11, 12, 47, 48, 49, 50, 51, 52, 53, 54, 55] (by decide +kernel) (by decide +kernel)) (goodIn_sub (fun _ h => List.mem_cons_of_mem _ (List.mem_append_left _ (List.mem_append_left _ (List.mem_append_right _ h)))) (by decide +kernel))
set_option maxRecDepth 20000 in
theorem gX6_netOf_X6_circuitAt : GoodIn wsX6_netOf (wsV RX6 45 RX6 yX6_circuitAt wsX6_circuitAt) := goodIn_app (goodIn_of _ (by decide +kernel)) ggX6_netOf_X6_circuitAt
set_option maxRecDepth 20000 in
theorem ggX6_netOf_X6_requirePart : GoodIn wsX6_netOf wsX6_requirePart := goodIn_ca (goodIn_r _ [15, 16, 17, 18, 19, 20, 21, 22, 23, 24, 25, 26, 27, 28, 29, 30, 36, 37, 38, 39, 40, 41, 42, 43, 44, 45, 46] (by decide +kernel) (by decide +kernel)) (goodIn_sub (fun _ h => List.mem_cons_of_mem _ (List.mem_append_left _ (List.mem_append_right _ h))) (by decide +kernel))
set_option maxRecDepth 20000 in
theorem gX6_netOf_X6_requirePart : GoodIn wsX6_netOf (va_wsS RX6 115 yX6_requirePart wsX6_requirePart) := goodIn_app (goodIn_of _ (by decide +kernel)) ggX6_netOf_X6_requirePart
theorem dX6_netOf_0 : decode cX6_netOf 0 = .ok (.aload_n 0, 1) := by decide +kernel
theorem dX6_netOf_1 : decode cX6_netOf 1 = .ok (.iload_n 1, 1) := by decide +kernel
theorem dX6_netOf_2 : decode cX6_netOf 2 = .ok (.invokevirtual 45, 3) := by decide +kernel
theorem dX6_netOf_5 : decode cX6_netOf 5 = .ok (.astore 4, 2) := by decide +kernel
theorem dX6_netOf_7 : decode cX6_netOf 7 = .ok (.aload 4, 2) := by decide +kernel
theorem dX6_netOf_9 : decode cX6_netOf 9 = .ok (.iload_n 2, 1) := by decide +kernel
theorem dX6_netOf_10 : decode cX6_netOf 10 = .ok (.invokestatic 115, 3) := by decide +kernel
set_option maxRecDepth 20000 in
theorem ggX6_pinsOn_X6_circuitAt : GoodIn wsX6_pinsOn wsX6_circuitAt := goodIn_ca (goodIn_r _ [5, 6, 7, 8, 9, 4, 10, 11, 12, 42, 43, 44, 45, 46, 47, 48, 49, 50] (by decide +kernel) (by decide +kernel)) (goodIn_sub (fun _ h => List.mem_cons_of_mem _ (List.mem_append_left _ (List.mem_append_left _ (List.mem_append_right _ h)))) (by decide +kernel))
set_option maxRecDepth 20000 in
theorem gX6_pinsOn_X6_circuitAt : GoodIn wsX6_pinsOn (wsV RX6 45 RX6 yX6_circuitAt wsX6_circuitAt) := goodIn_app (goodIn_of _ (by decide +kernel)) ggX6_pinsOn_X6_circuitAt
set_option maxRecDepth 20000 in
theorem ggX6_pinsOn_X6_requireNet : GoodIn wsX6_pinsOn wsX6_requireNet := goodIn_ca (goodIn_r _ [15, 16, 17, 18, 19, 20, 21, 22, 23, 51, 52, 53, 54, 55] (by decide +kernel) (by decide +kernel)) (goodIn_sub (fun _ h => List.mem_cons_of_mem _ (List.mem_append_left _ (List.mem_append_right _ h))) (by decide +kernel))
set_option maxRecDepth 20000 in
theorem gX6_pinsOn_X6_requireNet : GoodIn wsX6_pinsOn (va_wsS RX6 72 yX6_requireNet wsX6_requireNet) := goodIn_app (goodIn_of _ (by decide +kernel)) ggX6_pinsOn_X6_requireNet
theorem dX6_pinsOn_0 : decode cX6_pinsOn 0 = .ok (.aload_n 0, 1) := by decide +kernel
theorem dX6_pinsOn_1 : decode cX6_pinsOn 1 = .ok (.iload_n 1, 1) := by decide +kernel
theorem dX6_pinsOn_2 : decode cX6_pinsOn 2 = .ok (.invokevirtual 45, 3) := by decide +kernel
theorem dX6_pinsOn_5 : decode cX6_pinsOn 5 = .ok (.astore_n 3, 1) := by decide +kernel
theorem dX6_pinsOn_6 : decode cX6_pinsOn 6 = .ok (.aload_n 3, 1) := by decide +kernel
theorem dX6_pinsOn_7 : decode cX6_pinsOn 7 = .ok (.iload_n 2, 1) := by decide +kernel
theorem dX6_pinsOn_8 : decode cX6_pinsOn 8 = .ok (.invokestatic 72, 3) := by decide +kernel
set_option maxRecDepth 20000 in
theorem ggX6_portOf_X6_circuitAt : GoodIn wsX6_portOf wsX6_circuitAt := goodIn_ca (goodIn_r _ [5, 6, 7, 8, 9, 4, 10, 11, 12, 29, 30, 31, 32, 33, 34, 35, 36, 37] (by decide +kernel) (by decide +kernel)) (goodIn_sub (fun _ h => List.mem_cons_of_mem _ (List.mem_append_left _ (List.mem_append_right _ h))) (by decide +kernel))
set_option maxRecDepth 20000 in
theorem gX6_portOf_X6_circuitAt : GoodIn wsX6_portOf (wsV RX6 45 RX6 yX6_circuitAt wsX6_circuitAt) := goodIn_app (goodIn_of _ (by decide +kernel)) ggX6_portOf_X6_circuitAt
set_option maxRecDepth 20000 in
theorem ggX6_portOf_X6_requireNet : GoodIn wsX6_portOf wsX6_requireNet := goodIn_ca (goodIn_r _ [15, 16, 17, 18, 19, 20, 21, 22, 23, 24, 25, 26, 27, 28] (by decide +kernel) (by decide +kernel)) (goodIn_sub (fun _ h => List.mem_cons_of_mem _ (List.mem_append_right _ h)) (by decide +kernel))
set_option maxRecDepth 20000 in
theorem gX6_portOf_X6_requireNet : GoodIn wsX6_portOf (va_wsS RX6 72 yX6_requireNet wsX6_requireNet) := goodIn_app (goodIn_of _ (by decide +kernel)) ggX6_portOf_X6_requireNet
theorem dX6_portOf_0 : decode cX6_portOf 0 = .ok (.aload_n 0, 1) := by decide +kernel
theorem dX6_portOf_1 : decode cX6_portOf 1 = .ok (.iload_n 1, 1) := by decide +kernel
theorem dX6_portOf_2 : decode cX6_portOf 2 = .ok (.invokevirtual 45, 3) := by decide +kernel
theorem dX6_portOf_5 : decode cX6_portOf 5 = .ok (.astore_n 3, 1) := by decide +kernel
theorem dX6_portOf_6 : decode cX6_portOf 6 = .ok (.aload_n 3, 1) := by decide +kernel
theorem dX6_portOf_7 : decode cX6_portOf 7 = .ok (.iload_n 2, 1) := by decide +kernel
theorem dX6_portOf_8 : decode cX6_portOf 8 = .ok (.invokestatic 72, 3) := by decide +kernel
set_option maxRecDepth 20000 in
theorem ggX6_distance_X6_circuitAt : GoodIn wsX6_distance wsX6_circuitAt := goodIn_ca (goodIn_r _ [5, 6, 7, 8, 9, 4, 10, 11, 12, 55, 56, 57, 58, 59, 60, 61, 62, 63] (by decide +kernel) (by decide +kernel)) (goodIn_sub (fun _ h => List.mem_cons_of_mem _ (List.mem_append_left _ (List.mem_append_right _ h))) (by decide +kernel))
set_option maxRecDepth 20000 in
theorem gX6_distance_X6_circuitAt : GoodIn wsX6_distance (wsV RX6 45 RX6 yX6_circuitAt wsX6_circuitAt) := goodIn_app (goodIn_of _ (by decide +kernel)) ggX6_distance_X6_circuitAt
set_option maxRecDepth 20000 in
theorem ggX6_distance_X6_requireNet : GoodIn wsX6_distance wsX6_requireNet := goodIn_ca (goodIn_r _ [15, 16, 17, 18, 19, 20, 21, 22, 23, 50, 51, 52, 53, 54] (by decide +kernel) (by decide +kernel)) (goodIn_sub (fun _ h => List.mem_cons_of_mem _ (List.mem_append_right _ h)) (by decide +kernel))
set_option maxRecDepth 20000 in
theorem gX6_distance_X6_requireNet : GoodIn wsX6_distance (va_wsS RX6 72 yX6_requireNet wsX6_requireNet) := goodIn_app (goodIn_of _ (by decide +kernel)) ggX6_distance_X6_requireNet
theorem dX6_distance_0 : decode cX6_distance 0 = .ok (.aload_n 0, 1) := by decide +kernel
theorem dX6_distance_1 : decode cX6_distance 1 = .ok (.iload_n 1, 1) := by decide +kernel
theorem dX6_distance_2 : decode cX6_distance 2 = .ok (.invokevirtual 45, 3) := by decide +kernel
theorem dX6_distance_5 : decode cX6_distance 5 = .ok (.astore_n 3, 1) := by decide +kernel
theorem dX6_distance_6 : decode cX6_distance 6 = .ok (.aload_n 3, 1) := by decide +kernel
theorem dX6_distance_7 : decode cX6_distance 7 = .ok (.iload_n 2, 1) := by decide +kernel
theorem dX6_distance_8 : decode cX6_distance 8 = .ok (.invokestatic 72, 3) := by decide +kernel
set_option maxRecDepth 20000 in
theorem ggX6_labelLength_X6_circuitAt : GoodIn wsX6_labelLength wsX6_circuitAt := goodIn_ca (goodIn_r _ [5, 6, 7, 8, 9, 4, 10, 11, 12, 47, 48, 49, 50, 51, 52, 53, 54, 55] (by decide +kernel) (by decide +kernel)) (goodIn_sub (fun _ h => List.mem_cons_of_mem _ (List.mem_append_left _ (List.mem_append_left _ (List.mem_append_right _ h)))) (by decide +kernel))
set_option maxRecDepth 20000 in
theorem gX6_labelLength_X6_circuitAt : GoodIn wsX6_labelLength (wsV RX6 45 RX6 yX6_circuitAt wsX6_circuitAt) := goodIn_app (goodIn_of _ (by decide +kernel)) ggX6_labelLength_X6_circuitAt
set_option maxRecDepth 20000 in
theorem ggX6_labelLength_X6_requirePart : GoodIn wsX6_labelLength wsX6_requirePart := goodIn_ca (goodIn_r _ [15, 16, 17, 18, 19, 20, 21, 22, 23, 24, 25, 26, 27, 28, 29, 30, 42, 43, 44, 45, 46, 56, 57, 58, 59, 60, 61] (by decide +kernel) (by decide +kernel)) (goodIn_sub (fun _ h => List.mem_cons_of_mem _ (List.mem_append_left _ (List.mem_append_right _ h))) (by decide +kernel))
set_option maxRecDepth 20000 in
theorem gX6_labelLength_X6_requirePart : GoodIn wsX6_labelLength (va_wsS RX6 115 yX6_requirePart wsX6_requirePart) := goodIn_app (goodIn_of _ (by decide +kernel)) ggX6_labelLength_X6_requirePart
theorem dX6_labelLength_0 : decode cX6_labelLength 0 = .ok (.aload_n 0, 1) := by decide +kernel
theorem dX6_labelLength_1 : decode cX6_labelLength 1 = .ok (.iload_n 1, 1) := by decide +kernel
theorem dX6_labelLength_2 : decode cX6_labelLength 2 = .ok (.invokevirtual 45, 3) := by decide +kernel
theorem dX6_labelLength_5 : decode cX6_labelLength 5 = .ok (.astore_n 3, 1) := by decide +kernel
theorem dX6_labelLength_6 : decode cX6_labelLength 6 = .ok (.aload_n 3, 1) := by decide +kernel
theorem dX6_labelLength_7 : decode cX6_labelLength 7 = .ok (.iload_n 2, 1) := by decide +kernel
theorem dX6_labelLength_8 : decode cX6_labelLength 8 = .ok (.invokestatic 115, 3) := by decide +kernel
set_option maxRecDepth 20000 in
theorem ggX6_labelAt_X6_circuitAt : GoodIn wsX6_labelAt wsX6_circuitAt := goodIn_ca (goodIn_r _ [7, 8, 9, 10, 11, 6, 12, 13, 14, 55, 56, 57, 58, 59, 60, 61, 62, 63] (by decide +kernel) (by decide +kernel)) (goodIn_sub (fun _ h => List.mem_cons_of_mem _ (List.mem_append_left _ (List.mem_append_right _ h))) (by decide +kernel))
set_option maxRecDepth 20000 in
theorem gX6_labelAt_X6_circuitAt : GoodIn wsX6_labelAt (wsV RX6 45 RX6 yX6_circuitAt wsX6_circuitAt) := goodIn_app (goodIn_of _ (by decide +kernel)) ggX6_labelAt_X6_circuitAt
set_option maxRecDepth 20000 in
theorem ggX6_labelAt_X6_requirePart : GoodIn wsX6_labelAt wsX6_requirePart := goodIn_ca (goodIn_r _ [17, 18, 19, 20, 21, 22, 23, 24, 25, 26, 27, 28, 29, 30, 31, 32, 44, 45, 46, 47, 48, 49, 50, 51, 52, 53, 54] (by decide +kernel) (by decide +kernel)) (goodIn_sub (fun _ h => List.mem_cons_of_mem _ (List.mem_append_right _ h)) (by decide +kernel))
set_option maxRecDepth 20000 in
theorem gX6_labelAt_X6_requirePart : GoodIn wsX6_labelAt (va_wsS RX6 115 yX6_requirePart wsX6_requirePart) := goodIn_app (goodIn_of _ (by decide +kernel)) ggX6_labelAt_X6_requirePart
theorem dX6_labelAt_0 : decode cX6_labelAt 0 = .ok (.aload_n 0, 1) := by decide +kernel
theorem dX6_labelAt_1 : decode cX6_labelAt 1 = .ok (.iload_n 1, 1) := by decide +kernel
theorem dX6_labelAt_2 : decode cX6_labelAt 2 = .ok (.invokevirtual 45, 3) := by decide +kernel
theorem dX6_labelAt_5 : decode cX6_labelAt 5 = .ok (.astore 4, 2) := by decide +kernel
theorem dX6_labelAt_7 : decode cX6_labelAt 7 = .ok (.aload 4, 2) := by decide +kernel
theorem dX6_labelAt_9 : decode cX6_labelAt 9 = .ok (.iload_n 2, 1) := by decide +kernel
theorem dX6_labelAt_10 : decode cX6_labelAt 10 = .ok (.invokestatic 115, 3) := by decide +kernel
set_option maxRecDepth 20000 in
theorem ggX6_rounds_X6_colour : GoodIn wsX6_rounds wsX6_colour := goodIn_ca (goodIn_r _ [6, 7, 8, 9, 1, 10, 11, 12, 13, 14, 15, 16, 17, 18, 19, 20, 21, 22, 23, 24, 25, 26, 27, 28, 29, 30, 31, 32, 33, 34, 35, 36, 37, 38, 39, 40, 41, 42, 43, 44, 45, 46, 47, 48, 49, 50, 51, 52, 53, 54, 55, 56, 57, 58, 59, 60, 61, 62, 63, 5, 64, 65, 66, 67, 68, 69, 70, 71, 72, 73, 74, 75, 76, 77, 78, 79, 80, 81, 82, 83, 84, 85, 86, 87, 88, 89, 90, 91, 92, 93, 94, 95, 96, 97, 98, 99, 100, 101, 102, 103, 104, 105, 106, 107, 108, 109, 110, 111, 112, 113, 114, 115, 116, 117, 118, 119, 120, 121, 122, 123, 124, 125, 126, 127, 128, 129, 130, 131, 132, 133, 134, 135, 136, 137, 138, 139, 140, 141, 142, 143, 144, 145, 146, 147, 148, 149, 155, 156, 157, 158, 159, 160, 161, 162, 163, 164, 165, 150, 151, 152, 153, 154, 166, 167, 168, 169, 170, 171, 172] (by decide +kernel) (by decide +kernel)) (goodIn_sub (fun _ h => List.mem_cons_of_mem _ (List.mem_append_right _ h)) (by decide +kernel))
set_option maxRecDepth 20000 in
theorem gX6_rounds_X6_colour : GoodIn wsX6_rounds (wsV RX6 196 RX6 yX6_colour wsX6_colour) := goodIn_app (goodIn_of _ (by decide +kernel)) ggX6_rounds_X6_colour
theorem dX6_rounds_0 : decode cX6_rounds 0 = .ok (.aload_n 0, 1) := by decide +kernel
theorem dX6_rounds_1 : decode cX6_rounds 1 = .ok (.invokevirtual 196, 3) := by decide +kernel
theorem dX6_rounds_4 : decode cX6_rounds 4 = .ok (.aload_n 0, 1) := by decide +kernel
theorem dX6_rounds_5 : decode cX6_rounds 5 = .ok (.getfield 24, 3) := by decide +kernel
theorem dX6_rounds_8 : decode cX6_rounds 8 = .ok (.getfield 199, 3) := by decide +kernel
theorem dX6_rounds_11 : decode cX6_rounds 11 = .ok (.ireturn, 1) := by decide +kernel
set_option maxRecDepth 20000 in
theorem ggX6_netClasses_X6_colour : GoodIn wsX6_netClasses wsX6_colour := goodIn_ca (goodIn_r _ [6, 7, 8, 9, 1, 10, 11, 12, 13, 14, 15, 16, 17, 18, 19, 20, 21, 22, 23, 24, 25, 26, 27, 28, 29, 30, 31, 32, 33, 34, 35, 36, 37, 38, 39, 40, 41, 42, 43, 44, 45, 46, 47, 48, 49, 50, 51, 52, 53, 54, 55, 56, 57, 58, 59, 60, 61, 62, 63, 5, 64, 65, 66, 67, 68, 69, 70, 71, 72, 73, 74, 75, 76, 77, 78, 79, 80, 81, 82, 83, 84, 85, 86, 87, 88, 89, 90, 91, 92, 93, 94, 95, 96, 97, 98, 99, 100, 101, 102, 103, 104, 105, 106, 107, 108, 109, 110, 111, 112, 113, 114, 115, 116, 117, 118, 119, 120, 121, 122, 123, 124, 125, 126, 127, 128, 129, 130, 131, 132, 133, 134, 135, 136, 137, 138, 139, 140, 141, 142, 143, 144, 145, 146, 147, 148, 149, 160, 161, 162, 163, 164, 165, 166, 167, 168, 169, 170, 150, 151, 152, 153, 154, 155, 156, 157, 158, 159, 171, 172] (by decide +kernel) (by decide +kernel)) (goodIn_sub (fun _ h => List.mem_cons_of_mem _ (List.mem_append_right _ h)) (by decide +kernel))
set_option maxRecDepth 20000 in
theorem gX6_netClasses_X6_colour : GoodIn wsX6_netClasses (wsV RX6 196 RX6 yX6_colour wsX6_colour) := goodIn_app (goodIn_of _ (by decide +kernel)) ggX6_netClasses_X6_colour
theorem dX6_netClasses_0 : decode cX6_netClasses 0 = .ok (.aload_n 0, 1) := by decide +kernel
theorem dX6_netClasses_1 : decode cX6_netClasses 1 = .ok (.invokevirtual 196, 3) := by decide +kernel
theorem dX6_netClasses_4 : decode cX6_netClasses 4 = .ok (.aload_n 0, 1) := by decide +kernel
theorem dX6_netClasses_5 : decode cX6_netClasses 5 = .ok (.getfield 24, 3) := by decide +kernel
theorem dX6_netClasses_8 : decode cX6_netClasses 8 = .ok (.getfield 202, 3) := by decide +kernel
theorem dX6_netClasses_11 : decode cX6_netClasses 11 = .ok (.getfield 206, 3) := by decide +kernel
theorem dX6_netClasses_14 : decode cX6_netClasses 14 = .ok (.ireturn, 1) := by decide +kernel
set_option maxRecDepth 20000 in
theorem ggX6_partClasses_X6_colour : GoodIn wsX6_partClasses wsX6_colour := goodIn_ca (goodIn_r _ [6, 7, 8, 9, 1, 10, 11, 12, 13, 14, 15, 16, 17, 18, 19, 20, 21, 22, 23, 24, 25, 26, 27, 28, 29, 30, 31, 32, 33, 34, 35, 36, 37, 38, 39, 40, 41, 42, 43, 44, 45, 46, 47, 48, 49, 50, 51, 52, 53, 54, 55, 56, 57, 58, 59, 60, 61, 62, 63, 5, 64, 65, 66, 67, 68, 69, 70, 71, 72, 73, 74, 75, 76, 77, 78, 79, 80, 81, 82, 83, 84, 85, 86, 87, 88, 89, 90, 91, 92, 93, 94, 95, 96, 97, 98, 99, 100, 101, 102, 103, 104, 105, 106, 107, 108, 109, 110, 111, 112, 113, 114, 115, 116, 117, 118, 119, 120, 121, 122, 123, 124, 125, 126, 127, 128, 129, 130, 131, 132, 133, 134, 135, 136, 137, 138, 139, 140, 141, 142, 143, 144, 145, 146, 147, 148, 149, 160, 161, 162, 163, 164, 165, 166, 167, 168, 169, 170, 150, 151, 152, 153, 154, 155, 156, 157, 158, 159, 171, 172] (by decide +kernel) (by decide +kernel)) (goodIn_sub (fun _ h => List.mem_cons_of_mem _ (List.mem_append_right _ h)) (by decide +kernel))
set_option maxRecDepth 20000 in
theorem gX6_partClasses_X6_colour : GoodIn wsX6_partClasses (wsV RX6 196 RX6 yX6_colour wsX6_colour) := goodIn_app (goodIn_of _ (by decide +kernel)) ggX6_partClasses_X6_colour
theorem dX6_partClasses_0 : decode cX6_partClasses 0 = .ok (.aload_n 0, 1) := by decide +kernel
theorem dX6_partClasses_1 : decode cX6_partClasses 1 = .ok (.invokevirtual 196, 3) := by decide +kernel
theorem dX6_partClasses_4 : decode cX6_partClasses 4 = .ok (.aload_n 0, 1) := by decide +kernel
theorem dX6_partClasses_5 : decode cX6_partClasses 5 = .ok (.getfield 24, 3) := by decide +kernel
theorem dX6_partClasses_8 : decode cX6_partClasses 8 = .ok (.getfield 211, 3) := by decide +kernel
theorem dX6_partClasses_11 : decode cX6_partClasses 11 = .ok (.getfield 206, 3) := by decide +kernel
theorem dX6_partClasses_14 : decode cX6_partClasses 14 = .ok (.ireturn, 1) := by decide +kernel
set_option maxRecDepth 20000 in
theorem ggX6_netsLike_X6_circuitAt : GoodIn wsX6_netsLike wsX6_circuitAt := goodIn_ca (goodIn_r _ [6, 7, 8, 9, 10, 5, 11, 12, 13, 161, 162, 163, 164, 165, 166, 167, 168, 169] (by decide +kernel) (by decide +kernel)) (goodIn_sub (fun _ h => List.mem_cons_of_mem _ (List.mem_append_left _ (List.mem_append_right _ h))) (by decide +kernel))
set_option maxRecDepth 20000 in
theorem gX6_netsLike_X6_circuitAt : GoodIn wsX6_netsLike (wsV RX6 45 RX6 yX6_circuitAt wsX6_circuitAt) := goodIn_app (goodIn_of _ (by decide +kernel)) ggX6_netsLike_X6_circuitAt
set_option maxRecDepth 20000 in
theorem ggX6_netsLike_X6_requireCircuit : GoodIn wsX6_netsLike wsX6_requireCircuit := goodIn_ca (goodIn_r _ [11, 12, 13] (by decide +kernel) (by decide +kernel)) (goodIn_sub (fun _ h => List.mem_cons_of_mem _ (List.mem_append_left _ (List.mem_append_right _ h))) (by decide +kernel))
set_option maxRecDepth 20000 in
theorem gX6_netsLike_X6_requireCircuit : GoodIn wsX6_netsLike (va_wsS RX6 214 yX6_requireCircuit wsX6_requireCircuit) := goodIn_app (goodIn_of _ (by decide +kernel)) ggX6_netsLike_X6_requireCircuit
set_option maxRecDepth 20000 in
theorem ggX6_netsLike_X6_requireNet : GoodIn wsX6_netsLike wsX6_requireNet := goodIn_ca (goodIn_r _ [16, 17, 18, 19, 20, 21, 22, 23, 24, 180, 181, 182, 183, 184] (by decide +kernel) (by decide +kernel)) (goodIn_sub (fun _ h => List.mem_cons_of_mem _ (List.mem_append_right _ h)) (by decide +kernel))
set_option maxRecDepth 20000 in
theorem gX6_netsLike_X6_requireNet : GoodIn wsX6_netsLike (va_wsS RX6 72 yX6_requireNet wsX6_requireNet) := goodIn_app (goodIn_of _ (by decide +kernel)) ggX6_netsLike_X6_requireNet
theorem dX6_netsLike_0 : decode cX6_netsLike 0 = .ok (.aload_n 0, 1) := by decide +kernel
theorem dX6_netsLike_1 : decode cX6_netsLike 1 = .ok (.iload_n 1, 1) := by decide +kernel
theorem dX6_netsLike_2 : decode cX6_netsLike 2 = .ok (.invokevirtual 45, 3) := by decide +kernel
theorem dX6_netsLike_5 : decode cX6_netsLike 5 = .ok (.astore 4, 2) := by decide +kernel
theorem dX6_netsLike_7 : decode cX6_netsLike 7 = .ok (.iload_n 3, 1) := by decide +kernel
theorem dX6_netsLike_8 : decode cX6_netsLike 8 = .ok (.invokestatic 214, 3) := by decide +kernel
theorem dX6_netsLike_11 : decode cX6_netsLike 11 = .ok (.aload 4, 2) := by decide +kernel
theorem dX6_netsLike_13 : decode cX6_netsLike 13 = .ok (.iload_n 2, 1) := by decide +kernel
theorem dX6_netsLike_14 : decode cX6_netsLike 14 = .ok (.invokestatic 72, 3) := by decide +kernel
set_option maxRecDepth 20000 in
theorem ggX6_partsLike_X6_circuitAt : GoodIn wsX6_partsLike wsX6_circuitAt := goodIn_ca (goodIn_r _ [6, 7, 8, 9, 10, 5, 11, 12, 13, 161, 162, 163, 164, 165, 166, 167, 168, 169] (by decide +kernel) (by decide +kernel)) (goodIn_sub (fun _ h => List.mem_cons_of_mem _ (List.mem_append_left _ (List.mem_append_right _ h))) (by decide +kernel))
set_option maxRecDepth 20000 in
theorem gX6_partsLike_X6_circuitAt : GoodIn wsX6_partsLike (wsV RX6 45 RX6 yX6_circuitAt wsX6_circuitAt) := goodIn_app (goodIn_of _ (by decide +kernel)) ggX6_partsLike_X6_circuitAt
set_option maxRecDepth 20000 in
theorem ggX6_partsLike_X6_requireCircuit : GoodIn wsX6_partsLike wsX6_requireCircuit := goodIn_ca (goodIn_r _ [11, 12, 13] (by decide +kernel) (by decide +kernel)) (goodIn_sub (fun _ h => List.mem_cons_of_mem _ (List.mem_append_left _ (List.mem_append_right _ h))) (by decide +kernel))
set_option maxRecDepth 20000 in
theorem gX6_partsLike_X6_requireCircuit : GoodIn wsX6_partsLike (va_wsS RX6 214 yX6_requireCircuit wsX6_requireCircuit) := goodIn_app (goodIn_of _ (by decide +kernel)) ggX6_partsLike_X6_requireCircuit
set_option maxRecDepth 20000 in
theorem ggX6_partsLike_X6_requirePart : GoodIn wsX6_partsLike wsX6_requirePart := goodIn_ca (goodIn_r _ [16, 17, 18, 19, 20, 21, 22, 23, 24, 25, 26, 27, 28, 29, 30, 31, 180, 181, 182, 183, 184, 185, 186, 187, 188, 189, 190] (by decide +kernel) (by decide +kernel)) (goodIn_sub (fun _ h => List.mem_cons_of_mem _ (List.mem_append_right _ h)) (by decide +kernel))
set_option maxRecDepth 20000 in
theorem gX6_partsLike_X6_requirePart : GoodIn wsX6_partsLike (va_wsS RX6 115 yX6_requirePart wsX6_requirePart) := goodIn_app (goodIn_of _ (by decide +kernel)) ggX6_partsLike_X6_requirePart
theorem dX6_partsLike_0 : decode cX6_partsLike 0 = .ok (.aload_n 0, 1) := by decide +kernel
theorem dX6_partsLike_1 : decode cX6_partsLike 1 = .ok (.iload_n 1, 1) := by decide +kernel
theorem dX6_partsLike_2 : decode cX6_partsLike 2 = .ok (.invokevirtual 45, 3) := by decide +kernel
theorem dX6_partsLike_5 : decode cX6_partsLike 5 = .ok (.astore 4, 2) := by decide +kernel
theorem dX6_partsLike_7 : decode cX6_partsLike 7 = .ok (.iload_n 3, 1) := by decide +kernel
theorem dX6_partsLike_8 : decode cX6_partsLike 8 = .ok (.invokestatic 214, 3) := by decide +kernel
theorem dX6_partsLike_11 : decode cX6_partsLike 11 = .ok (.aload 4, 2) := by decide +kernel
theorem dX6_partsLike_13 : decode cX6_partsLike 13 = .ok (.iload_n 2, 1) := by decide +kernel
theorem dX6_partsLike_14 : decode cX6_partsLike 14 = .ok (.invokestatic 115, 3) := by decide +kernel
set_option maxRecDepth 20000 in
theorem ggX6_areAlike_X6_requireNet : GoodIn wsX6_areAlike wsX6_requireNet := goodIn_ca (goodIn_r _ [7, 8, 9, 10, 11, 12, 13, 14, 15, 168, 169, 170, 171, 172] (by decide +kernel) (by decide +kernel)) (goodIn_sub (fun _ h => List.mem_cons_of_mem _ (List.mem_append_left _ (List.mem_append_right _ h))) (by decide +kernel))
set_option maxRecDepth 20000 in
theorem gX6_areAlike_X6_requireNet : GoodIn wsX6_areAlike (va_wsS RX6 72 yX6_requireNet wsX6_requireNet) := goodIn_app (goodIn_of _ (by decide +kernel)) ggX6_areAlike_X6_requireNet
theorem dX6_areAlike_0 : decode cX6_areAlike 0 = .ok (.aload_n 0, 1) := by decide +kernel
theorem dX6_areAlike_1 : decode cX6_areAlike 1 = .ok (.getfield 10, 3) := by decide +kernel
theorem dX6_areAlike_4 : decode cX6_areAlike 4 = .ok (.iload_n 1, 1) := by decide +kernel
theorem dX6_areAlike_5 : decode cX6_areAlike 5 = .ok (.invokestatic 72, 3) := by decide +kernel
set_option maxRecDepth 20000 in
theorem ggX6_isMatched_X6_search : GoodIn wsX6_isMatched wsX6_search := goodIn_ca (goodIn_r _ [6, 7, 1, 8, 9, 10, 11, 12, 5, 13, 14, 15, 16, 17, 18, 19, 20, 21, 22, 23, 24, 25, 26, 27, 28, 29, 30, 31, 32, 33, 34, 35, 36, 37, 38, 39, 40, 41, 42, 43, 44, 45, 46, 47, 48, 49, 50, 51, 52, 53, 54, 55, 56, 57, 58, 59, 60, 61, 62, 63, 64, 65, 66, 67, 68, 69, 70, 71, 72, 73, 74, 75, 76, 77, 78, 79, 80, 81, 82, 83, 84, 85, 86, 87, 88, 89, 90, 91, 92, 93, 94, 95, 96, 97, 98, 99, 100, 101, 102, 103, 104, 105, 106, 107, 108, 109, 110, 111, 112, 113, 114, 115, 116, 117, 118, 119, 120, 121, 122, 123, 124, 125, 126, 127, 128, 129, 130, 131, 132, 133, 134, 135, 136, 137, 138, 139, 140, 141, 142, 143, 144, 145, 146, 147, 148, 149, 150, 151, 152, 153, 154, 155, 156, 157, 158, 159, 160, 161, 162, 163, 164, 165, 166, 167, 168, 169, 170, 171, 172, 173, 174, 175, 176, 177, 178, 179, 180, 181, 182, 183, 184, 185, 186, 187, 188, 189, 190, 191, 192, 193, 194, 195, 196, 197, 198, 199, 200, 201, 202, 203, 210, 211, 212, 213, 214, 215, 216, 217, 218, 219, 220, 221, 222, 223, 224, 225, 226, 227, 228, 229, 230, 231, 232, 204, 205, 206, 207, 208, 209] (by decide +kernel) (by decide +kernel)) (goodIn_sub (fun _ h => List.mem_cons_of_mem _ (List.mem_append_right _ h)) (by decide +kernel))
set_option maxRecDepth 20000 in
theorem gX6_isMatched_X6_search : GoodIn wsX6_isMatched (wsV RX6 229 RX6 yX6_search wsX6_search) := goodIn_app (goodIn_of _ (by decide +kernel)) ggX6_isMatched_X6_search
theorem dX6_isMatched_0 : decode cX6_isMatched 0 = .ok (.aload_n 0, 1) := by decide +kernel
theorem dX6_isMatched_1 : decode cX6_isMatched 1 = .ok (.invokevirtual 229, 3) := by decide +kernel
theorem dX6_isMatched_4 : decode cX6_isMatched 4 = .ok (.aload_n 0, 1) := by decide +kernel
theorem dX6_isMatched_5 : decode cX6_isMatched 5 = .ok (.getfield 38, 3) := by decide +kernel
theorem dX6_isMatched_8 : decode cX6_isMatched 8 = .ok (.getfield 232, 3) := by decide +kernel
theorem dX6_isMatched_11 : decode cX6_isMatched 11 = .ok (.ireturn, 1) := by decide +kernel
set_option maxRecDepth 20000 in
theorem ggX6_isMatchedByTrying_X6_requireFewNets : GoodIn wsX6_isMatchedByTrying wsX6_requireFewNets := goodIn_ca (goodIn_r _ [6, 7, 8, 9, 10, 77, 78, 79, 80, 81, 82, 83, 84, 85, 92, 93, 94, 95, 96] (by decide +kernel) (by decide +kernel)) (goodIn_sub (fun _ h => List.mem_cons_of_mem _ (List.mem_append_left _ (List.mem_append_right _ h))) (by decide +kernel))
set_option maxRecDepth 20000 in
theorem gX6_isMatchedByTrying_X6_requireFewNets : GoodIn wsX6_isMatchedByTrying (wsV RX6 236 RX6 yX6_requireFewNets wsX6_requireFewNets) := goodIn_app (goodIn_of _ (by decide +kernel)) ggX6_isMatchedByTrying_X6_requireFewNets
set_option maxRecDepth 20000 in
theorem ggX6_isMatchedByTrying_X6_searchByTrying : GoodIn wsX6_isMatchedByTrying wsX6_searchByTrying := goodIn_ca (goodIn_r _ [14, 15, 1, 16, 17, 18, 19, 20, 21, 22, 23, 24, 25, 26, 27, 28, 29, 30, 31, 32, 33, 34, 35, 36, 37, 38, 39, 40, 41, 42, 43, 44, 45, 46, 47, 48, 49, 50, 51, 52, 53, 54, 55, 56, 57, 58, 59, 60, 61, 62, 63, 64, 65, 66, 67, 68, 69, 70, 71, 72, 73, 74, 75, 76, 77, 78, 79, 80, 81, 82, 83, 84, 85, 86, 87, 88, 89, 90, 91, 92, 93, 94, 95, 96, 97, 98, 99, 100, 101, 102] (by decide +kernel) (by decide +kernel)) (goodIn_sub (fun _ h => List.mem_cons_of_mem _ (List.mem_append_right _ h)) (by decide +kernel))
set_option maxRecDepth 20000 in
theorem gX6_isMatchedByTrying_X6_searchByTrying : GoodIn wsX6_isMatchedByTrying (wsV RX6 239 RX6 yX6_searchByTrying wsX6_searchByTrying) := goodIn_app (goodIn_of _ (by decide +kernel)) ggX6_isMatchedByTrying_X6_searchByTrying
theorem dX6_isMatchedByTrying_0 : decode cX6_isMatchedByTrying 0 = .ok (.aload_n 0, 1) := by decide +kernel
theorem dX6_isMatchedByTrying_1 : decode cX6_isMatchedByTrying 1 = .ok (.invokevirtual 236, 3) := by decide +kernel
theorem dX6_isMatchedByTrying_4 : decode cX6_isMatchedByTrying 4 = .ok (.aload_n 0, 1) := by decide +kernel
theorem dX6_isMatchedByTrying_5 : decode cX6_isMatchedByTrying 5 = .ok (.invokevirtual 239, 3) := by decide +kernel
theorem dX6_isMatchedByTrying_8 : decode cX6_isMatchedByTrying 8 = .ok (.aload_n 0, 1) := by decide +kernel
theorem dX6_isMatchedByTrying_9 : decode cX6_isMatchedByTrying 9 = .ok (.getfield 42, 3) := by decide +kernel
theorem dX6_isMatchedByTrying_12 : decode cX6_isMatchedByTrying 12 = .ok (.getfield 232, 3) := by decide +kernel
theorem dX6_isMatchedByTrying_15 : decode cX6_isMatchedByTrying 15 = .ok (.ireturn, 1) := by decide +kernel
set_option maxRecDepth 20000 in
theorem ggX6_matchedNet_X6_requireNet : GoodIn wsX6_matchedNet wsX6_requireNet := goodIn_ca (goodIn_r _ [6, 7, 8, 9, 10, 11, 12, 13, 14, 224, 225, 226, 227, 228] (by decide +kernel) (by decide +kernel)) (goodIn_sub (fun _ h => List.mem_cons_of_mem _ (List.mem_append_left _ (List.mem_append_right _ h))) (by decide +kernel))
set_option maxRecDepth 20000 in
theorem gX6_matchedNet_X6_requireNet : GoodIn wsX6_matchedNet (va_wsS RX6 72 yX6_requireNet wsX6_requireNet) := goodIn_app (goodIn_of _ (by decide +kernel)) ggX6_matchedNet_X6_requireNet
theorem dX6_matchedNet_0 : decode cX6_matchedNet 0 = .ok (.aload_n 0, 1) := by decide +kernel
theorem dX6_matchedNet_1 : decode cX6_matchedNet 1 = .ok (.getfield 10, 3) := by decide +kernel
theorem dX6_matchedNet_4 : decode cX6_matchedNet 4 = .ok (.iload_n 1, 1) := by decide +kernel
theorem dX6_matchedNet_5 : decode cX6_matchedNet 5 = .ok (.invokestatic 72, 3) := by decide +kernel
set_option maxRecDepth 20000 in
theorem ggX6_netByTrying_X6_requireNet : GoodIn wsX6_netByTrying wsX6_requireNet := goodIn_ca (goodIn_r _ [6, 7, 8, 9, 10, 11, 12, 13, 14, 107, 108, 109, 110, 111] (by decide +kernel) (by decide +kernel)) (goodIn_sub (fun _ h => List.mem_cons_of_mem _ (List.mem_append_left _ (List.mem_append_left _ (List.mem_append_right _ h)))) (by decide +kernel))
set_option maxRecDepth 20000 in
theorem gX6_netByTrying_X6_requireNet : GoodIn wsX6_netByTrying (va_wsS RX6 72 yX6_requireNet wsX6_requireNet) := goodIn_app (goodIn_of _ (by decide +kernel)) ggX6_netByTrying_X6_requireNet
theorem dX6_netByTrying_0 : decode cX6_netByTrying 0 = .ok (.aload_n 0, 1) := by decide +kernel
theorem dX6_netByTrying_1 : decode cX6_netByTrying 1 = .ok (.getfield 10, 3) := by decide +kernel
theorem dX6_netByTrying_4 : decode cX6_netByTrying 4 = .ok (.iload_n 1, 1) := by decide +kernel
theorem dX6_netByTrying_5 : decode cX6_netByTrying 5 = .ok (.invokestatic 72, 3) := by decide +kernel
set_option maxRecDepth 20000 in
theorem ggX6_matchedPart_X6_requirePart : GoodIn wsX6_matchedPart wsX6_requirePart := goodIn_ca (goodIn_r _ [6, 7, 8, 9, 10, 11, 12, 13, 14, 15, 16, 17, 18, 19, 20, 21, 224, 225, 226, 227, 228, 229, 230, 231, 232, 233, 234] (by decide +kernel) (by decide +kernel)) (goodIn_sub (fun _ h => List.mem_cons_of_mem _ (List.mem_append_left _ (List.mem_append_right _ h))) (by decide +kernel))
set_option maxRecDepth 20000 in
theorem gX6_matchedPart_X6_requirePart : GoodIn wsX6_matchedPart (va_wsS RX6 115 yX6_requirePart wsX6_requirePart) := goodIn_app (goodIn_of _ (by decide +kernel)) ggX6_matchedPart_X6_requirePart
theorem dX6_matchedPart_0 : decode cX6_matchedPart 0 = .ok (.aload_n 0, 1) := by decide +kernel
theorem dX6_matchedPart_1 : decode cX6_matchedPart 1 = .ok (.getfield 10, 3) := by decide +kernel
theorem dX6_matchedPart_4 : decode cX6_matchedPart 4 = .ok (.iload_n 1, 1) := by decide +kernel
theorem dX6_matchedPart_5 : decode cX6_matchedPart 5 = .ok (.invokestatic 115, 3) := by decide +kernel
set_option maxRecDepth 20000 in
theorem ggX6_matchedPin_X6_requirePart : GoodIn wsX6_matchedPin wsX6_requirePart := goodIn_ca (goodIn_r _ [6, 7, 8, 9, 10, 11, 12, 13, 14, 15, 16, 17, 18, 19, 20, 21, 227, 228, 229, 230, 231, 232, 233, 234, 235, 236, 237] (by decide +kernel) (by decide +kernel)) (goodIn_sub (fun _ h => List.mem_cons_of_mem _ (List.mem_append_left _ (List.mem_append_left _ (List.mem_append_left _ (List.mem_append_right _ h))))) (by decide +kernel))
set_option maxRecDepth 20000 in
theorem gX6_matchedPin_X6_requirePart : GoodIn wsX6_matchedPin (va_wsS RX6 115 yX6_requirePart wsX6_requirePart) := goodIn_app (goodIn_of _ (by decide +kernel)) ggX6_matchedPin_X6_requirePart
theorem dX6_matchedPin_0 : decode cX6_matchedPin 0 = .ok (.aload_n 0, 1) := by decide +kernel
theorem dX6_matchedPin_1 : decode cX6_matchedPin 1 = .ok (.getfield 10, 3) := by decide +kernel
theorem dX6_matchedPin_4 : decode cX6_matchedPin 4 = .ok (.iload_n 1, 1) := by decide +kernel
theorem dX6_matchedPin_5 : decode cX6_matchedPin 5 = .ok (.invokestatic 115, 3) := by decide +kernel
set_option maxRecDepth 20000 in
theorem ggX6_differences_X6_colour : GoodIn wsX6_differences wsX6_colour := goodIn_ca (goodIn_r _ [6, 7, 8, 9, 10, 1, 11, 12, 13, 14, 15, 16, 17, 18, 19, 20, 21, 22, 23, 24, 25, 26, 27, 28, 29, 30, 31, 32, 33, 34, 35, 36, 37, 38, 39, 40, 41, 42, 43, 44, 45, 46, 47, 48, 49, 50, 51, 52, 53, 54, 55, 56, 57, 58, 59, 60, 61, 62, 63, 5, 64, 65, 66, 67, 68, 69, 70, 71, 72, 73, 74, 75, 76, 77, 78, 79, 80, 81, 82, 83, 84, 85, 86, 87, 88, 89, 90, 91, 92, 93, 94, 95, 96, 97, 98, 99, 100, 101, 102, 103, 104, 105, 106, 107, 108, 109, 110, 111, 112, 113, 114, 115, 116, 117, 118, 119, 120, 121, 122, 123, 124, 125, 126, 127, 128, 129, 130, 131, 132, 133, 134, 135, 136, 137, 138, 139, 140, 141, 142, 143, 144, 145, 146, 147, 148, 149, 152, 153, 154, 155, 156, 157, 158, 159, 160, 161, 162, 163, 164, 165, 166, 167, 168, 169, 170, 171, 172, 150, 151] (by decide +kernel) (by decide +kernel)) (goodIn_sub (fun _ h => List.mem_cons_of_mem _ (List.mem_append_right _ h)) (by decide +kernel))
set_option maxRecDepth 20000 in
theorem gX6_differences_X6_colour : GoodIn wsX6_differences (wsV RX6 196 RX6 yX6_colour wsX6_colour) := goodIn_app (goodIn_of _ (by decide +kernel)) ggX6_differences_X6_colour
theorem dX6_differences_0 : decode cX6_differences 0 = .ok (.aload_n 0, 1) := by decide +kernel
theorem dX6_differences_1 : decode cX6_differences 1 = .ok (.invokevirtual 196, 3) := by decide +kernel
theorem dX6_differences_4 : decode cX6_differences 4 = .ok (.aload_n 0, 1) := by decide +kernel
theorem dX6_differences_5 : decode cX6_differences 5 = .ok (.getfield 31, 3) := by decide +kernel
theorem dX6_differences_8 : decode cX6_differences 8 = .ok (.getfield 255, 3) := by decide +kernel
theorem dX6_differences_11 : decode cX6_differences 11 = .ok (.ireturn, 1) := by decide +kernel
set_option maxRecDepth 20000 in
theorem ggX6_differenceKind_X6_requireDifference : GoodIn wsX6_differenceKind wsX6_requireDifference := goodIn_ca (goodIn_ca (goodIn_r _ [6, 7, 8, 1, 9, 10, 11, 5, 12, 13, 14, 15, 16, 17, 18, 19, 20, 21, 22, 23, 24, 25, 26, 27, 28, 29, 30, 31, 32, 33, 34, 35, 36, 37, 38, 39, 40, 41, 42, 43, 44, 45, 46, 47, 48, 49, 50, 51, 52, 53, 54, 55, 56, 57, 58, 59, 60, 61, 62, 63, 64, 65, 66, 67, 68, 69, 70, 71, 72, 73, 74, 75, 76, 77, 78, 79, 80, 81, 82, 83, 84, 85, 86, 87, 88, 89, 90, 91, 92, 93, 94, 95, 96, 97, 98, 99, 100, 101, 102, 103, 104, 105, 106, 107, 108, 109, 110, 111, 112, 113, 114, 115, 116, 117, 118, 119, 120, 121, 122, 123, 124, 125, 126, 127, 128, 129, 130, 131, 132, 133, 134, 135, 136, 137, 138, 139, 140, 141, 142, 143, 144, 145, 146, 151, 152, 153, 154, 155, 156, 157, 158, 159, 160, 161, 162, 163, 164, 165, 166, 167, 168, 169, 170, 171, 172, 173, 174, 175, 176, 177, 178, 179, 180, 181, 182] (by decide +kernel) (by decide +kernel)) (goodIn_sub (fun _ h => List.mem_cons_of_mem _ (List.mem_append_left _ (List.mem_append_right _ h))) (by decide +kernel))) (goodIn_sub (fun _ h => List.mem_cons_of_mem _ (List.mem_append_right _ h)) (by decide +kernel))
set_option maxRecDepth 20000 in
theorem gX6_differenceKind_X6_requireDifference : GoodIn wsX6_differenceKind (wsV RX6 258 RX6 yX6_requireDifference wsX6_requireDifference) := goodIn_app (goodIn_of _ (by decide +kernel)) ggX6_differenceKind_X6_requireDifference
theorem dX6_differenceKind_0 : decode cX6_differenceKind 0 = .ok (.aload_n 0, 1) := by decide +kernel
theorem dX6_differenceKind_1 : decode cX6_differenceKind 1 = .ok (.iload_n 1, 1) := by decide +kernel
theorem dX6_differenceKind_2 : decode cX6_differenceKind 2 = .ok (.invokevirtual 258, 3) := by decide +kernel
set_option maxRecDepth 20000 in
theorem ggX6_differenceMember_X6_requireDifference : GoodIn wsX6_differenceMember wsX6_requireDifference := goodIn_ca (goodIn_ca (goodIn_r _ [6, 7, 8, 1, 9, 10, 11, 5, 12, 13, 14, 15, 16, 17, 18, 19, 20, 21, 22, 23, 24, 25, 26, 27, 28, 29, 30, 31, 32, 33, 34, 35, 36, 37, 38, 39, 40, 41, 42, 43, 44, 45, 46, 47, 48, 49, 50, 51, 52, 53, 54, 55, 56, 57, 58, 59, 60, 61, 62, 63, 64, 65, 66, 67, 68, 69, 70, 71, 72, 73, 74, 75, 76, 77, 78, 79, 80, 81, 82, 83, 84, 85, 86, 87, 88, 89, 90, 91, 92, 93, 94, 95, 96, 97, 98, 99, 100, 101, 102, 103, 104, 105, 106, 107, 108, 109, 110, 111, 112, 113, 114, 115, 116, 117, 118, 119, 120, 121, 122, 123, 124, 125, 126, 127, 128, 129, 130, 131, 132, 133, 134, 135, 136, 137, 138, 139, 140, 141, 142, 143, 144, 145, 146, 151, 152, 153, 154, 155, 156, 157, 158, 159, 160, 161, 162, 163, 164, 165, 166, 167, 168, 169, 170, 171, 172, 173, 174, 175, 176, 177, 178, 179, 180, 181, 182] (by decide +kernel) (by decide +kernel)) (goodIn_sub (fun _ h => List.mem_cons_of_mem _ (List.mem_append_left _ (List.mem_append_right _ h))) (by decide +kernel))) (goodIn_sub (fun _ h => List.mem_cons_of_mem _ (List.mem_append_right _ h)) (by decide +kernel))
set_option maxRecDepth 20000 in
theorem gX6_differenceMember_X6_requireDifference : GoodIn wsX6_differenceMember (wsV RX6 258 RX6 yX6_requireDifference wsX6_requireDifference) := goodIn_app (goodIn_of _ (by decide +kernel)) ggX6_differenceMember_X6_requireDifference
theorem dX6_differenceMember_0 : decode cX6_differenceMember 0 = .ok (.aload_n 0, 1) := by decide +kernel
theorem dX6_differenceMember_1 : decode cX6_differenceMember 1 = .ok (.iload_n 1, 1) := by decide +kernel
theorem dX6_differenceMember_2 : decode cX6_differenceMember 2 = .ok (.invokevirtual 258, 3) := by decide +kernel
set_option maxRecDepth 20000 in
theorem ggX6_differenceDistance_X6_requireDifference : GoodIn wsX6_differenceDistance wsX6_requireDifference := goodIn_ca (goodIn_ca (goodIn_r _ [6, 7, 8, 1, 9, 10, 11, 5, 12, 13, 14, 15, 16, 17, 18, 19, 20, 21, 22, 23, 24, 25, 26, 27, 28, 29, 30, 31, 32, 33, 34, 35, 36, 37, 38, 39, 40, 41, 42, 43, 44, 45, 46, 47, 48, 49, 50, 51, 52, 53, 54, 55, 56, 57, 58, 59, 60, 61, 62, 63, 64, 65, 66, 67, 68, 69, 70, 71, 72, 73, 74, 75, 76, 77, 78, 79, 80, 81, 82, 83, 84, 85, 86, 87, 88, 89, 90, 91, 92, 93, 94, 95, 96, 97, 98, 99, 100, 101, 102, 103, 104, 105, 106, 107, 108, 109, 110, 111, 112, 113, 114, 115, 116, 117, 118, 119, 120, 121, 122, 123, 124, 125, 126, 127, 128, 129, 130, 131, 132, 133, 134, 135, 136, 137, 138, 139, 140, 141, 142, 143, 144, 145, 146, 151, 152, 153, 154, 155, 156, 157, 158, 159, 160, 161, 162, 163, 164, 165, 166, 167, 168, 169, 170, 171, 172, 173, 174, 175, 176, 177, 178, 179, 180, 181, 182] (by decide +kernel) (by decide +kernel)) (goodIn_sub (fun _ h => List.mem_cons_of_mem _ (List.mem_append_left _ (List.mem_append_right _ h))) (by decide +kernel))) (goodIn_sub (fun _ h => List.mem_cons_of_mem _ (List.mem_append_right _ h)) (by decide +kernel))
set_option maxRecDepth 20000 in
theorem gX6_differenceDistance_X6_requireDifference : GoodIn wsX6_differenceDistance (wsV RX6 258 RX6 yX6_requireDifference wsX6_requireDifference) := goodIn_app (goodIn_of _ (by decide +kernel)) ggX6_differenceDistance_X6_requireDifference
theorem dX6_differenceDistance_0 : decode cX6_differenceDistance 0 = .ok (.aload_n 0, 1) := by decide +kernel
theorem dX6_differenceDistance_1 : decode cX6_differenceDistance 1 = .ok (.iload_n 1, 1) := by decide +kernel
theorem dX6_differenceDistance_2 : decode cX6_differenceDistance 2 = .ok (.invokevirtual 258, 3) := by decide +kernel
set_option maxRecDepth 20000 in
theorem ggX6_differenceSize_X6_requireDifference : GoodIn wsX6_differenceSize wsX6_requireDifference := goodIn_ca (goodIn_ca (goodIn_r _ [7, 8, 9, 1, 10, 11, 12, 6, 13, 14, 15, 16, 2, 17, 18, 19, 20, 21, 22, 23, 24, 25, 26, 27, 28, 29, 30, 31, 32, 33, 34, 35, 36, 37, 38, 39, 40, 41, 42, 43, 44, 45, 46, 47, 48, 49, 50, 51, 52, 53, 54, 55, 56, 57, 58, 59, 60, 61, 62, 63, 64, 65, 66, 67, 68, 69, 70, 71, 72, 73, 74, 75, 76, 77, 78, 79, 80, 81, 82, 83, 84, 85, 86, 87, 88, 89, 90, 91, 92, 93, 94, 95, 96, 97, 98, 99, 100, 101, 102, 103, 104, 105, 106, 107, 108, 109, 110, 111, 112, 113, 114, 115, 116, 117, 118, 119, 120, 121, 122, 123, 124, 125, 126, 127, 128, 129, 130, 131, 132, 133, 134, 135, 136, 137, 138, 139, 140, 141, 142, 143, 144, 145, 146, 164, 165, 166, 167, 168, 169, 170, 171, 172, 173, 174, 175, 176, 177, 178, 179, 180, 181, 182, 183, 184, 185, 186, 187, 188, 189, 190, 191, 192, 193, 194, 195] (by decide +kernel) (by decide +kernel)) (goodIn_sub (fun _ h => List.mem_cons_of_mem _ (List.mem_append_left _ (List.mem_append_left _ (List.mem_append_right _ h)))) (by decide +kernel))) (goodIn_sub (fun _ h => List.mem_cons_of_mem _ (List.mem_append_left _ (List.mem_append_right _ h))) (by decide +kernel))
set_option maxRecDepth 20000 in
theorem gX6_differenceSize_X6_requireDifference : GoodIn wsX6_differenceSize (wsV RX6 258 RX6 yX6_requireDifference wsX6_requireDifference) := goodIn_app (goodIn_of _ (by decide +kernel)) ggX6_differenceSize_X6_requireDifference
theorem dX6_differenceSize_0 : decode cX6_differenceSize 0 = .ok (.aload_n 0, 1) := by decide +kernel
theorem dX6_differenceSize_1 : decode cX6_differenceSize 1 = .ok (.iload_n 1, 1) := by decide +kernel
theorem dX6_differenceSize_2 : decode cX6_differenceSize 2 = .ok (.invokevirtual 258, 3) := by decide +kernel
set_option maxRecDepth 20000 in
theorem ggX6_valueSum_X6_circuitAt : GoodIn wsX6_valueSum wsX6_circuitAt := goodIn_ca (goodIn_r _ [5, 6, 7, 8, 9, 4, 10, 11, 12, 24, 25, 26, 27, 28, 29, 30, 31, 32] (by decide +kernel) (by decide +kernel)) (goodIn_sub (fun _ h => List.mem_cons_of_mem _ (List.mem_append_right _ h)) (by decide +kernel))
set_option maxRecDepth 20000 in
theorem gX6_valueSum_X6_circuitAt : GoodIn wsX6_valueSum (wsV RX6 45 RX6 yX6_circuitAt wsX6_circuitAt) := goodIn_app (goodIn_of _ (by decide +kernel)) ggX6_valueSum_X6_circuitAt
theorem dX6_valueSum_0 : decode cX6_valueSum 0 = .ok (.aload_n 0, 1) := by decide +kernel
theorem dX6_valueSum_1 : decode cX6_valueSum 1 = .ok (.iload_n 1, 1) := by decide +kernel
theorem dX6_valueSum_2 : decode cX6_valueSum 2 = .ok (.invokevirtual 45, 3) := by decide +kernel
theorem dX6_valueSum_5 : decode cX6_valueSum 5 = .ok (.astore_n 2, 1) := by decide +kernel
theorem dX6_valueSum_6 : decode cX6_valueSum 6 = .ok (.lconst 0, 1) := by decide +kernel
theorem dX6_valueSum_7 : decode cX6_valueSum 7 = .ok (.lstore_n 3, 1) := by decide +kernel
theorem dX6_valueSum_8 : decode cX6_valueSum 8 = .ok (.iconst 0, 1) := by decide +kernel
theorem dX6_valueSum_9 : decode cX6_valueSum 9 = .ok (.istore 5, 2) := by decide +kernel
theorem dX6_valueSum_11 : decode cX6_valueSum 11 = .ok (.iload 5, 2) := by decide +kernel
theorem dX6_valueSum_13 : decode cX6_valueSum 13 = .ok (.aload_n 2, 1) := by decide +kernel
theorem dX6_valueSum_14 : decode cX6_valueSum 14 = .ok (.getfield 96, 3) := by decide +kernel
theorem dX6_valueSum_17 : decode cX6_valueSum 17 = .ok (.if_icmp .ge 23, 3) := by decide +kernel
theorem dX6_valueSum_40 : decode cX6_valueSum 40 = .ok (.lload_n 3, 1) := by decide +kernel
theorem dX6_valueSum_41 : decode cX6_valueSum 41 = .ok (.lreturn, 1) := by decide +kernel
theorem dX6_requireKind_0 : decode cX6_requireKind 0 = .ok (.iload_n 0, 1) := by decide +kernel
theorem dX6_requireKind_1 : decode cX6_requireKind 1 = .ok (.bipush 114, 2) := by decide +kernel
theorem dX6_requireKind_3 : decode cX6_requireKind 3 = .ok (.if_icmp .eq 32, 3) := by decide +kernel
theorem dX6_requireKind_6 : decode cX6_requireKind 6 = .ok (.iload_n 0, 1) := by decide +kernel
theorem dX6_requireKind_7 : decode cX6_requireKind 7 = .ok (.bipush 99, 2) := by decide +kernel
theorem dX6_requireKind_9 : decode cX6_requireKind 9 = .ok (.if_icmp .eq 26, 3) := by decide +kernel
theorem dX6_requireKind_12 : decode cX6_requireKind 12 = .ok (.iload_n 0, 1) := by decide +kernel
theorem dX6_requireKind_13 : decode cX6_requireKind 13 = .ok (.bipush 100, 2) := by decide +kernel
theorem dX6_requireKind_15 : decode cX6_requireKind 15 = .ok (.if_icmp .eq 20, 3) := by decide +kernel
theorem dX6_requireKind_18 : decode cX6_requireKind 18 = .ok (.iload_n 0, 1) := by decide +kernel
theorem dX6_requireKind_19 : decode cX6_requireKind 19 = .ok (.bipush 116, 2) := by decide +kernel
theorem dX6_requireKind_21 : decode cX6_requireKind 21 = .ok (.if_icmp .eq 14, 3) := by decide +kernel
theorem dX6_requireKind_24 : decode cX6_requireKind 24 = .ok (.new 67, 3) := by decide +kernel
theorem dX6_requireKind_27 : decode cX6_requireKind 27 = .ok (.dup, 1) := by decide +kernel
theorem dX6_requireKind_28 : decode cX6_requireKind 28 = .ok (.ldc_w 285, 3) := by decide +kernel
theorem dX6_requireKind_31 : decode cX6_requireKind 31 = .ok (.invokespecial 71, 3) := by decide +kernel
theorem dX6_requireKind_34 : decode cX6_requireKind 34 = .ok (.athrow, 1) := by decide +kernel
theorem dX6_requireKind_35 : decode cX6_requireKind 35 = .ok (.return_, 1) := by decide +kernel
theorem dX6_requireValue_0 : decode cX6_requireValue 0 = .ok (.iload_n 0, 1) := by decide +kernel
theorem dX6_requireValue_1 : decode cX6_requireValue 1 = .ok (.iconst 1, 1) := by decide +kernel
theorem dX6_requireValue_2 : decode cX6_requireValue 2 = .ok (.if_icmp .lt 10, 3) := by decide +kernel
theorem dX6_requireValue_5 : decode cX6_requireValue 5 = .ok (.iload_n 0, 1) := by decide +kernel
theorem dX6_requireValue_6 : decode cX6_requireValue 6 = .ok (.sipush 999, 3) := by decide +kernel
theorem dX6_requireValue_9 : decode cX6_requireValue 9 = .ok (.if_icmp .le 14, 3) := by decide +kernel
theorem dX6_requireValue_12 : decode cX6_requireValue 12 = .ok (.new 67, 3) := by decide +kernel
theorem dX6_requireValue_15 : decode cX6_requireValue 15 = .ok (.dup, 1) := by decide +kernel
theorem dX6_requireValue_16 : decode cX6_requireValue 16 = .ok (.ldc_w 287, 3) := by decide +kernel
theorem dX6_requireValue_19 : decode cX6_requireValue 19 = .ok (.invokespecial 71, 3) := by decide +kernel
theorem dX6_requireValue_22 : decode cX6_requireValue 22 = .ok (.athrow, 1) := by decide +kernel
theorem dX6_requireValue_23 : decode cX6_requireValue 23 = .ok (.return_, 1) := by decide +kernel
set_option maxHeartbeats 4000000 in
set_option maxRecDepth 100000 in
/-- requireKind -/
theorem kX6_requireKind (l : Launch) (hfl : l.stackTraces = false) (dC : Nat → ClassId) (dI : Nat → Nat → Nat) (p0 : Int32) (sz : Nat) : fXv l yX6_requireKind wsX6_requireKind ({ frames := 6, cells := 1, slots := 6, locals := 82 } : Room) dC dI [.int p0] [] [] sz (fun E : String => E = "java/lang/IllegalArgumentException" ∧ (¬ ((p0 = 114) ∨ ((p0 = 99) ∨ ((p0 = 100) ∨ (p0 = 116)))))) (fun (u : Unit) => (p0 = 114) ∨ ((p0 = 99) ∨ ((p0 = 100) ∨ (p0 = 116)))) (fun u => []) (fun u => []) := by
  refine oX_v hfl (y := yX6_requireKind) (cc := cX6_requireKind) (maxL := 1) (by decide) rfl (Nat.le_of_ble_eq_true rfl) ?_
  intro p e s m args below meth c ls A Q hx hb hr hml hown hts hN hZ hA hin hlk hP hK hD hl ret thr thn
  have hS : va_S A s.heap s.heap [] := va_S.rf
  have hl : lv_has ls 1 [(0, .int p0)] := hl
  have hP : va_P (dC, dI) vwCl [] _ := hP
  have hD : va_D A [] := hD
  refine lv_iload_n hx hb dX6_requireKind_0 rfl (lv_at hl 0 rfl) ?_
  refine lv_bipush (v := 114) hx hb dX6_requireKind_1 (by decide) ?_
  refine lv_icmp_eq (tgt := 35) hx hb dX6_requireKind_3 (by decide) (fun h1 => ?_) (fun h1 => ?_)
  · skip
    exact ret () _ _ _ _ _ _ (Or.inl (h1)) (hP.sub [] rfl) (hK.sub [] rfl) (hD.sub [] (by decide) rfl) hS (Nat.le_of_ble_eq_true rfl) (Nat.le_of_ble_eq_true rfl) dX6_requireKind_35
  · skip
    refine lv_iload_n hx hb dX6_requireKind_6 rfl (lv_at hl 0 rfl) ?_
    refine lv_bipush (v := 99) hx hb dX6_requireKind_7 (by decide) ?_
    refine lv_icmp_eq (tgt := 35) hx hb dX6_requireKind_9 (by decide) (fun h2 => ?_) (fun h2 => ?_)
    · skip
      exact ret () _ _ _ _ _ _ (Or.inr (Or.inl (h2))) (hP.sub [] rfl) (hK.sub [] rfl) (hD.sub [] (by decide) rfl) hS (Nat.le_of_ble_eq_true rfl) (Nat.le_of_ble_eq_true rfl) dX6_requireKind_35
    · skip
      refine lv_iload_n hx hb dX6_requireKind_12 rfl (lv_at hl 0 rfl) ?_
      refine lv_bipush (v := 100) hx hb dX6_requireKind_13 (by decide) ?_
      refine lv_icmp_eq (tgt := 35) hx hb dX6_requireKind_15 (by decide) (fun h3 => ?_) (fun h3 => ?_)
      · skip
        exact ret () _ _ _ _ _ _ (Or.inr (Or.inr (Or.inl (h3)))) (hP.sub [] rfl) (hK.sub [] rfl) (hD.sub [] (by decide) rfl) hS (Nat.le_of_ble_eq_true rfl) (Nat.le_of_ble_eq_true rfl) dX6_requireKind_35
      · skip
        refine lv_iload_n hx hb dX6_requireKind_18 rfl (lv_at hl 0 rfl) ?_
        refine lv_bipush (v := 116) hx hb dX6_requireKind_19 (by decide) ?_
        refine lv_icmp_eq (tgt := 35) hx hb dX6_requireKind_21 (by decide) (fun h4 => ?_) (fun h4 => ?_)
        · skip
          exact ret () _ _ _ _ _ _ (Or.inr (Or.inr (Or.inr (h4)))) (hP.sub [] rfl) (hK.sub [] rfl) (hD.sub [] (by decide) rfl) hS (Nat.le_of_ble_eq_true rfl) (Nat.le_of_ble_eq_true rfl) dX6_requireKind_35
        · skip
          exact thn "java/lang/IllegalArgumentException" _ ["java/lang/RuntimeException", "java/lang/Exception"] 67 285 71 _ _ _ _ 24 _ (⟨rfl, (fun h9 => h9.elim (h1) ((fun h9 => h9.elim (h2) ((fun h9 => h9.elim (h3) (h4))))))⟩) (by decide +kernel) (by decide +kernel) (hts (.classLink RX6 67 "java/lang/IllegalArgumentException") (List.mem_cons_of_mem _ (List.mem_append_left _ (List.mem_of_getElem? (i := 0) rfl)))) (hts (.initialized "java/lang/IllegalArgumentException") (List.mem_cons_of_mem _ (List.mem_append_left _ (List.mem_of_getElem? (i := 1) rfl)))) (hN.2 _ (List.mem_of_getElem? (i := 5) rfl)) (vx_hat (fun w h => hts w ((fun w h => List.mem_cons_of_mem _ (List.mem_append_right _ (h))) w h)) (B := [.castable "java/lang/IllegalArgumentException" "java/lang/IllegalArgumentException", .declares ⟨"java/lang/RuntimeException", "<init>", "(Ljava/lang/String;)V"⟩, .declares ⟨"java/lang/Exception", "<init>", "(Ljava/lang/String;)V"⟩, .declares ⟨"java/lang/Throwable", "<init>", "(Ljava/lang/String;)V"⟩]) (by decide +kernel) (vx_c (va_Nw.use rfl (hN.1 _ (List.mem_of_getElem? (i := 50) rfl))) (vx_c (va_Nw.use rfl (hN.1 _ (List.mem_of_getElem? (i := 51) rfl))) (vx_c (va_Nw.use rfl (hN.1 _ (List.mem_of_getElem? (i := 52) rfl))) (vx_c (va_Nw.use rfl (hN.1 _ (List.mem_of_getElem? (i := 53) rfl))) vx_n))))) (by decide +kernel) hS hl.1 (Nat.le_of_ble_eq_true rfl) (Nat.le_of_ble_eq_true rfl) (Nat.le_of_ble_eq_true rfl) (Nat.le_of_ble_eq_true rfl) dX6_requireKind_24 dX6_requireKind_27 (Or.inr ⟨dX6_requireKind_28, dX6_requireKind_31, dX6_requireKind_34⟩)

set_option maxHeartbeats 4000000 in
set_option maxRecDepth 100000 in
/-- requireValue -/
theorem kX6_requireValue (l : Launch) (hfl : l.stackTraces = false) (dC : Nat → ClassId) (dI : Nat → Nat → Nat) (p0 : Int32) (sz : Nat) : fXv l yX6_requireValue wsX6_requireValue ({ frames := 6, cells := 1, slots := 6, locals := 82 } : Room) dC dI [.int p0] [] [] sz (fun E : String => E = "java/lang/IllegalArgumentException" ∧ (¬ ((¬ (p0 < 1)) ∧ (¬ (999 < p0))))) (fun (u : Unit) => (¬ (p0 < 1)) ∧ (¬ (999 < p0))) (fun u => []) (fun u => []) := by
  refine oX_v hfl (y := yX6_requireValue) (cc := cX6_requireValue) (maxL := 1) (by decide) rfl (Nat.le_of_ble_eq_true rfl) ?_
  intro p e s m args below meth c ls A Q hx hb hr hml hown hts hN hZ hA hin hlk hP hK hD hl ret thr thn
  have hS : va_S A s.heap s.heap [] := va_S.rf
  have hl : lv_has ls 1 [(0, .int p0)] := hl
  have hP : va_P (dC, dI) vwCl [] _ := hP
  have hD : va_D A [] := hD
  refine lv_iload_n hx hb dX6_requireValue_0 rfl (lv_at hl 0 rfl) ?_
  refine lv_iconst (v := 1) hx hb dX6_requireValue_1 (by decide) ?_
  refine lv_icmp_lt (tgt := 12) hx hb dX6_requireValue_2 (by decide) (fun h1 => ?_) (fun h1 => ?_)
  · skip
    exact thn "java/lang/IllegalArgumentException" _ ["java/lang/RuntimeException", "java/lang/Exception"] 67 287 71 _ _ _ _ 12 _ (⟨rfl, (fun h9 => ((fun h9 => h9 (h1))) h9.1)⟩) (by decide +kernel) (by decide +kernel) (hts (.classLink RX6 67 "java/lang/IllegalArgumentException") (List.mem_cons_of_mem _ (List.mem_append_left _ (List.mem_of_getElem? (i := 0) rfl)))) (hts (.initialized "java/lang/IllegalArgumentException") (List.mem_cons_of_mem _ (List.mem_append_left _ (List.mem_of_getElem? (i := 1) rfl)))) (hN.2 _ (List.mem_of_getElem? (i := 6) rfl)) (vx_hat (fun w h => hts w ((fun w h => List.mem_cons_of_mem _ (List.mem_append_right _ (h))) w h)) (B := [.castable "java/lang/IllegalArgumentException" "java/lang/IllegalArgumentException", .declares ⟨"java/lang/RuntimeException", "<init>", "(Ljava/lang/String;)V"⟩, .declares ⟨"java/lang/Exception", "<init>", "(Ljava/lang/String;)V"⟩, .declares ⟨"java/lang/Throwable", "<init>", "(Ljava/lang/String;)V"⟩]) (by decide +kernel) (vx_c (va_Nw.use rfl (hN.1 _ (List.mem_of_getElem? (i := 50) rfl))) (vx_c (va_Nw.use rfl (hN.1 _ (List.mem_of_getElem? (i := 51) rfl))) (vx_c (va_Nw.use rfl (hN.1 _ (List.mem_of_getElem? (i := 52) rfl))) (vx_c (va_Nw.use rfl (hN.1 _ (List.mem_of_getElem? (i := 53) rfl))) vx_n))))) (by decide +kernel) hS hl.1 (Nat.le_of_ble_eq_true rfl) (Nat.le_of_ble_eq_true rfl) (Nat.le_of_ble_eq_true rfl) (Nat.le_of_ble_eq_true rfl) dX6_requireValue_12 dX6_requireValue_15 (Or.inr ⟨dX6_requireValue_16, dX6_requireValue_19, dX6_requireValue_22⟩)
  · skip
    refine lv_iload_n hx hb dX6_requireValue_5 rfl (lv_at hl 0 rfl) ?_
    refine lv_sipush (v := 999) hx hb dX6_requireValue_6 (by decide) ?_
    refine lv_icmp_le (tgt := 23) hx hb dX6_requireValue_9 (by decide) (fun h2 => ?_) (fun h2 => ?_)
    · skip
      exact ret () _ _ _ _ _ _ (⟨h1, Int32.not_lt.mpr h2⟩) (hP.sub [] rfl) (hK.sub [] rfl) (hD.sub [] (by decide) rfl) hS (Nat.le_of_ble_eq_true rfl) (Nat.le_of_ble_eq_true rfl) dX6_requireValue_23
    · skip
      exact thn "java/lang/IllegalArgumentException" _ ["java/lang/RuntimeException", "java/lang/Exception"] 67 287 71 _ _ _ _ 12 _ (⟨rfl, (fun h9 => ((fun h9 => h9 (Int32.not_le.mp h2))) h9.2)⟩) (by decide +kernel) (by decide +kernel) (hts (.classLink RX6 67 "java/lang/IllegalArgumentException") (List.mem_cons_of_mem _ (List.mem_append_left _ (List.mem_of_getElem? (i := 0) rfl)))) (hts (.initialized "java/lang/IllegalArgumentException") (List.mem_cons_of_mem _ (List.mem_append_left _ (List.mem_of_getElem? (i := 1) rfl)))) (hN.2 _ (List.mem_of_getElem? (i := 6) rfl)) (vx_hat (fun w h => hts w ((fun w h => List.mem_cons_of_mem _ (List.mem_append_right _ (h))) w h)) (B := [.castable "java/lang/IllegalArgumentException" "java/lang/IllegalArgumentException", .declares ⟨"java/lang/RuntimeException", "<init>", "(Ljava/lang/String;)V"⟩, .declares ⟨"java/lang/Exception", "<init>", "(Ljava/lang/String;)V"⟩, .declares ⟨"java/lang/Throwable", "<init>", "(Ljava/lang/String;)V"⟩]) (by decide +kernel) (vx_c (va_Nw.use rfl (hN.1 _ (List.mem_of_getElem? (i := 50) rfl))) (vx_c (va_Nw.use rfl (hN.1 _ (List.mem_of_getElem? (i := 51) rfl))) (vx_c (va_Nw.use rfl (hN.1 _ (List.mem_of_getElem? (i := 52) rfl))) (vx_c (va_Nw.use rfl (hN.1 _ (List.mem_of_getElem? (i := 53) rfl))) vx_n))))) (by decide +kernel) hS hl.1 (Nat.le_of_ble_eq_true rfl) (Nat.le_of_ble_eq_true rfl) (Nat.le_of_ble_eq_true rfl) (Nat.le_of_ble_eq_true rfl) dX6_requireValue_12 dX6_requireValue_15 (Or.inr ⟨dX6_requireValue_16, dX6_requireValue_19, dX6_requireValue_22⟩)

set_option maxHeartbeats 4000000 in
set_option maxRecDepth 100000 in
/-- newNet of an empty circuit: its number is 0 -/
theorem kX0_newNet (l : Launch) (dC : Nat → ClassId) (dI : Nat → Nat → Nat) (a aL aP aS : Nat) (cC : ClassId) (sz : Nat) : fMi l yX0_newNet wsX0_newNet ({ frames := 0, cells := 0, slots := 0, locals := 0 } : Room) dC dI [.ref a] [(a, .inr (3, [.int 0, .int 0, .ref aL, .ref aP, .ref aS])), (aL, .inl (cC, 10, .inl (fun _ => 0)))] [(cC, .char)] sz (fun (r : Int32) (u : Unit) => r = 0) (fun u => []) (fun u => []) := by
  refine oP_i (y := yX0_newNet) (cc := cX0_newNet) (maxL := 2) (by decide) rfl (Nat.le_of_ble_eq_true rfl) ?_
  intro p e s m args below meth c ls A Q hx hb hr hml hown hts hN hZ hA hin hlk hP hK hD hl ret
  have hS : va_S A s.heap s.heap [] := va_S.rf
  have hl : lv_has ls 2 [(0, .ref a)] := hl
  have hP : va_P (dC, dI) vwCl [(a, .inr (3, [.int 0, .int 0, .ref aL, .ref aP, .ref aS])), (aL, .inl (cC, 10, .inl (fun _ => 0)))] _ := hP
  have hD : va_D A [(a, .inr (3, [.int 0, .int 0, .ref aL, .ref aP, .ref aS])), (aL, .inl (cC, 10, .inl (fun _ => 0)))] := hD
  refine lv_aload_n hx hb dX0_newNet_0 rfl (lv_at hl 0 rfl) ?_
  refine va_get (D := (dC, dI)) (ci := 3) (v := .int 0) (C := RX0) (T := TX0) (N := 5) hx hb hts (fun w h => List.mem_cons_of_mem _ (List.mem_append_left _ (List.mem_append_right _ (h)))) hown hK hP 0 rfl rfl 0 (by decide) (hts (.fieldLink RX0 26 "Netcompare$Circuit" "netCount" "I") (List.mem_cons_of_mem _ (List.mem_append_left _ (List.mem_append_left _ (List.mem_of_getElem? (i := 0) rfl))))) (fun _ h9 => h9) rfl dX0_newNet_1 ?_
  refine lv_istore_n (lv' := [(1, .int 0), (0, .ref a)]) hx hb dX0_newNet_4 rfl hl (Nat.le_of_ble_eq_true rfl) rfl (fun ls hl => ?_)
  refine lv_aload_n hx hb dX0_newNet_5 rfl (lv_at hl 1 rfl) ?_
  refine va_get (D := (dC, dI)) (ci := 3) (v := .ref aL) (C := RX0) (T := TX0) (N := 5) hx hb hts (fun w h => List.mem_cons_of_mem _ (List.mem_append_left _ (List.mem_append_right _ (h)))) hown hK hP 0 rfl rfl 2 (by decide) (hts (.fieldLink RX0 9 "Netcompare$Circuit" "letter" "[C") (List.mem_cons_of_mem _ (List.mem_append_left _ (List.mem_append_left _ (List.mem_of_getElem? (i := 1) rfl))))) (fun _ h9 => h9) rfl dX0_newNet_6 ?_
  refine lv_iload_n hx hb dX0_newNet_9 rfl (lv_at hl 0 rfl) ?_
  refine lv_bipush (v := 45) hx hb dX0_newNet_10 (by decide) ?_
  refine va_cast hx hb hK hP hD hS 1 0 rfl rfl (show ¬ (_ ∨ _) by decide) dX0_newNet_12 (fun H locs hP hD hS => ?_)
  have hP : va_P (dC, dI) vwCl [(a, .inr (3, [.int 0, .int 0, .ref aL, .ref aP, .ref aS])), (aL, .inl (cC, 10, .inl (upd (fun _ => 0) 0 (vp_nar .char 45))))] _ := hP
  have hD : va_D A [(a, .inr (3, [.int 0, .int 0, .ref aL, .ref aP, .ref aS])), (aL, .inl (cC, 10, .inl (upd (fun _ => 0) 0 (vp_nar .char 45))))] := hD
  rw [show vp_nar .char 45 = 45 from rfl] at hP hD
  have hP : va_P (dC, dI) vwCl [(a, .inr (3, [.int 0, .int 0, .ref aL, .ref aP, .ref aS])), (aL, .inl (cC, 10, .inl (upd (fun _ => 0) 0 45)))] _ := hP
  have hD : va_D A [(a, .inr (3, [.int 0, .int 0, .ref aL, .ref aP, .ref aS])), (aL, .inl (cC, 10, .inl (upd (fun _ => 0) 0 45)))] := hD
  refine lv_aload_n hx hb dX0_newNet_13 rfl (lv_at hl 1 rfl) ?_
  refine lv_dup hx hb dX0_newNet_14 rfl ?_
  refine va_get (D := (dC, dI)) (ci := 3) (v := .int 0) (C := RX0) (T := TX0) (N := 5) hx hb hts (fun w h => List.mem_cons_of_mem _ (List.mem_append_left _ (List.mem_append_right _ (h)))) hown hK hP 0 rfl rfl 0 (by decide) (hts (.fieldLink RX0 26 "Netcompare$Circuit" "netCount" "I") (List.mem_cons_of_mem _ (List.mem_append_left _ (List.mem_append_left _ (List.mem_of_getElem? (i := 0) rfl))))) (fun _ h9 => h9) rfl dX0_newNet_15 ?_
  refine lv_iconst (v := 1) hx hb dX0_newNet_18 (by decide) ?_
  refine lv_iadd hx hb dX0_newNet_19 ?_
  refine lv_topi (fun y1 ey1 => ?_)
  obtain rfl : y1 = 1 := ey1.trans (by decide)
  refine va_put (D := (dC, dI)) (ci := 3) (v := .int 1) (ty := .int) (C := RX0) (T := TX0) (N := 5) hx hb hts (fun w h => List.mem_cons_of_mem _ (List.mem_append_left _ (List.mem_append_right _ (h)))) tyX0 tyX0_ok nmX0 hown hK hP hD hS 0 rfl rfl 0 (by decide) (hts (.fieldLink RX0 26 "Netcompare$Circuit" "netCount" "I") (List.mem_cons_of_mem _ (List.mem_append_left _ (List.mem_append_left _ (List.mem_of_getElem? (i := 0) rfl))))) (fun _ h9 => h9) rfl (by decide +kernel) rfl rfl (Nat.le_of_ble_eq_true rfl) dX0_newNet_20 (fun H locs hP hD hS => ?_)
  have hP : va_P (dC, dI) vwCl [(a, .inr (3, [.int 1, .int 0, .ref aL, .ref aP, .ref aS])), (aL, .inl (cC, 10, .inl (upd (fun _ => 0) 0 45)))] _ := hP
  have hD : va_D A [(a, .inr (3, [.int 1, .int 0, .ref aL, .ref aP, .ref aS])), (aL, .inl (cC, 10, .inl (upd (fun _ => 0) 0 45)))] := hD
  refine lv_iload_n hx hb dX0_newNet_23 rfl (lv_at hl 0 rfl) ?_
  exact ret _ () _ _ _ _ _ _ (rfl) (hP.sub [] rfl) (hK.sub [] rfl) (hD.sub [] (by decide) rfl) hS (Nat.le_of_ble_eq_true rfl) (Nat.le_of_ble_eq_true rfl) dX0_newNet_24

set_option maxHeartbeats 4000000 in
set_option maxRecDepth 100000 in
/-- Part.copyFrom -/
theorem kX5_copyFrom (l : Launch) (dC : Nat → ClassId) (dI : Nat → Nat → Nat) (a aN aB b bN bB : Nat) (cI : ClassId) (sz : Nat) : fMv l yX5_copyFrom wsX5_copyFrom ({ frames := 1, cells := 0, slots := 0, locals := 30 } : Room) dC dI [.ref a, .ref b] [(a, .inr (8, [.int 0, .int 0, .int 0, .int 0, .ref aN, .ref aB])), (aN, .inl (cI, 3, .inl (fun _ => 0))), (b, .inr (8, [.int 0, .int 0, .int 0, .int 0, .ref bN, .ref bB])), (bN, .inl (cI, 3, .inl (fun _ => 0)))] [(cI, .int)] sz (fun (u : Unit) => True) (fun u => []) (fun u => []) := by
  refine oP_v (y := yX5_copyFrom) (cc := cX5_copyFrom) (maxL := 2) (by decide) rfl (Nat.le_of_ble_eq_true rfl) ?_
  intro p e s m args below meth c ls A Q hx hb hr hml hown hts hN hZ hA hin hlk hP hK hD hl ret
  have hS : va_S A s.heap s.heap [] := va_S.rf
  have hl : lv_has ls 2 [(0, .ref a), (1, .ref b)] := hl
  have hP : va_P (dC, dI) vwCl [(a, .inr (8, [.int 0, .int 0, .int 0, .int 0, .ref aN, .ref aB])), (aN, .inl (cI, 3, .inl (fun _ => 0))), (b, .inr (8, [.int 0, .int 0, .int 0, .int 0, .ref bN, .ref bB])), (bN, .inl (cI, 3, .inl (fun _ => 0)))] _ := hP
  have hD : va_D A [(a, .inr (8, [.int 0, .int 0, .int 0, .int 0, .ref aN, .ref aB])), (aN, .inl (cI, 3, .inl (fun _ => 0))), (b, .inr (8, [.int 0, .int 0, .int 0, .int 0, .ref bN, .ref bB])), (bN, .inl (cI, 3, .inl (fun _ => 0)))] := hD
  refine lv_aload_n hx hb dX5_copyFrom_0 rfl (lv_at hl 0 rfl) ?_
  refine lv_aload_n hx hb dX5_copyFrom_1 rfl (lv_at hl 1 rfl) ?_
  refine va_get (D := (dC, dI)) (ci := 8) (v := .int 0) (C := RX5) (T := TX5) (N := 6) hx hb hts (fun w h => List.mem_cons_of_mem _ (List.mem_append_right _ (h))) hown hK hP 2 rfl rfl 0 (by decide) (hts (.fieldLink RX5 19 "Netcompare$Part" "kind" "C") (List.mem_cons_of_mem _ (List.mem_append_left _ (List.mem_of_getElem? (i := 0) rfl)))) (fun _ h9 => h9) rfl dX5_copyFrom_2 ?_
  refine va_put (D := (dC, dI)) (ci := 8) (v := .int 0) (ty := .char) (C := RX5) (T := TX5) (N := 6) hx hb hts (fun w h => List.mem_cons_of_mem _ (List.mem_append_right _ (h))) tyX5 tyX5_ok nmX5 hown hK hP hD hS 0 rfl rfl 0 (by decide) (hts (.fieldLink RX5 19 "Netcompare$Part" "kind" "C") (List.mem_cons_of_mem _ (List.mem_append_left _ (List.mem_of_getElem? (i := 0) rfl)))) (fun _ h9 => h9) rfl (by decide +kernel) rfl rfl (Nat.le_of_ble_eq_true rfl) dX5_copyFrom_5 (fun H locs hP hD hS => ?_)
  have hP : va_P (dC, dI) vwCl [(a, .inr (8, [.int 0, .int 0, .int 0, .int 0, .ref aN, .ref aB])), (aN, .inl (cI, 3, .inl (fun _ => 0))), (b, .inr (8, [.int 0, .int 0, .int 0, .int 0, .ref bN, .ref bB])), (bN, .inl (cI, 3, .inl (fun _ => 0)))] _ := hP
  have hD : va_D A [(a, .inr (8, [.int 0, .int 0, .int 0, .int 0, .ref aN, .ref aB])), (aN, .inl (cI, 3, .inl (fun _ => 0))), (b, .inr (8, [.int 0, .int 0, .int 0, .int 0, .ref bN, .ref bB])), (bN, .inl (cI, 3, .inl (fun _ => 0)))] := hD
  refine lv_aload_n hx hb dX5_copyFrom_8 rfl (lv_at hl 0 rfl) ?_
  refine lv_aload_n hx hb dX5_copyFrom_9 rfl (lv_at hl 1 rfl) ?_
  refine va_get (D := (dC, dI)) (ci := 8) (v := .int 0) (C := RX5) (T := TX5) (N := 6) hx hb hts (fun w h => List.mem_cons_of_mem _ (List.mem_append_right _ (h))) hown hK hP 2 rfl rfl 1 (by decide) (hts (.fieldLink RX5 23 "Netcompare$Part" "value" "I") (List.mem_cons_of_mem _ (List.mem_append_left _ (List.mem_of_getElem? (i := 1) rfl)))) (fun _ h9 => h9) rfl dX5_copyFrom_10 ?_
  refine va_put (D := (dC, dI)) (ci := 8) (v := .int 0) (ty := .int) (C := RX5) (T := TX5) (N := 6) hx hb hts (fun w h => List.mem_cons_of_mem _ (List.mem_append_right _ (h))) tyX5 tyX5_ok nmX5 hown hK hP hD hS 0 rfl rfl 1 (by decide) (hts (.fieldLink RX5 23 "Netcompare$Part" "value" "I") (List.mem_cons_of_mem _ (List.mem_append_left _ (List.mem_of_getElem? (i := 1) rfl)))) (fun _ h9 => h9) rfl (by decide +kernel) rfl rfl (Nat.le_of_ble_eq_true rfl) dX5_copyFrom_13 (fun H locs hP hD hS => ?_)
  have hP : va_P (dC, dI) vwCl [(a, .inr (8, [.int 0, .int 0, .int 0, .int 0, .ref aN, .ref aB])), (aN, .inl (cI, 3, .inl (fun _ => 0))), (b, .inr (8, [.int 0, .int 0, .int 0, .int 0, .ref bN, .ref bB])), (bN, .inl (cI, 3, .inl (fun _ => 0)))] _ := hP
  have hD : va_D A [(a, .inr (8, [.int 0, .int 0, .int 0, .int 0, .ref aN, .ref aB])), (aN, .inl (cI, 3, .inl (fun _ => 0))), (b, .inr (8, [.int 0, .int 0, .int 0, .int 0, .ref bN, .ref bB])), (bN, .inl (cI, 3, .inl (fun _ => 0)))] := hD
  refine lv_aload_n hx hb dX5_copyFrom_16 rfl (lv_at hl 0 rfl) ?_
  refine lv_aload_n hx hb dX5_copyFrom_17 rfl (lv_at hl 1 rfl) ?_
  refine va_get (D := (dC, dI)) (ci := 8) (v := .int 0) (C := RX5) (T := TX5) (N := 6) hx hb hts (fun w h => List.mem_cons_of_mem _ (List.mem_append_right _ (h))) hown hK hP 2 rfl rfl 2 (by decide) (hts (.fieldLink RX5 27 "Netcompare$Part" "pinCount" "I") (List.mem_cons_of_mem _ (List.mem_append_left _ (List.mem_of_getElem? (i := 2) rfl)))) (fun _ h9 => h9) rfl dX5_copyFrom_18 ?_
  refine va_put (D := (dC, dI)) (ci := 8) (v := .int 0) (ty := .int) (C := RX5) (T := TX5) (N := 6) hx hb hts (fun w h => List.mem_cons_of_mem _ (List.mem_append_right _ (h))) tyX5 tyX5_ok nmX5 hown hK hP hD hS 0 rfl rfl 2 (by decide) (hts (.fieldLink RX5 27 "Netcompare$Part" "pinCount" "I") (List.mem_cons_of_mem _ (List.mem_append_left _ (List.mem_of_getElem? (i := 2) rfl)))) (fun _ h9 => h9) rfl (by decide +kernel) rfl rfl (Nat.le_of_ble_eq_true rfl) dX5_copyFrom_21 (fun H locs hP hD hS => ?_)
  have hP : va_P (dC, dI) vwCl [(a, .inr (8, [.int 0, .int 0, .int 0, .int 0, .ref aN, .ref aB])), (aN, .inl (cI, 3, .inl (fun _ => 0))), (b, .inr (8, [.int 0, .int 0, .int 0, .int 0, .ref bN, .ref bB])), (bN, .inl (cI, 3, .inl (fun _ => 0)))] _ := hP
  have hD : va_D A [(a, .inr (8, [.int 0, .int 0, .int 0, .int 0, .ref aN, .ref aB])), (aN, .inl (cI, 3, .inl (fun _ => 0))), (b, .inr (8, [.int 0, .int 0, .int 0, .int 0, .ref bN, .ref bB])), (bN, .inl (cI, 3, .inl (fun _ => 0)))] := hD
  refine lv_aload_n hx hb dX5_copyFrom_24 rfl (lv_at hl 0 rfl) ?_
  refine lv_aload_n hx hb dX5_copyFrom_25 rfl (lv_at hl 1 rfl) ?_
  refine va_get (D := (dC, dI)) (ci := 8) (v := .int 0) (C := RX5) (T := TX5) (N := 6) hx hb hts (fun w h => List.mem_cons_of_mem _ (List.mem_append_right _ (h))) hown hK hP 2 rfl rfl 3 (by decide) (hts (.fieldLink RX5 30 "Netcompare$Part" "firstSwappable" "I") (List.mem_cons_of_mem _ (List.mem_append_left _ (List.mem_of_getElem? (i := 3) rfl)))) (fun _ h9 => h9) rfl dX5_copyFrom_26 ?_
  refine va_put (D := (dC, dI)) (ci := 8) (v := .int 0) (ty := .int) (C := RX5) (T := TX5) (N := 6) hx hb hts (fun w h => List.mem_cons_of_mem _ (List.mem_append_right _ (h))) tyX5 tyX5_ok nmX5 hown hK hP hD hS 0 rfl rfl 3 (by decide) (hts (.fieldLink RX5 30 "Netcompare$Part" "firstSwappable" "I") (List.mem_cons_of_mem _ (List.mem_append_left _ (List.mem_of_getElem? (i := 3) rfl)))) (fun _ h9 => h9) rfl (by decide +kernel) rfl rfl (Nat.le_of_ble_eq_true rfl) dX5_copyFrom_29 (fun H locs hP hD hS => ?_)
  have hP : va_P (dC, dI) vwCl [(a, .inr (8, [.int 0, .int 0, .int 0, .int 0, .ref aN, .ref aB])), (aN, .inl (cI, 3, .inl (fun _ => 0))), (b, .inr (8, [.int 0, .int 0, .int 0, .int 0, .ref bN, .ref bB])), (bN, .inl (cI, 3, .inl (fun _ => 0)))] _ := hP
  have hD : va_D A [(a, .inr (8, [.int 0, .int 0, .int 0, .int 0, .ref aN, .ref aB])), (aN, .inl (cI, 3, .inl (fun _ => 0))), (b, .inr (8, [.int 0, .int 0, .int 0, .int 0, .ref bN, .ref bB])), (bN, .inl (cI, 3, .inl (fun _ => 0)))] := hD
  refine lv_aload_n hx hb dX5_copyFrom_32 rfl (lv_at hl 1 rfl) ?_
  refine va_get (D := (dC, dI)) (ci := 8) (v := .ref bN) (C := RX5) (T := TX5) (N := 6) hx hb hts (fun w h => List.mem_cons_of_mem _ (List.mem_append_right _ (h))) hown hK hP 2 rfl rfl 4 (by decide) (hts (.fieldLink RX5 9 "Netcompare$Part" "net" "[I") (List.mem_cons_of_mem _ (List.mem_append_left _ (List.mem_of_getElem? (i := 4) rfl)))) (fun _ h9 => h9) rfl dX5_copyFrom_33 ?_
  refine lv_iconst (v := 0) hx hb dX5_copyFrom_36 (by decide) ?_
  refine lv_aload_n hx hb dX5_copyFrom_37 rfl (lv_at hl 0 rfl) ?_
  refine va_get (D := (dC, dI)) (ci := 8) (v := .ref aN) (C := RX5) (T := TX5) (N := 6) hx hb hts (fun w h => List.mem_cons_of_mem _ (List.mem_append_right _ (h))) hown hK hP 0 rfl rfl 4 (by decide) (hts (.fieldLink RX5 9 "Netcompare$Part" "net" "[I") (List.mem_cons_of_mem _ (List.mem_append_left _ (List.mem_of_getElem? (i := 4) rfl)))) (fun _ h9 => h9) rfl dX5_copyFrom_38 ?_
  refine lv_iconst (v := 0) hx hb dX5_copyFrom_41 (by decide) ?_
  refine lv_iconst (v := 3) hx hb dX5_copyFrom_42 (by decide) ?_
  refine va_copyi hx hb (hml.trans hl.1.symm) hown (hts (.methodLink RX5 33 arraycopyName) (List.mem_cons_of_mem _ (List.mem_append_left _ (List.mem_of_getElem? (i := 5) rfl)))) (hts (.native arraycopyName) (List.mem_cons_of_mem _ (List.mem_append_left _ (List.mem_of_getElem? (i := 6) rfl)))) (hts (.static arraycopyName) (List.mem_cons_of_mem _ (List.mem_append_left _ (List.mem_of_getElem? (i := 7) rfl)))) (hts (.initialized "java/lang/System") (List.mem_cons_of_mem _ (List.mem_append_left _ (List.mem_of_getElem? (i := 8) rfl)))) hK hP hD hS 3 1 0 0 rfl rfl rfl rfl rfl (by decide) (by decide) (by decide) (by decide) (by decide) (fun _ _ => by decide) (Nat.le_of_ble_eq_true rfl) (Nat.le_of_ble_eq_true rfl) dX5_copyFrom_43 (fun H locs hP hD hS => ?_)
  have hP : va_P (dC, dI) vwCl [(a, .inr (8, [.int 0, .int 0, .int 0, .int 0, .ref aN, .ref aB])), (aN, .inl (cI, 3, .inl (va_cpy (fun _ => 0) (fun _ => 0) 0 0 3))), (b, .inr (8, [.int 0, .int 0, .int 0, .int 0, .ref bN, .ref bB])), (bN, .inl (cI, 3, .inl (fun _ => 0)))] _ := hP
  have hD : va_D A [(a, .inr (8, [.int 0, .int 0, .int 0, .int 0, .ref aN, .ref aB])), (aN, .inl (cI, 3, .inl (va_cpy (fun _ => 0) (fun _ => 0) 0 0 3))), (b, .inr (8, [.int 0, .int 0, .int 0, .int 0, .ref bN, .ref bB])), (bN, .inl (cI, 3, .inl (fun _ => 0)))] := hD
  rw [fCp0] at hP hD
  have hP : va_P (dC, dI) vwCl [(a, .inr (8, [.int 0, .int 0, .int 0, .int 0, .ref aN, .ref aB])), (aN, .inl (cI, 3, .inl (fun _ => 0))), (b, .inr (8, [.int 0, .int 0, .int 0, .int 0, .ref bN, .ref bB])), (bN, .inl (cI, 3, .inl (fun _ => 0)))] _ := hP
  have hD : va_D A [(a, .inr (8, [.int 0, .int 0, .int 0, .int 0, .ref aN, .ref aB])), (aN, .inl (cI, 3, .inl (fun _ => 0))), (b, .inr (8, [.int 0, .int 0, .int 0, .int 0, .ref bN, .ref bB])), (bN, .inl (cI, 3, .inl (fun _ => 0)))] := hD
  exact ret () _ _ _ _ _ _ (trivial) (hP.sub [] rfl) (hK.sub [] rfl) (hD.sub [] (by decide) rfl) hS (Nat.le_of_ble_eq_true rfl) (Nat.le_of_ble_eq_true rfl) dX5_copyFrom_46

set_option maxHeartbeats 4000000 in
set_option maxRecDepth 100000 in
/-- Circuit.copyFrom: an empty one from an empty one -/
theorem kX0_copyFrom (l : Launch) (dC : Nat → ClassId) (dI : Nat → Nat → Nat) (a aL aP aS b bL bP bS : Nat) (a0 a0N a0B a1 a1N a1B a2 a2N a2B a3 a3N a3B a4 a4N a4B a5 a5N a5B a6 a6N a6B a7 a7N a7B a8 a8N a8B a9 a9N a9B b0 b0N b0B b1 b1N b1B b2 b2N b2B b3 b3N b3B b4 b4N b4B b5 b5N b5B b6 b6N b6B b7 b7N b7B b8 b8N b8B b9 b9N b9B : Nat) (cC cI cP : ClassId) (sz : Nat) : fMv l yX0_copyFrom wsX0_copyFrom ({ frames := 2, cells := 0, slots := 0, locals := 51 } : Room) dC dI [.ref a, .ref b] [(a, .inr (3, [.int 0, .int 0, .ref aL, .ref aP, .ref aS])), (b, .inr (3, [.int 0, .int 0, .ref bL, .ref bP, .ref bS])), (aL, .inl (cC, 10, .inl (fun _ => 0))), (bL, .inl (cC, 10, .inl (fun _ => 0))), (aP, .inl (cP, 10, .inr (.inr (.inr (.inr (fch a0 a1 a2 a3 a4 a5 a6 a7 a8 a9)))))), (bP, .inl (cP, 10, .inr (.inr (.inr (.inr (fch b0 b1 b2 b3 b4 b5 b6 b7 b8 b9)))))), (a0, .inr (8, [.int 0, .int 0, .int 0, .int 0, .ref a0N, .ref a0B])), (a0N, .inl (cI, 3, .inl (fun _ => 0))), (a1, .inr (8, [.int 0, .int 0, .int 0, .int 0, .ref a1N, .ref a1B])), (a1N, .inl (cI, 3, .inl (fun _ => 0))), (a2, .inr (8, [.int 0, .int 0, .int 0, .int 0, .ref a2N, .ref a2B])), (a2N, .inl (cI, 3, .inl (fun _ => 0))), (a3, .inr (8, [.int 0, .int 0, .int 0, .int 0, .ref a3N, .ref a3B])), (a3N, .inl (cI, 3, .inl (fun _ => 0))), (a4, .inr (8, [.int 0, .int 0, .int 0, .int 0, .ref a4N, .ref a4B])), (a4N, .inl (cI, 3, .inl (fun _ => 0))), (a5, .inr (8, [.int 0, .int 0, .int 0, .int 0, .ref a5N, .ref a5B])), (a5N, .inl (cI, 3, .inl (fun _ => 0))), (a6, .inr (8, [.int 0, .int 0, .int 0, .int 0, .ref a6N, .ref a6B])), (a6N, .inl (cI, 3, .inl (fun _ => 0))), (a7, .inr (8, [.int 0, .int 0, .int 0, .int 0, .ref a7N, .ref a7B])), (a7N, .inl (cI, 3, .inl (fun _ => 0))), (a8, .inr (8, [.int 0, .int 0, .int 0, .int 0, .ref a8N, .ref a8B])), (a8N, .inl (cI, 3, .inl (fun _ => 0))), (a9, .inr (8, [.int 0, .int 0, .int 0, .int 0, .ref a9N, .ref a9B])), (a9N, .inl (cI, 3, .inl (fun _ => 0))), (b0, .inr (8, [.int 0, .int 0, .int 0, .int 0, .ref b0N, .ref b0B])), (b0N, .inl (cI, 3, .inl (fun _ => 0))), (b1, .inr (8, [.int 0, .int 0, .int 0, .int 0, .ref b1N, .ref b1B])), (b1N, .inl (cI, 3, .inl (fun _ => 0))), (b2, .inr (8, [.int 0, .int 0, .int 0, .int 0, .ref b2N, .ref b2B])), (b2N, .inl (cI, 3, .inl (fun _ => 0))), (b3, .inr (8, [.int 0, .int 0, .int 0, .int 0, .ref b3N, .ref b3B])), (b3N, .inl (cI, 3, .inl (fun _ => 0))), (b4, .inr (8, [.int 0, .int 0, .int 0, .int 0, .ref b4N, .ref b4B])), (b4N, .inl (cI, 3, .inl (fun _ => 0))), (b5, .inr (8, [.int 0, .int 0, .int 0, .int 0, .ref b5N, .ref b5B])), (b5N, .inl (cI, 3, .inl (fun _ => 0))), (b6, .inr (8, [.int 0, .int 0, .int 0, .int 0, .ref b6N, .ref b6B])), (b6N, .inl (cI, 3, .inl (fun _ => 0))), (b7, .inr (8, [.int 0, .int 0, .int 0, .int 0, .ref b7N, .ref b7B])), (b7N, .inl (cI, 3, .inl (fun _ => 0))), (b8, .inr (8, [.int 0, .int 0, .int 0, .int 0, .ref b8N, .ref b8B])), (b8N, .inl (cI, 3, .inl (fun _ => 0))), (b9, .inr (8, [.int 0, .int 0, .int 0, .int 0, .ref b9N, .ref b9B])), (b9N, .inl (cI, 3, .inl (fun _ => 0)))] [(cC, .char), (cI, .int), (cP, .object "Netcompare$Part")] sz (fun (u : Unit) => True) (fun u => [(a, .inr (3, [.int 0, .int 0, .ref aL, .ref aP, .ref aS]))]) (fun u => []) := by
  refine oP_v (y := yX0_copyFrom) (cc := cX0_copyFrom) (maxL := 3) (by decide) rfl (Nat.le_of_ble_eq_true rfl) ?_
  intro p e s m args below meth c ls A Q hx hb hr hml hown hts hN hZ hA hin hlk hP hK hD hl ret
  have hS : va_S A s.heap s.heap [] := va_S.rf
  have hl : lv_has ls 3 [(0, .ref a), (1, .ref b)] := hl
  have hP : va_P (dC, dI) vwCl [(a, .inr (3, [.int 0, .int 0, .ref aL, .ref aP, .ref aS])), (b, .inr (3, [.int 0, .int 0, .ref bL, .ref bP, .ref bS])), (aL, .inl (cC, 10, .inl (fun _ => 0))), (bL, .inl (cC, 10, .inl (fun _ => 0))), (aP, .inl (cP, 10, .inr (.inr (.inr (.inr (fch a0 a1 a2 a3 a4 a5 a6 a7 a8 a9)))))), (bP, .inl (cP, 10, .inr (.inr (.inr (.inr (fch b0 b1 b2 b3 b4 b5 b6 b7 b8 b9)))))), (a0, .inr (8, [.int 0, .int 0, .int 0, .int 0, .ref a0N, .ref a0B])), (a0N, .inl (cI, 3, .inl (fun _ => 0))), (a1, .inr (8, [.int 0, .int 0, .int 0, .int 0, .ref a1N, .ref a1B])), (a1N, .inl (cI, 3, .inl (fun _ => 0))), (a2, .inr (8, [.int 0, .int 0, .int 0, .int 0, .ref a2N, .ref a2B])), (a2N, .inl (cI, 3, .inl (fun _ => 0))), (a3, .inr (8, [.int 0, .int 0, .int 0, .int 0, .ref a3N, .ref a3B])), (a3N, .inl (cI, 3, .inl (fun _ => 0))), (a4, .inr (8, [.int 0, .int 0, .int 0, .int 0, .ref a4N, .ref a4B])), (a4N, .inl (cI, 3, .inl (fun _ => 0))), (a5, .inr (8, [.int 0, .int 0, .int 0, .int 0, .ref a5N, .ref a5B])), (a5N, .inl (cI, 3, .inl (fun _ => 0))), (a6, .inr (8, [.int 0, .int 0, .int 0, .int 0, .ref a6N, .ref a6B])), (a6N, .inl (cI, 3, .inl (fun _ => 0))), (a7, .inr (8, [.int 0, .int 0, .int 0, .int 0, .ref a7N, .ref a7B])), (a7N, .inl (cI, 3, .inl (fun _ => 0))), (a8, .inr (8, [.int 0, .int 0, .int 0, .int 0, .ref a8N, .ref a8B])), (a8N, .inl (cI, 3, .inl (fun _ => 0))), (a9, .inr (8, [.int 0, .int 0, .int 0, .int 0, .ref a9N, .ref a9B])), (a9N, .inl (cI, 3, .inl (fun _ => 0))), (b0, .inr (8, [.int 0, .int 0, .int 0, .int 0, .ref b0N, .ref b0B])), (b0N, .inl (cI, 3, .inl (fun _ => 0))), (b1, .inr (8, [.int 0, .int 0, .int 0, .int 0, .ref b1N, .ref b1B])), (b1N, .inl (cI, 3, .inl (fun _ => 0))), (b2, .inr (8, [.int 0, .int 0, .int 0, .int 0, .ref b2N, .ref b2B])), (b2N, .inl (cI, 3, .inl (fun _ => 0))), (b3, .inr (8, [.int 0, .int 0, .int 0, .int 0, .ref b3N, .ref b3B])), (b3N, .inl (cI, 3, .inl (fun _ => 0))), (b4, .inr (8, [.int 0, .int 0, .int 0, .int 0, .ref b4N, .ref b4B])), (b4N, .inl (cI, 3, .inl (fun _ => 0))), (b5, .inr (8, [.int 0, .int 0, .int 0, .int 0, .ref b5N, .ref b5B])), (b5N, .inl (cI, 3, .inl (fun _ => 0))), (b6, .inr (8, [.int 0, .int 0, .int 0, .int 0, .ref b6N, .ref b6B])), (b6N, .inl (cI, 3, .inl (fun _ => 0))), (b7, .inr (8, [.int 0, .int 0, .int 0, .int 0, .ref b7N, .ref b7B])), (b7N, .inl (cI, 3, .inl (fun _ => 0))), (b8, .inr (8, [.int 0, .int 0, .int 0, .int 0, .ref b8N, .ref b8B])), (b8N, .inl (cI, 3, .inl (fun _ => 0))), (b9, .inr (8, [.int 0, .int 0, .int 0, .int 0, .ref b9N, .ref b9B])), (b9N, .inl (cI, 3, .inl (fun _ => 0)))] _ := hP
  have hD : va_D A [(a, .inr (3, [.int 0, .int 0, .ref aL, .ref aP, .ref aS])), (b, .inr (3, [.int 0, .int 0, .ref bL, .ref bP, .ref bS])), (aL, .inl (cC, 10, .inl (fun _ => 0))), (bL, .inl (cC, 10, .inl (fun _ => 0))), (aP, .inl (cP, 10, .inr (.inr (.inr (.inr (fch a0 a1 a2 a3 a4 a5 a6 a7 a8 a9)))))), (bP, .inl (cP, 10, .inr (.inr (.inr (.inr (fch b0 b1 b2 b3 b4 b5 b6 b7 b8 b9)))))), (a0, .inr (8, [.int 0, .int 0, .int 0, .int 0, .ref a0N, .ref a0B])), (a0N, .inl (cI, 3, .inl (fun _ => 0))), (a1, .inr (8, [.int 0, .int 0, .int 0, .int 0, .ref a1N, .ref a1B])), (a1N, .inl (cI, 3, .inl (fun _ => 0))), (a2, .inr (8, [.int 0, .int 0, .int 0, .int 0, .ref a2N, .ref a2B])), (a2N, .inl (cI, 3, .inl (fun _ => 0))), (a3, .inr (8, [.int 0, .int 0, .int 0, .int 0, .ref a3N, .ref a3B])), (a3N, .inl (cI, 3, .inl (fun _ => 0))), (a4, .inr (8, [.int 0, .int 0, .int 0, .int 0, .ref a4N, .ref a4B])), (a4N, .inl (cI, 3, .inl (fun _ => 0))), (a5, .inr (8, [.int 0, .int 0, .int 0, .int 0, .ref a5N, .ref a5B])), (a5N, .inl (cI, 3, .inl (fun _ => 0))), (a6, .inr (8, [.int 0, .int 0, .int 0, .int 0, .ref a6N, .ref a6B])), (a6N, .inl (cI, 3, .inl (fun _ => 0))), (a7, .inr (8, [.int 0, .int 0, .int 0, .int 0, .ref a7N, .ref a7B])), (a7N, .inl (cI, 3, .inl (fun _ => 0))), (a8, .inr (8, [.int 0, .int 0, .int 0, .int 0, .ref a8N, .ref a8B])), (a8N, .inl (cI, 3, .inl (fun _ => 0))), (a9, .inr (8, [.int 0, .int 0, .int 0, .int 0, .ref a9N, .ref a9B])), (a9N, .inl (cI, 3, .inl (fun _ => 0))), (b0, .inr (8, [.int 0, .int 0, .int 0, .int 0, .ref b0N, .ref b0B])), (b0N, .inl (cI, 3, .inl (fun _ => 0))), (b1, .inr (8, [.int 0, .int 0, .int 0, .int 0, .ref b1N, .ref b1B])), (b1N, .inl (cI, 3, .inl (fun _ => 0))), (b2, .inr (8, [.int 0, .int 0, .int 0, .int 0, .ref b2N, .ref b2B])), (b2N, .inl (cI, 3, .inl (fun _ => 0))), (b3, .inr (8, [.int 0, .int 0, .int 0, .int 0, .ref b3N, .ref b3B])), (b3N, .inl (cI, 3, .inl (fun _ => 0))), (b4, .inr (8, [.int 0, .int 0, .int 0, .int 0, .ref b4N, .ref b4B])), (b4N, .inl (cI, 3, .inl (fun _ => 0))), (b5, .inr (8, [.int 0, .int 0, .int 0, .int 0, .ref b5N, .ref b5B])), (b5N, .inl (cI, 3, .inl (fun _ => 0))), (b6, .inr (8, [.int 0, .int 0, .int 0, .int 0, .ref b6N, .ref b6B])), (b6N, .inl (cI, 3, .inl (fun _ => 0))), (b7, .inr (8, [.int 0, .int 0, .int 0, .int 0, .ref b7N, .ref b7B])), (b7N, .inl (cI, 3, .inl (fun _ => 0))), (b8, .inr (8, [.int 0, .int 0, .int 0, .int 0, .ref b8N, .ref b8B])), (b8N, .inl (cI, 3, .inl (fun _ => 0))), (b9, .inr (8, [.int 0, .int 0, .int 0, .int 0, .ref b9N, .ref b9B])), (b9N, .inl (cI, 3, .inl (fun _ => 0)))] := hD
  refine lv_aload_n hx hb dX0_copyFrom_0 rfl (lv_at hl 0 rfl) ?_
  refine lv_aload_n hx hb dX0_copyFrom_1 rfl (lv_at hl 1 rfl) ?_
  refine va_get (D := (dC, dI)) (ci := 3) (v := .int 0) (C := RX0) (T := TX0) (N := 5) hx hb hts (fun w h => List.mem_cons_of_mem _ (List.mem_append_left _ (List.mem_append_right _ (h)))) hown hK hP 1 rfl rfl 0 (by decide) (hts (.fieldLink RX0 26 "Netcompare$Circuit" "netCount" "I") (List.mem_cons_of_mem _ (List.mem_append_left _ (List.mem_append_left _ (List.mem_of_getElem? (i := 0) rfl))))) (fun _ h9 => h9) rfl dX0_copyFrom_2 ?_
  refine va_put (D := (dC, dI)) (ci := 3) (v := .int 0) (ty := .int) (C := RX0) (T := TX0) (N := 5) hx hb hts (fun w h => List.mem_cons_of_mem _ (List.mem_append_left _ (List.mem_append_right _ (h)))) tyX0 tyX0_ok nmX0 hown hK hP hD hS 0 rfl rfl 0 (by decide) (hts (.fieldLink RX0 26 "Netcompare$Circuit" "netCount" "I") (List.mem_cons_of_mem _ (List.mem_append_left _ (List.mem_append_left _ (List.mem_of_getElem? (i := 0) rfl))))) (fun _ h9 => h9) rfl (by decide +kernel) rfl rfl (Nat.le_of_ble_eq_true rfl) dX0_copyFrom_5 (fun H locs hP hD hS => ?_)
  have hP : va_P (dC, dI) vwCl [(a, .inr (3, [.int 0, .int 0, .ref aL, .ref aP, .ref aS])), (b, .inr (3, [.int 0, .int 0, .ref bL, .ref bP, .ref bS])), (aL, .inl (cC, 10, .inl (fun _ => 0))), (bL, .inl (cC, 10, .inl (fun _ => 0))), (aP, .inl (cP, 10, .inr (.inr (.inr (.inr (fch a0 a1 a2 a3 a4 a5 a6 a7 a8 a9)))))), (bP, .inl (cP, 10, .inr (.inr (.inr (.inr (fch b0 b1 b2 b3 b4 b5 b6 b7 b8 b9)))))), (a0, .inr (8, [.int 0, .int 0, .int 0, .int 0, .ref a0N, .ref a0B])), (a0N, .inl (cI, 3, .inl (fun _ => 0))), (a1, .inr (8, [.int 0, .int 0, .int 0, .int 0, .ref a1N, .ref a1B])), (a1N, .inl (cI, 3, .inl (fun _ => 0))), (a2, .inr (8, [.int 0, .int 0, .int 0, .int 0, .ref a2N, .ref a2B])), (a2N, .inl (cI, 3, .inl (fun _ => 0))), (a3, .inr (8, [.int 0, .int 0, .int 0, .int 0, .ref a3N, .ref a3B])), (a3N, .inl (cI, 3, .inl (fun _ => 0))), (a4, .inr (8, [.int 0, .int 0, .int 0, .int 0, .ref a4N, .ref a4B])), (a4N, .inl (cI, 3, .inl (fun _ => 0))), (a5, .inr (8, [.int 0, .int 0, .int 0, .int 0, .ref a5N, .ref a5B])), (a5N, .inl (cI, 3, .inl (fun _ => 0))), (a6, .inr (8, [.int 0, .int 0, .int 0, .int 0, .ref a6N, .ref a6B])), (a6N, .inl (cI, 3, .inl (fun _ => 0))), (a7, .inr (8, [.int 0, .int 0, .int 0, .int 0, .ref a7N, .ref a7B])), (a7N, .inl (cI, 3, .inl (fun _ => 0))), (a8, .inr (8, [.int 0, .int 0, .int 0, .int 0, .ref a8N, .ref a8B])), (a8N, .inl (cI, 3, .inl (fun _ => 0))), (a9, .inr (8, [.int 0, .int 0, .int 0, .int 0, .ref a9N, .ref a9B])), (a9N, .inl (cI, 3, .inl (fun _ => 0))), (b0, .inr (8, [.int 0, .int 0, .int 0, .int 0, .ref b0N, .ref b0B])), (b0N, .inl (cI, 3, .inl (fun _ => 0))), (b1, .inr (8, [.int 0, .int 0, .int 0, .int 0, .ref b1N, .ref b1B])), (b1N, .inl (cI, 3, .inl (fun _ => 0))), (b2, .inr (8, [.int 0, .int 0, .int 0, .int 0, .ref b2N, .ref b2B])), (b2N, .inl (cI, 3, .inl (fun _ => 0))), (b3, .inr (8, [.int 0, .int 0, .int 0, .int 0, .ref b3N, .ref b3B])), (b3N, .inl (cI, 3, .inl (fun _ => 0))), (b4, .inr (8, [.int 0, .int 0, .int 0, .int 0, .ref b4N, .ref b4B])), (b4N, .inl (cI, 3, .inl (fun _ => 0))), (b5, .inr (8, [.int 0, .int 0, .int 0, .int 0, .ref b5N, .ref b5B])), (b5N, .inl (cI, 3, .inl (fun _ => 0))), (b6, .inr (8, [.int 0, .int 0, .int 0, .int 0, .ref b6N, .ref b6B])), (b6N, .inl (cI, 3, .inl (fun _ => 0))), (b7, .inr (8, [.int 0, .int 0, .int 0, .int 0, .ref b7N, .ref b7B])), (b7N, .inl (cI, 3, .inl (fun _ => 0))), (b8, .inr (8, [.int 0, .int 0, .int 0, .int 0, .ref b8N, .ref b8B])), (b8N, .inl (cI, 3, .inl (fun _ => 0))), (b9, .inr (8, [.int 0, .int 0, .int 0, .int 0, .ref b9N, .ref b9B])), (b9N, .inl (cI, 3, .inl (fun _ => 0)))] _ := hP
  have hD : va_D A [(a, .inr (3, [.int 0, .int 0, .ref aL, .ref aP, .ref aS])), (b, .inr (3, [.int 0, .int 0, .ref bL, .ref bP, .ref bS])), (aL, .inl (cC, 10, .inl (fun _ => 0))), (bL, .inl (cC, 10, .inl (fun _ => 0))), (aP, .inl (cP, 10, .inr (.inr (.inr (.inr (fch a0 a1 a2 a3 a4 a5 a6 a7 a8 a9)))))), (bP, .inl (cP, 10, .inr (.inr (.inr (.inr (fch b0 b1 b2 b3 b4 b5 b6 b7 b8 b9)))))), (a0, .inr (8, [.int 0, .int 0, .int 0, .int 0, .ref a0N, .ref a0B])), (a0N, .inl (cI, 3, .inl (fun _ => 0))), (a1, .inr (8, [.int 0, .int 0, .int 0, .int 0, .ref a1N, .ref a1B])), (a1N, .inl (cI, 3, .inl (fun _ => 0))), (a2, .inr (8, [.int 0, .int 0, .int 0, .int 0, .ref a2N, .ref a2B])), (a2N, .inl (cI, 3, .inl (fun _ => 0))), (a3, .inr (8, [.int 0, .int 0, .int 0, .int 0, .ref a3N, .ref a3B])), (a3N, .inl (cI, 3, .inl (fun _ => 0))), (a4, .inr (8, [.int 0, .int 0, .int 0, .int 0, .ref a4N, .ref a4B])), (a4N, .inl (cI, 3, .inl (fun _ => 0))), (a5, .inr (8, [.int 0, .int 0, .int 0, .int 0, .ref a5N, .ref a5B])), (a5N, .inl (cI, 3, .inl (fun _ => 0))), (a6, .inr (8, [.int 0, .int 0, .int 0, .int 0, .ref a6N, .ref a6B])), (a6N, .inl (cI, 3, .inl (fun _ => 0))), (a7, .inr (8, [.int 0, .int 0, .int 0, .int 0, .ref a7N, .ref a7B])), (a7N, .inl (cI, 3, .inl (fun _ => 0))), (a8, .inr (8, [.int 0, .int 0, .int 0, .int 0, .ref a8N, .ref a8B])), (a8N, .inl (cI, 3, .inl (fun _ => 0))), (a9, .inr (8, [.int 0, .int 0, .int 0, .int 0, .ref a9N, .ref a9B])), (a9N, .inl (cI, 3, .inl (fun _ => 0))), (b0, .inr (8, [.int 0, .int 0, .int 0, .int 0, .ref b0N, .ref b0B])), (b0N, .inl (cI, 3, .inl (fun _ => 0))), (b1, .inr (8, [.int 0, .int 0, .int 0, .int 0, .ref b1N, .ref b1B])), (b1N, .inl (cI, 3, .inl (fun _ => 0))), (b2, .inr (8, [.int 0, .int 0, .int 0, .int 0, .ref b2N, .ref b2B])), (b2N, .inl (cI, 3, .inl (fun _ => 0))), (b3, .inr (8, [.int 0, .int 0, .int 0, .int 0, .ref b3N, .ref b3B])), (b3N, .inl (cI, 3, .inl (fun _ => 0))), (b4, .inr (8, [.int 0, .int 0, .int 0, .int 0, .ref b4N, .ref b4B])), (b4N, .inl (cI, 3, .inl (fun _ => 0))), (b5, .inr (8, [.int 0, .int 0, .int 0, .int 0, .ref b5N, .ref b5B])), (b5N, .inl (cI, 3, .inl (fun _ => 0))), (b6, .inr (8, [.int 0, .int 0, .int 0, .int 0, .ref b6N, .ref b6B])), (b6N, .inl (cI, 3, .inl (fun _ => 0))), (b7, .inr (8, [.int 0, .int 0, .int 0, .int 0, .ref b7N, .ref b7B])), (b7N, .inl (cI, 3, .inl (fun _ => 0))), (b8, .inr (8, [.int 0, .int 0, .int 0, .int 0, .ref b8N, .ref b8B])), (b8N, .inl (cI, 3, .inl (fun _ => 0))), (b9, .inr (8, [.int 0, .int 0, .int 0, .int 0, .ref b9N, .ref b9B])), (b9N, .inl (cI, 3, .inl (fun _ => 0)))] := hD
  refine lv_aload_n hx hb dX0_copyFrom_8 rfl (lv_at hl 0 rfl) ?_
  refine lv_aload_n hx hb dX0_copyFrom_9 rfl (lv_at hl 1 rfl) ?_
  refine va_get (D := (dC, dI)) (ci := 3) (v := .int 0) (C := RX0) (T := TX0) (N := 5) hx hb hts (fun w h => List.mem_cons_of_mem _ (List.mem_append_left _ (List.mem_append_right _ (h)))) hown hK hP 1 rfl rfl 1 (by decide) (hts (.fieldLink RX0 30 "Netcompare$Circuit" "addedParts" "I") (List.mem_cons_of_mem _ (List.mem_append_left _ (List.mem_append_left _ (List.mem_of_getElem? (i := 1) rfl))))) (fun _ h9 => h9) rfl dX0_copyFrom_10 ?_
  refine va_put (D := (dC, dI)) (ci := 3) (v := .int 0) (ty := .int) (C := RX0) (T := TX0) (N := 5) hx hb hts (fun w h => List.mem_cons_of_mem _ (List.mem_append_left _ (List.mem_append_right _ (h)))) tyX0 tyX0_ok nmX0 hown hK hP hD hS 0 rfl rfl 1 (by decide) (hts (.fieldLink RX0 30 "Netcompare$Circuit" "addedParts" "I") (List.mem_cons_of_mem _ (List.mem_append_left _ (List.mem_append_left _ (List.mem_of_getElem? (i := 1) rfl))))) (fun _ h9 => h9) rfl (by decide +kernel) rfl rfl (Nat.le_of_ble_eq_true rfl) dX0_copyFrom_13 (fun H locs hP hD hS => ?_)
  have hP : va_P (dC, dI) vwCl [(a, .inr (3, [.int 0, .int 0, .ref aL, .ref aP, .ref aS])), (b, .inr (3, [.int 0, .int 0, .ref bL, .ref bP, .ref bS])), (aL, .inl (cC, 10, .inl (fun _ => 0))), (bL, .inl (cC, 10, .inl (fun _ => 0))), (aP, .inl (cP, 10, .inr (.inr (.inr (.inr (fch a0 a1 a2 a3 a4 a5 a6 a7 a8 a9)))))), (bP, .inl (cP, 10, .inr (.inr (.inr (.inr (fch b0 b1 b2 b3 b4 b5 b6 b7 b8 b9)))))), (a0, .inr (8, [.int 0, .int 0, .int 0, .int 0, .ref a0N, .ref a0B])), (a0N, .inl (cI, 3, .inl (fun _ => 0))), (a1, .inr (8, [.int 0, .int 0, .int 0, .int 0, .ref a1N, .ref a1B])), (a1N, .inl (cI, 3, .inl (fun _ => 0))), (a2, .inr (8, [.int 0, .int 0, .int 0, .int 0, .ref a2N, .ref a2B])), (a2N, .inl (cI, 3, .inl (fun _ => 0))), (a3, .inr (8, [.int 0, .int 0, .int 0, .int 0, .ref a3N, .ref a3B])), (a3N, .inl (cI, 3, .inl (fun _ => 0))), (a4, .inr (8, [.int 0, .int 0, .int 0, .int 0, .ref a4N, .ref a4B])), (a4N, .inl (cI, 3, .inl (fun _ => 0))), (a5, .inr (8, [.int 0, .int 0, .int 0, .int 0, .ref a5N, .ref a5B])), (a5N, .inl (cI, 3, .inl (fun _ => 0))), (a6, .inr (8, [.int 0, .int 0, .int 0, .int 0, .ref a6N, .ref a6B])), (a6N, .inl (cI, 3, .inl (fun _ => 0))), (a7, .inr (8, [.int 0, .int 0, .int 0, .int 0, .ref a7N, .ref a7B])), (a7N, .inl (cI, 3, .inl (fun _ => 0))), (a8, .inr (8, [.int 0, .int 0, .int 0, .int 0, .ref a8N, .ref a8B])), (a8N, .inl (cI, 3, .inl (fun _ => 0))), (a9, .inr (8, [.int 0, .int 0, .int 0, .int 0, .ref a9N, .ref a9B])), (a9N, .inl (cI, 3, .inl (fun _ => 0))), (b0, .inr (8, [.int 0, .int 0, .int 0, .int 0, .ref b0N, .ref b0B])), (b0N, .inl (cI, 3, .inl (fun _ => 0))), (b1, .inr (8, [.int 0, .int 0, .int 0, .int 0, .ref b1N, .ref b1B])), (b1N, .inl (cI, 3, .inl (fun _ => 0))), (b2, .inr (8, [.int 0, .int 0, .int 0, .int 0, .ref b2N, .ref b2B])), (b2N, .inl (cI, 3, .inl (fun _ => 0))), (b3, .inr (8, [.int 0, .int 0, .int 0, .int 0, .ref b3N, .ref b3B])), (b3N, .inl (cI, 3, .inl (fun _ => 0))), (b4, .inr (8, [.int 0, .int 0, .int 0, .int 0, .ref b4N, .ref b4B])), (b4N, .inl (cI, 3, .inl (fun _ => 0))), (b5, .inr (8, [.int 0, .int 0, .int 0, .int 0, .ref b5N, .ref b5B])), (b5N, .inl (cI, 3, .inl (fun _ => 0))), (b6, .inr (8, [.int 0, .int 0, .int 0, .int 0, .ref b6N, .ref b6B])), (b6N, .inl (cI, 3, .inl (fun _ => 0))), (b7, .inr (8, [.int 0, .int 0, .int 0, .int 0, .ref b7N, .ref b7B])), (b7N, .inl (cI, 3, .inl (fun _ => 0))), (b8, .inr (8, [.int 0, .int 0, .int 0, .int 0, .ref b8N, .ref b8B])), (b8N, .inl (cI, 3, .inl (fun _ => 0))), (b9, .inr (8, [.int 0, .int 0, .int 0, .int 0, .ref b9N, .ref b9B])), (b9N, .inl (cI, 3, .inl (fun _ => 0)))] _ := hP
  have hD : va_D A [(a, .inr (3, [.int 0, .int 0, .ref aL, .ref aP, .ref aS])), (b, .inr (3, [.int 0, .int 0, .ref bL, .ref bP, .ref bS])), (aL, .inl (cC, 10, .inl (fun _ => 0))), (bL, .inl (cC, 10, .inl (fun _ => 0))), (aP, .inl (cP, 10, .inr (.inr (.inr (.inr (fch a0 a1 a2 a3 a4 a5 a6 a7 a8 a9)))))), (bP, .inl (cP, 10, .inr (.inr (.inr (.inr (fch b0 b1 b2 b3 b4 b5 b6 b7 b8 b9)))))), (a0, .inr (8, [.int 0, .int 0, .int 0, .int 0, .ref a0N, .ref a0B])), (a0N, .inl (cI, 3, .inl (fun _ => 0))), (a1, .inr (8, [.int 0, .int 0, .int 0, .int 0, .ref a1N, .ref a1B])), (a1N, .inl (cI, 3, .inl (fun _ => 0))), (a2, .inr (8, [.int 0, .int 0, .int 0, .int 0, .ref a2N, .ref a2B])), (a2N, .inl (cI, 3, .inl (fun _ => 0))), (a3, .inr (8, [.int 0, .int 0, .int 0, .int 0, .ref a3N, .ref a3B])), (a3N, .inl (cI, 3, .inl (fun _ => 0))), (a4, .inr (8, [.int 0, .int 0, .int 0, .int 0, .ref a4N, .ref a4B])), (a4N, .inl (cI, 3, .inl (fun _ => 0))), (a5, .inr (8, [.int 0, .int 0, .int 0, .int 0, .ref a5N, .ref a5B])), (a5N, .inl (cI, 3, .inl (fun _ => 0))), (a6, .inr (8, [.int 0, .int 0, .int 0, .int 0, .ref a6N, .ref a6B])), (a6N, .inl (cI, 3, .inl (fun _ => 0))), (a7, .inr (8, [.int 0, .int 0, .int 0, .int 0, .ref a7N, .ref a7B])), (a7N, .inl (cI, 3, .inl (fun _ => 0))), (a8, .inr (8, [.int 0, .int 0, .int 0, .int 0, .ref a8N, .ref a8B])), (a8N, .inl (cI, 3, .inl (fun _ => 0))), (a9, .inr (8, [.int 0, .int 0, .int 0, .int 0, .ref a9N, .ref a9B])), (a9N, .inl (cI, 3, .inl (fun _ => 0))), (b0, .inr (8, [.int 0, .int 0, .int 0, .int 0, .ref b0N, .ref b0B])), (b0N, .inl (cI, 3, .inl (fun _ => 0))), (b1, .inr (8, [.int 0, .int 0, .int 0, .int 0, .ref b1N, .ref b1B])), (b1N, .inl (cI, 3, .inl (fun _ => 0))), (b2, .inr (8, [.int 0, .int 0, .int 0, .int 0, .ref b2N, .ref b2B])), (b2N, .inl (cI, 3, .inl (fun _ => 0))), (b3, .inr (8, [.int 0, .int 0, .int 0, .int 0, .ref b3N, .ref b3B])), (b3N, .inl (cI, 3, .inl (fun _ => 0))), (b4, .inr (8, [.int 0, .int 0, .int 0, .int 0, .ref b4N, .ref b4B])), (b4N, .inl (cI, 3, .inl (fun _ => 0))), (b5, .inr (8, [.int 0, .int 0, .int 0, .int 0, .ref b5N, .ref b5B])), (b5N, .inl (cI, 3, .inl (fun _ => 0))), (b6, .inr (8, [.int 0, .int 0, .int 0, .int 0, .ref b6N, .ref b6B])), (b6N, .inl (cI, 3, .inl (fun _ => 0))), (b7, .inr (8, [.int 0, .int 0, .int 0, .int 0, .ref b7N, .ref b7B])), (b7N, .inl (cI, 3, .inl (fun _ => 0))), (b8, .inr (8, [.int 0, .int 0, .int 0, .int 0, .ref b8N, .ref b8B])), (b8N, .inl (cI, 3, .inl (fun _ => 0))), (b9, .inr (8, [.int 0, .int 0, .int 0, .int 0, .ref b9N, .ref b9B])), (b9N, .inl (cI, 3, .inl (fun _ => 0)))] := hD
  refine lv_aload_n hx hb dX0_copyFrom_16 rfl (lv_at hl 1 rfl) ?_
  refine va_get (D := (dC, dI)) (ci := 3) (v := .ref bL) (C := RX0) (T := TX0) (N := 5) hx hb hts (fun w h => List.mem_cons_of_mem _ (List.mem_append_left _ (List.mem_append_right _ (h)))) hown hK hP 1 rfl rfl 2 (by decide) (hts (.fieldLink RX0 9 "Netcompare$Circuit" "letter" "[C") (List.mem_cons_of_mem _ (List.mem_append_left _ (List.mem_append_left _ (List.mem_of_getElem? (i := 2) rfl))))) (fun _ h9 => h9) rfl dX0_copyFrom_17 ?_
  refine lv_iconst (v := 0) hx hb dX0_copyFrom_20 (by decide) ?_
  refine lv_aload_n hx hb dX0_copyFrom_21 rfl (lv_at hl 0 rfl) ?_
  refine va_get (D := (dC, dI)) (ci := 3) (v := .ref aL) (C := RX0) (T := TX0) (N := 5) hx hb hts (fun w h => List.mem_cons_of_mem _ (List.mem_append_left _ (List.mem_append_right _ (h)))) hown hK hP 0 rfl rfl 2 (by decide) (hts (.fieldLink RX0 9 "Netcompare$Circuit" "letter" "[C") (List.mem_cons_of_mem _ (List.mem_append_left _ (List.mem_append_left _ (List.mem_of_getElem? (i := 2) rfl))))) (fun _ h9 => h9) rfl dX0_copyFrom_22 ?_
  refine lv_iconst (v := 0) hx hb dX0_copyFrom_25 (by decide) ?_
  refine lv_bipush (v := 10) hx hb dX0_copyFrom_26 (by decide) ?_
  refine va_copyi hx hb (hml.trans hl.1.symm) hown (hts (.methodLink RX0 37 arraycopyName) (List.mem_cons_of_mem _ (List.mem_append_left _ (List.mem_append_left _ (List.mem_of_getElem? (i := 3) rfl))))) (hts (.native arraycopyName) (List.mem_cons_of_mem _ (List.mem_append_left _ (List.mem_append_left _ (List.mem_of_getElem? (i := 4) rfl))))) (hts (.static arraycopyName) (List.mem_cons_of_mem _ (List.mem_append_left _ (List.mem_append_left _ (List.mem_of_getElem? (i := 5) rfl))))) (hts (.initialized "java/lang/System") (List.mem_cons_of_mem _ (List.mem_append_left _ (List.mem_append_left _ (List.mem_of_getElem? (i := 6) rfl))))) hK hP hD hS 3 2 0 0 rfl rfl rfl rfl rfl (by decide) (by decide) (by decide) (by decide) (by decide) (fun _ _ => by decide) (Nat.le_of_ble_eq_true rfl) (Nat.le_of_ble_eq_true rfl) dX0_copyFrom_28 (fun H locs hP hD hS => ?_)
  have hP : va_P (dC, dI) vwCl [(a, .inr (3, [.int 0, .int 0, .ref aL, .ref aP, .ref aS])), (b, .inr (3, [.int 0, .int 0, .ref bL, .ref bP, .ref bS])), (aL, .inl (cC, 10, .inl (va_cpy (fun _ => 0) (fun _ => 0) 0 0 10))), (bL, .inl (cC, 10, .inl (fun _ => 0))), (aP, .inl (cP, 10, .inr (.inr (.inr (.inr (fch a0 a1 a2 a3 a4 a5 a6 a7 a8 a9)))))), (bP, .inl (cP, 10, .inr (.inr (.inr (.inr (fch b0 b1 b2 b3 b4 b5 b6 b7 b8 b9)))))), (a0, .inr (8, [.int 0, .int 0, .int 0, .int 0, .ref a0N, .ref a0B])), (a0N, .inl (cI, 3, .inl (fun _ => 0))), (a1, .inr (8, [.int 0, .int 0, .int 0, .int 0, .ref a1N, .ref a1B])), (a1N, .inl (cI, 3, .inl (fun _ => 0))), (a2, .inr (8, [.int 0, .int 0, .int 0, .int 0, .ref a2N, .ref a2B])), (a2N, .inl (cI, 3, .inl (fun _ => 0))), (a3, .inr (8, [.int 0, .int 0, .int 0, .int 0, .ref a3N, .ref a3B])), (a3N, .inl (cI, 3, .inl (fun _ => 0))), (a4, .inr (8, [.int 0, .int 0, .int 0, .int 0, .ref a4N, .ref a4B])), (a4N, .inl (cI, 3, .inl (fun _ => 0))), (a5, .inr (8, [.int 0, .int 0, .int 0, .int 0, .ref a5N, .ref a5B])), (a5N, .inl (cI, 3, .inl (fun _ => 0))), (a6, .inr (8, [.int 0, .int 0, .int 0, .int 0, .ref a6N, .ref a6B])), (a6N, .inl (cI, 3, .inl (fun _ => 0))), (a7, .inr (8, [.int 0, .int 0, .int 0, .int 0, .ref a7N, .ref a7B])), (a7N, .inl (cI, 3, .inl (fun _ => 0))), (a8, .inr (8, [.int 0, .int 0, .int 0, .int 0, .ref a8N, .ref a8B])), (a8N, .inl (cI, 3, .inl (fun _ => 0))), (a9, .inr (8, [.int 0, .int 0, .int 0, .int 0, .ref a9N, .ref a9B])), (a9N, .inl (cI, 3, .inl (fun _ => 0))), (b0, .inr (8, [.int 0, .int 0, .int 0, .int 0, .ref b0N, .ref b0B])), (b0N, .inl (cI, 3, .inl (fun _ => 0))), (b1, .inr (8, [.int 0, .int 0, .int 0, .int 0, .ref b1N, .ref b1B])), (b1N, .inl (cI, 3, .inl (fun _ => 0))), (b2, .inr (8, [.int 0, .int 0, .int 0, .int 0, .ref b2N, .ref b2B])), (b2N, .inl (cI, 3, .inl (fun _ => 0))), (b3, .inr (8, [.int 0, .int 0, .int 0, .int 0, .ref b3N, .ref b3B])), (b3N, .inl (cI, 3, .inl (fun _ => 0))), (b4, .inr (8, [.int 0, .int 0, .int 0, .int 0, .ref b4N, .ref b4B])), (b4N, .inl (cI, 3, .inl (fun _ => 0))), (b5, .inr (8, [.int 0, .int 0, .int 0, .int 0, .ref b5N, .ref b5B])), (b5N, .inl (cI, 3, .inl (fun _ => 0))), (b6, .inr (8, [.int 0, .int 0, .int 0, .int 0, .ref b6N, .ref b6B])), (b6N, .inl (cI, 3, .inl (fun _ => 0))), (b7, .inr (8, [.int 0, .int 0, .int 0, .int 0, .ref b7N, .ref b7B])), (b7N, .inl (cI, 3, .inl (fun _ => 0))), (b8, .inr (8, [.int 0, .int 0, .int 0, .int 0, .ref b8N, .ref b8B])), (b8N, .inl (cI, 3, .inl (fun _ => 0))), (b9, .inr (8, [.int 0, .int 0, .int 0, .int 0, .ref b9N, .ref b9B])), (b9N, .inl (cI, 3, .inl (fun _ => 0)))] _ := hP
  have hD : va_D A [(a, .inr (3, [.int 0, .int 0, .ref aL, .ref aP, .ref aS])), (b, .inr (3, [.int 0, .int 0, .ref bL, .ref bP, .ref bS])), (aL, .inl (cC, 10, .inl (va_cpy (fun _ => 0) (fun _ => 0) 0 0 10))), (bL, .inl (cC, 10, .inl (fun _ => 0))), (aP, .inl (cP, 10, .inr (.inr (.inr (.inr (fch a0 a1 a2 a3 a4 a5 a6 a7 a8 a9)))))), (bP, .inl (cP, 10, .inr (.inr (.inr (.inr (fch b0 b1 b2 b3 b4 b5 b6 b7 b8 b9)))))), (a0, .inr (8, [.int 0, .int 0, .int 0, .int 0, .ref a0N, .ref a0B])), (a0N, .inl (cI, 3, .inl (fun _ => 0))), (a1, .inr (8, [.int 0, .int 0, .int 0, .int 0, .ref a1N, .ref a1B])), (a1N, .inl (cI, 3, .inl (fun _ => 0))), (a2, .inr (8, [.int 0, .int 0, .int 0, .int 0, .ref a2N, .ref a2B])), (a2N, .inl (cI, 3, .inl (fun _ => 0))), (a3, .inr (8, [.int 0, .int 0, .int 0, .int 0, .ref a3N, .ref a3B])), (a3N, .inl (cI, 3, .inl (fun _ => 0))), (a4, .inr (8, [.int 0, .int 0, .int 0, .int 0, .ref a4N, .ref a4B])), (a4N, .inl (cI, 3, .inl (fun _ => 0))), (a5, .inr (8, [.int 0, .int 0, .int 0, .int 0, .ref a5N, .ref a5B])), (a5N, .inl (cI, 3, .inl (fun _ => 0))), (a6, .inr (8, [.int 0, .int 0, .int 0, .int 0, .ref a6N, .ref a6B])), (a6N, .inl (cI, 3, .inl (fun _ => 0))), (a7, .inr (8, [.int 0, .int 0, .int 0, .int 0, .ref a7N, .ref a7B])), (a7N, .inl (cI, 3, .inl (fun _ => 0))), (a8, .inr (8, [.int 0, .int 0, .int 0, .int 0, .ref a8N, .ref a8B])), (a8N, .inl (cI, 3, .inl (fun _ => 0))), (a9, .inr (8, [.int 0, .int 0, .int 0, .int 0, .ref a9N, .ref a9B])), (a9N, .inl (cI, 3, .inl (fun _ => 0))), (b0, .inr (8, [.int 0, .int 0, .int 0, .int 0, .ref b0N, .ref b0B])), (b0N, .inl (cI, 3, .inl (fun _ => 0))), (b1, .inr (8, [.int 0, .int 0, .int 0, .int 0, .ref b1N, .ref b1B])), (b1N, .inl (cI, 3, .inl (fun _ => 0))), (b2, .inr (8, [.int 0, .int 0, .int 0, .int 0, .ref b2N, .ref b2B])), (b2N, .inl (cI, 3, .inl (fun _ => 0))), (b3, .inr (8, [.int 0, .int 0, .int 0, .int 0, .ref b3N, .ref b3B])), (b3N, .inl (cI, 3, .inl (fun _ => 0))), (b4, .inr (8, [.int 0, .int 0, .int 0, .int 0, .ref b4N, .ref b4B])), (b4N, .inl (cI, 3, .inl (fun _ => 0))), (b5, .inr (8, [.int 0, .int 0, .int 0, .int 0, .ref b5N, .ref b5B])), (b5N, .inl (cI, 3, .inl (fun _ => 0))), (b6, .inr (8, [.int 0, .int 0, .int 0, .int 0, .ref b6N, .ref b6B])), (b6N, .inl (cI, 3, .inl (fun _ => 0))), (b7, .inr (8, [.int 0, .int 0, .int 0, .int 0, .ref b7N, .ref b7B])), (b7N, .inl (cI, 3, .inl (fun _ => 0))), (b8, .inr (8, [.int 0, .int 0, .int 0, .int 0, .ref b8N, .ref b8B])), (b8N, .inl (cI, 3, .inl (fun _ => 0))), (b9, .inr (8, [.int 0, .int 0, .int 0, .int 0, .ref b9N, .ref b9B])), (b9N, .inl (cI, 3, .inl (fun _ => 0)))] := hD
  rw [fCp0] at hP hD
  have hP : va_P (dC, dI) vwCl [(a, .inr (3, [.int 0, .int 0, .ref aL, .ref aP, .ref aS])), (b, .inr (3, [.int 0, .int 0, .ref bL, .ref bP, .ref bS])), (aL, .inl (cC, 10, .inl (fun _ => 0))), (bL, .inl (cC, 10, .inl (fun _ => 0))), (aP, .inl (cP, 10, .inr (.inr (.inr (.inr (fch a0 a1 a2 a3 a4 a5 a6 a7 a8 a9)))))), (bP, .inl (cP, 10, .inr (.inr (.inr (.inr (fch b0 b1 b2 b3 b4 b5 b6 b7 b8 b9)))))), (a0, .inr (8, [.int 0, .int 0, .int 0, .int 0, .ref a0N, .ref a0B])), (a0N, .inl (cI, 3, .inl (fun _ => 0))), (a1, .inr (8, [.int 0, .int 0, .int 0, .int 0, .ref a1N, .ref a1B])), (a1N, .inl (cI, 3, .inl (fun _ => 0))), (a2, .inr (8, [.int 0, .int 0, .int 0, .int 0, .ref a2N, .ref a2B])), (a2N, .inl (cI, 3, .inl (fun _ => 0))), (a3, .inr (8, [.int 0, .int 0, .int 0, .int 0, .ref a3N, .ref a3B])), (a3N, .inl (cI, 3, .inl (fun _ => 0))), (a4, .inr (8, [.int 0, .int 0, .int 0, .int 0, .ref a4N, .ref a4B])), (a4N, .inl (cI, 3, .inl (fun _ => 0))), (a5, .inr (8, [.int 0, .int 0, .int 0, .int 0, .ref a5N, .ref a5B])), (a5N, .inl (cI, 3, .inl (fun _ => 0))), (a6, .inr (8, [.int 0, .int 0, .int 0, .int 0, .ref a6N, .ref a6B])), (a6N, .inl (cI, 3, .inl (fun _ => 0))), (a7, .inr (8, [.int 0, .int 0, .int 0, .int 0, .ref a7N, .ref a7B])), (a7N, .inl (cI, 3, .inl (fun _ => 0))), (a8, .inr (8, [.int 0, .int 0, .int 0, .int 0, .ref a8N, .ref a8B])), (a8N, .inl (cI, 3, .inl (fun _ => 0))), (a9, .inr (8, [.int 0, .int 0, .int 0, .int 0, .ref a9N, .ref a9B])), (a9N, .inl (cI, 3, .inl (fun _ => 0))), (b0, .inr (8, [.int 0, .int 0, .int 0, .int 0, .ref b0N, .ref b0B])), (b0N, .inl (cI, 3, .inl (fun _ => 0))), (b1, .inr (8, [.int 0, .int 0, .int 0, .int 0, .ref b1N, .ref b1B])), (b1N, .inl (cI, 3, .inl (fun _ => 0))), (b2, .inr (8, [.int 0, .int 0, .int 0, .int 0, .ref b2N, .ref b2B])), (b2N, .inl (cI, 3, .inl (fun _ => 0))), (b3, .inr (8, [.int 0, .int 0, .int 0, .int 0, .ref b3N, .ref b3B])), (b3N, .inl (cI, 3, .inl (fun _ => 0))), (b4, .inr (8, [.int 0, .int 0, .int 0, .int 0, .ref b4N, .ref b4B])), (b4N, .inl (cI, 3, .inl (fun _ => 0))), (b5, .inr (8, [.int 0, .int 0, .int 0, .int 0, .ref b5N, .ref b5B])), (b5N, .inl (cI, 3, .inl (fun _ => 0))), (b6, .inr (8, [.int 0, .int 0, .int 0, .int 0, .ref b6N, .ref b6B])), (b6N, .inl (cI, 3, .inl (fun _ => 0))), (b7, .inr (8, [.int 0, .int 0, .int 0, .int 0, .ref b7N, .ref b7B])), (b7N, .inl (cI, 3, .inl (fun _ => 0))), (b8, .inr (8, [.int 0, .int 0, .int 0, .int 0, .ref b8N, .ref b8B])), (b8N, .inl (cI, 3, .inl (fun _ => 0))), (b9, .inr (8, [.int 0, .int 0, .int 0, .int 0, .ref b9N, .ref b9B])), (b9N, .inl (cI, 3, .inl (fun _ => 0)))] _ := hP
  have hD : va_D A [(a, .inr (3, [.int 0, .int 0, .ref aL, .ref aP, .ref aS])), (b, .inr (3, [.int 0, .int 0, .ref bL, .ref bP, .ref bS])), (aL, .inl (cC, 10, .inl (fun _ => 0))), (bL, .inl (cC, 10, .inl (fun _ => 0))), (aP, .inl (cP, 10, .inr (.inr (.inr (.inr (fch a0 a1 a2 a3 a4 a5 a6 a7 a8 a9)))))), (bP, .inl (cP, 10, .inr (.inr (.inr (.inr (fch b0 b1 b2 b3 b4 b5 b6 b7 b8 b9)))))), (a0, .inr (8, [.int 0, .int 0, .int 0, .int 0, .ref a0N, .ref a0B])), (a0N, .inl (cI, 3, .inl (fun _ => 0))), (a1, .inr (8, [.int 0, .int 0, .int 0, .int 0, .ref a1N, .ref a1B])), (a1N, .inl (cI, 3, .inl (fun _ => 0))), (a2, .inr (8, [.int 0, .int 0, .int 0, .int 0, .ref a2N, .ref a2B])), (a2N, .inl (cI, 3, .inl (fun _ => 0))), (a3, .inr (8, [.int 0, .int 0, .int 0, .int 0, .ref a3N, .ref a3B])), (a3N, .inl (cI, 3, .inl (fun _ => 0))), (a4, .inr (8, [.int 0, .int 0, .int 0, .int 0, .ref a4N, .ref a4B])), (a4N, .inl (cI, 3, .inl (fun _ => 0))), (a5, .inr (8, [.int 0, .int 0, .int 0, .int 0, .ref a5N, .ref a5B])), (a5N, .inl (cI, 3, .inl (fun _ => 0))), (a6, .inr (8, [.int 0, .int 0, .int 0, .int 0, .ref a6N, .ref a6B])), (a6N, .inl (cI, 3, .inl (fun _ => 0))), (a7, .inr (8, [.int 0, .int 0, .int 0, .int 0, .ref a7N, .ref a7B])), (a7N, .inl (cI, 3, .inl (fun _ => 0))), (a8, .inr (8, [.int 0, .int 0, .int 0, .int 0, .ref a8N, .ref a8B])), (a8N, .inl (cI, 3, .inl (fun _ => 0))), (a9, .inr (8, [.int 0, .int 0, .int 0, .int 0, .ref a9N, .ref a9B])), (a9N, .inl (cI, 3, .inl (fun _ => 0))), (b0, .inr (8, [.int 0, .int 0, .int 0, .int 0, .ref b0N, .ref b0B])), (b0N, .inl (cI, 3, .inl (fun _ => 0))), (b1, .inr (8, [.int 0, .int 0, .int 0, .int 0, .ref b1N, .ref b1B])), (b1N, .inl (cI, 3, .inl (fun _ => 0))), (b2, .inr (8, [.int 0, .int 0, .int 0, .int 0, .ref b2N, .ref b2B])), (b2N, .inl (cI, 3, .inl (fun _ => 0))), (b3, .inr (8, [.int 0, .int 0, .int 0, .int 0, .ref b3N, .ref b3B])), (b3N, .inl (cI, 3, .inl (fun _ => 0))), (b4, .inr (8, [.int 0, .int 0, .int 0, .int 0, .ref b4N, .ref b4B])), (b4N, .inl (cI, 3, .inl (fun _ => 0))), (b5, .inr (8, [.int 0, .int 0, .int 0, .int 0, .ref b5N, .ref b5B])), (b5N, .inl (cI, 3, .inl (fun _ => 0))), (b6, .inr (8, [.int 0, .int 0, .int 0, .int 0, .ref b6N, .ref b6B])), (b6N, .inl (cI, 3, .inl (fun _ => 0))), (b7, .inr (8, [.int 0, .int 0, .int 0, .int 0, .ref b7N, .ref b7B])), (b7N, .inl (cI, 3, .inl (fun _ => 0))), (b8, .inr (8, [.int 0, .int 0, .int 0, .int 0, .ref b8N, .ref b8B])), (b8N, .inl (cI, 3, .inl (fun _ => 0))), (b9, .inr (8, [.int 0, .int 0, .int 0, .int 0, .ref b9N, .ref b9B])), (b9N, .inl (cI, 3, .inl (fun _ => 0)))] := hD
  refine lv_iconst (v := 0) hx hb dX0_copyFrom_31 (by decide) ?_
  refine lv_istore_n (lv' := [(2, .int 0), (0, .ref a), (1, .ref b)]) hx hb dX0_copyFrom_32 rfl hl (Nat.le_of_ble_eq_true rfl) rfl (fun ls hl => ?_)
  refine lv_iload_n hx hb dX0_copyFrom_33 rfl (lv_at hl 0 rfl) ?_
  refine lv_bipush (v := 10) hx hb dX0_copyFrom_34 (by decide) ?_
  refine lv_icmp_ge (tgt := 60) hx hb dX0_copyFrom_36 (by decide) (fun h9 => absurd h9 (by decide)) (fun _ => ?_)
  refine lv_aload_n hx hb dX0_copyFrom_39 rfl (lv_at hl 1 rfl) ?_
  refine va_get (D := (dC, dI)) (ci := 3) (v := .ref aP) (C := RX0) (T := TX0) (N := 5) hx hb hts (fun w h => List.mem_cons_of_mem _ (List.mem_append_left _ (List.mem_append_right _ (h)))) hown hK hP 0 rfl rfl 3 (by decide) (hts (.fieldLink RX0 17 "Netcompare$Circuit" "part" "[LNetcompare$Part;") (List.mem_cons_of_mem _ (List.mem_append_left _ (List.mem_append_left _ (List.mem_of_getElem? (i := 7) rfl))))) (fun _ h9 => h9) rfl dX0_copyFrom_40 ?_
  refine lv_iload_n hx hb dX0_copyFrom_43 rfl (lv_at hl 0 rfl) ?_
  refine va_aldq hx hb hK hP 4 2 rfl rfl (show ¬ (_ ∨ _) by decide) dX0_copyFrom_44 ?_
  refine W.eq (g2 := F0 m 45 ls [.ref a0]) rfl ?_
  refine lv_aload_n hx hb dX0_copyFrom_45 rfl (lv_at hl 2 rfl) ?_
  refine va_get (D := (dC, dI)) (ci := 3) (v := .ref bP) (C := RX0) (T := TX0) (N := 5) hx hb hts (fun w h => List.mem_cons_of_mem _ (List.mem_append_left _ (List.mem_append_right _ (h)))) hown hK hP 1 rfl rfl 3 (by decide) (hts (.fieldLink RX0 17 "Netcompare$Circuit" "part" "[LNetcompare$Part;") (List.mem_cons_of_mem _ (List.mem_append_left _ (List.mem_append_left _ (List.mem_of_getElem? (i := 7) rfl))))) (fun _ h9 => h9) rfl dX0_copyFrom_46 ?_
  refine lv_iload_n hx hb dX0_copyFrom_49 rfl (lv_at hl 0 rfl) ?_
  refine va_aldq hx hb hK hP 5 2 rfl rfl (show ¬ (_ ∨ _) by decide) dX0_copyFrom_50 ?_
  refine W.eq (g2 := F0 m 51 ls [.ref b0, .ref a0]) rfl ?_
  have hPc := hP.sub (ws' := [(a0, .inr (8, [.int 0, .int 0, .int 0, .int 0, .ref a0N, .ref a0B])), (a0N, .inl (cI, 3, .inl (fun _ => 0))), (b0, .inr (8, [.int 0, .int 0, .int 0, .int 0, .ref b0N, .ref b0B])), (b0N, .inl (cI, 3, .inl (fun _ => 0)))]) [6, 7, 26, 27] rfl
  have hDc := hD.sub (ws' := [(a0, .inr (8, [.int 0, .int 0, .int 0, .int 0, .ref a0N, .ref a0B])), (a0N, .inl (cI, 3, .inl (fun _ => 0))), (b0, .inr (8, [.int 0, .int 0, .int 0, .int 0, .ref b0N, .ref b0B])), (b0N, .inl (cI, 3, .inl (fun _ => 0)))]) [6, 7, 26, 27] (by decide) rfl
  have hKc := hK.sub (tys' := [(cI, .int)]) [1] rfl
  have hFc := va_free (wc := [(a0, .inr (8, [.int 0, .int 0, .int 0, .int 0, .ref a0N, .ref a0B])), (a0N, .inl (cI, 3, .inl (fun _ => 0))), (b0, .inr (8, [.int 0, .int 0, .int 0, .int 0, .ref b0N, .ref b0B])), (b0N, .inl (cI, 3, .inl (fun _ => 0)))]) hD hS hA [6, 7, 26, 27] rfl
  refine va_callv (va_runV (As := [.ref b0]) (rest := []) ⟨hx, hb, hml, hown, hts⟩ (kX5_copyFrom l dC dI a0 a0N a0B b0 b0N b0B cI H.size) (cwV 1 hts gX0_copyFrom_X5_copyFrom rfl rfl rfl (by decide +kernel) ⟨Nat.le_of_ble_eq_true rfl, Nat.le_of_ble_eq_true rfl⟩) (fPreV hN hZ hS (fun q h => hFc q h) hPc hKc hDc (ci := 8) (q0 := 0) rfl rfl) rfl rfl hl.1 rfl (lv_room (Nat.le_of_ble_eq_true rfl)) dX0_copyFrom_51 ⟨Nat.le_of_ble_eq_true rfl, Nat.le_of_ble_eq_true rfl⟩) hS (fun q _ h => hFc q h) hFc (fun u t H1 locs ht hvm hw hB hz1 hk1 hS => ?_)
  obtain ⟨hP1, hK1, hD1⟩ := hB
  rw [ht] at hP1
  have hK1 := va_K.moved hvm.symm hK1
  obtain ⟨hP, hD⟩ := va_join (wr := [(a, .inr (3, [.int 0, .int 0, .ref aL, .ref aP, .ref aS])), (b, .inr (3, [.int 0, .int 0, .ref bL, .ref bP, .ref bS])), (aL, .inl (cC, 10, .inl (fun _ => 0))), (bL, .inl (cC, 10, .inl (fun _ => 0))), (aP, .inl (cP, 10, .inr (.inr (.inr (.inr (fch a0 a1 a2 a3 a4 a5 a6 a7 a8 a9)))))), (bP, .inl (cP, 10, .inr (.inr (.inr (.inr (fch b0 b1 b2 b3 b4 b5 b6 b7 b8 b9)))))), (a1, .inr (8, [.int 0, .int 0, .int 0, .int 0, .ref a1N, .ref a1B])), (a1N, .inl (cI, 3, .inl (fun _ => 0))), (a2, .inr (8, [.int 0, .int 0, .int 0, .int 0, .ref a2N, .ref a2B])), (a2N, .inl (cI, 3, .inl (fun _ => 0))), (a3, .inr (8, [.int 0, .int 0, .int 0, .int 0, .ref a3N, .ref a3B])), (a3N, .inl (cI, 3, .inl (fun _ => 0))), (a4, .inr (8, [.int 0, .int 0, .int 0, .int 0, .ref a4N, .ref a4B])), (a4N, .inl (cI, 3, .inl (fun _ => 0))), (a5, .inr (8, [.int 0, .int 0, .int 0, .int 0, .ref a5N, .ref a5B])), (a5N, .inl (cI, 3, .inl (fun _ => 0))), (a6, .inr (8, [.int 0, .int 0, .int 0, .int 0, .ref a6N, .ref a6B])), (a6N, .inl (cI, 3, .inl (fun _ => 0))), (a7, .inr (8, [.int 0, .int 0, .int 0, .int 0, .ref a7N, .ref a7B])), (a7N, .inl (cI, 3, .inl (fun _ => 0))), (a8, .inr (8, [.int 0, .int 0, .int 0, .int 0, .ref a8N, .ref a8B])), (a8N, .inl (cI, 3, .inl (fun _ => 0))), (a9, .inr (8, [.int 0, .int 0, .int 0, .int 0, .ref a9N, .ref a9B])), (a9N, .inl (cI, 3, .inl (fun _ => 0))), (b1, .inr (8, [.int 0, .int 0, .int 0, .int 0, .ref b1N, .ref b1B])), (b1N, .inl (cI, 3, .inl (fun _ => 0))), (b2, .inr (8, [.int 0, .int 0, .int 0, .int 0, .ref b2N, .ref b2B])), (b2N, .inl (cI, 3, .inl (fun _ => 0))), (b3, .inr (8, [.int 0, .int 0, .int 0, .int 0, .ref b3N, .ref b3B])), (b3N, .inl (cI, 3, .inl (fun _ => 0))), (b4, .inr (8, [.int 0, .int 0, .int 0, .int 0, .ref b4N, .ref b4B])), (b4N, .inl (cI, 3, .inl (fun _ => 0))), (b5, .inr (8, [.int 0, .int 0, .int 0, .int 0, .ref b5N, .ref b5B])), (b5N, .inl (cI, 3, .inl (fun _ => 0))), (b6, .inr (8, [.int 0, .int 0, .int 0, .int 0, .ref b6N, .ref b6B])), (b6N, .inl (cI, 3, .inl (fun _ => 0))), (b7, .inr (8, [.int 0, .int 0, .int 0, .int 0, .ref b7N, .ref b7B])), (b7N, .inl (cI, 3, .inl (fun _ => 0))), (b8, .inr (8, [.int 0, .int 0, .int 0, .int 0, .ref b8N, .ref b8B])), (b8N, .inl (cI, 3, .inl (fun _ => 0))), (b9, .inr (8, [.int 0, .int 0, .int 0, .int 0, .ref b9N, .ref b9B])), (b9N, .inl (cI, 3, .inl (fun _ => 0)))]) (w1 := []) hP hD [6, 7, 26, 27] [0, 1, 2, 3, 4, 5, 8, 9, 10, 11, 12, 13, 14, 15, 16, 17, 18, 19, 20, 21, 22, 23, 24, 25, 28, 29, 30, 31, 32, 33, 34, 35, 36, 37, 38, 39, 40, 41, 42, 43, 44, 45] rfl rfl (by decide) (by decide) hk1 hFc hP1 hD1
  generalize H1 = H at hP hS ⊢
  have hP : va_P (dC, dI) vwCl [(a, .inr (3, [.int 0, .int 0, .ref aL, .ref aP, .ref aS])), (b, .inr (3, [.int 0, .int 0, .ref bL, .ref bP, .ref bS])), (aL, .inl (cC, 10, .inl (fun _ => 0))), (bL, .inl (cC, 10, .inl (fun _ => 0))), (aP, .inl (cP, 10, .inr (.inr (.inr (.inr (fch a0 a1 a2 a3 a4 a5 a6 a7 a8 a9)))))), (bP, .inl (cP, 10, .inr (.inr (.inr (.inr (fch b0 b1 b2 b3 b4 b5 b6 b7 b8 b9)))))), (a1, .inr (8, [.int 0, .int 0, .int 0, .int 0, .ref a1N, .ref a1B])), (a1N, .inl (cI, 3, .inl (fun _ => 0))), (a2, .inr (8, [.int 0, .int 0, .int 0, .int 0, .ref a2N, .ref a2B])), (a2N, .inl (cI, 3, .inl (fun _ => 0))), (a3, .inr (8, [.int 0, .int 0, .int 0, .int 0, .ref a3N, .ref a3B])), (a3N, .inl (cI, 3, .inl (fun _ => 0))), (a4, .inr (8, [.int 0, .int 0, .int 0, .int 0, .ref a4N, .ref a4B])), (a4N, .inl (cI, 3, .inl (fun _ => 0))), (a5, .inr (8, [.int 0, .int 0, .int 0, .int 0, .ref a5N, .ref a5B])), (a5N, .inl (cI, 3, .inl (fun _ => 0))), (a6, .inr (8, [.int 0, .int 0, .int 0, .int 0, .ref a6N, .ref a6B])), (a6N, .inl (cI, 3, .inl (fun _ => 0))), (a7, .inr (8, [.int 0, .int 0, .int 0, .int 0, .ref a7N, .ref a7B])), (a7N, .inl (cI, 3, .inl (fun _ => 0))), (a8, .inr (8, [.int 0, .int 0, .int 0, .int 0, .ref a8N, .ref a8B])), (a8N, .inl (cI, 3, .inl (fun _ => 0))), (a9, .inr (8, [.int 0, .int 0, .int 0, .int 0, .ref a9N, .ref a9B])), (a9N, .inl (cI, 3, .inl (fun _ => 0))), (b1, .inr (8, [.int 0, .int 0, .int 0, .int 0, .ref b1N, .ref b1B])), (b1N, .inl (cI, 3, .inl (fun _ => 0))), (b2, .inr (8, [.int 0, .int 0, .int 0, .int 0, .ref b2N, .ref b2B])), (b2N, .inl (cI, 3, .inl (fun _ => 0))), (b3, .inr (8, [.int 0, .int 0, .int 0, .int 0, .ref b3N, .ref b3B])), (b3N, .inl (cI, 3, .inl (fun _ => 0))), (b4, .inr (8, [.int 0, .int 0, .int 0, .int 0, .ref b4N, .ref b4B])), (b4N, .inl (cI, 3, .inl (fun _ => 0))), (b5, .inr (8, [.int 0, .int 0, .int 0, .int 0, .ref b5N, .ref b5B])), (b5N, .inl (cI, 3, .inl (fun _ => 0))), (b6, .inr (8, [.int 0, .int 0, .int 0, .int 0, .ref b6N, .ref b6B])), (b6N, .inl (cI, 3, .inl (fun _ => 0))), (b7, .inr (8, [.int 0, .int 0, .int 0, .int 0, .ref b7N, .ref b7B])), (b7N, .inl (cI, 3, .inl (fun _ => 0))), (b8, .inr (8, [.int 0, .int 0, .int 0, .int 0, .ref b8N, .ref b8B])), (b8N, .inl (cI, 3, .inl (fun _ => 0))), (b9, .inr (8, [.int 0, .int 0, .int 0, .int 0, .ref b9N, .ref b9B])), (b9N, .inl (cI, 3, .inl (fun _ => 0)))] _ := hP
  have hD : va_D A [(a, .inr (3, [.int 0, .int 0, .ref aL, .ref aP, .ref aS])), (b, .inr (3, [.int 0, .int 0, .ref bL, .ref bP, .ref bS])), (aL, .inl (cC, 10, .inl (fun _ => 0))), (bL, .inl (cC, 10, .inl (fun _ => 0))), (aP, .inl (cP, 10, .inr (.inr (.inr (.inr (fch a0 a1 a2 a3 a4 a5 a6 a7 a8 a9)))))), (bP, .inl (cP, 10, .inr (.inr (.inr (.inr (fch b0 b1 b2 b3 b4 b5 b6 b7 b8 b9)))))), (a1, .inr (8, [.int 0, .int 0, .int 0, .int 0, .ref a1N, .ref a1B])), (a1N, .inl (cI, 3, .inl (fun _ => 0))), (a2, .inr (8, [.int 0, .int 0, .int 0, .int 0, .ref a2N, .ref a2B])), (a2N, .inl (cI, 3, .inl (fun _ => 0))), (a3, .inr (8, [.int 0, .int 0, .int 0, .int 0, .ref a3N, .ref a3B])), (a3N, .inl (cI, 3, .inl (fun _ => 0))), (a4, .inr (8, [.int 0, .int 0, .int 0, .int 0, .ref a4N, .ref a4B])), (a4N, .inl (cI, 3, .inl (fun _ => 0))), (a5, .inr (8, [.int 0, .int 0, .int 0, .int 0, .ref a5N, .ref a5B])), (a5N, .inl (cI, 3, .inl (fun _ => 0))), (a6, .inr (8, [.int 0, .int 0, .int 0, .int 0, .ref a6N, .ref a6B])), (a6N, .inl (cI, 3, .inl (fun _ => 0))), (a7, .inr (8, [.int 0, .int 0, .int 0, .int 0, .ref a7N, .ref a7B])), (a7N, .inl (cI, 3, .inl (fun _ => 0))), (a8, .inr (8, [.int 0, .int 0, .int 0, .int 0, .ref a8N, .ref a8B])), (a8N, .inl (cI, 3, .inl (fun _ => 0))), (a9, .inr (8, [.int 0, .int 0, .int 0, .int 0, .ref a9N, .ref a9B])), (a9N, .inl (cI, 3, .inl (fun _ => 0))), (b1, .inr (8, [.int 0, .int 0, .int 0, .int 0, .ref b1N, .ref b1B])), (b1N, .inl (cI, 3, .inl (fun _ => 0))), (b2, .inr (8, [.int 0, .int 0, .int 0, .int 0, .ref b2N, .ref b2B])), (b2N, .inl (cI, 3, .inl (fun _ => 0))), (b3, .inr (8, [.int 0, .int 0, .int 0, .int 0, .ref b3N, .ref b3B])), (b3N, .inl (cI, 3, .inl (fun _ => 0))), (b4, .inr (8, [.int 0, .int 0, .int 0, .int 0, .ref b4N, .ref b4B])), (b4N, .inl (cI, 3, .inl (fun _ => 0))), (b5, .inr (8, [.int 0, .int 0, .int 0, .int 0, .ref b5N, .ref b5B])), (b5N, .inl (cI, 3, .inl (fun _ => 0))), (b6, .inr (8, [.int 0, .int 0, .int 0, .int 0, .ref b6N, .ref b6B])), (b6N, .inl (cI, 3, .inl (fun _ => 0))), (b7, .inr (8, [.int 0, .int 0, .int 0, .int 0, .ref b7N, .ref b7B])), (b7N, .inl (cI, 3, .inl (fun _ => 0))), (b8, .inr (8, [.int 0, .int 0, .int 0, .int 0, .ref b8N, .ref b8B])), (b8N, .inl (cI, 3, .inl (fun _ => 0))), (b9, .inr (8, [.int 0, .int 0, .int 0, .int 0, .ref b9N, .ref b9B])), (b9N, .inl (cI, 3, .inl (fun _ => 0)))] := hD
  refine lv_iinc (v := 1) (lv' := [(2, .int 1), (0, .ref a), (1, .ref b)]) hx hb dX0_copyFrom_54 hl (k := 0) rfl (by decide) (Nat.le_of_ble_eq_true rfl) rfl (fun ls hl => ?_)
  refine lv_goto (tgt := 33) hx hb dX0_copyFrom_57 (by decide) ?_
  refine lv_iload_n hx hb dX0_copyFrom_33 rfl (lv_at hl 0 rfl) ?_
  refine lv_bipush (v := 10) hx hb dX0_copyFrom_34 (by decide) ?_
  refine lv_icmp_ge (tgt := 60) hx hb dX0_copyFrom_36 (by decide) (fun h9 => absurd h9 (by decide)) (fun _ => ?_)
  refine lv_aload_n hx hb dX0_copyFrom_39 rfl (lv_at hl 1 rfl) ?_
  refine va_get (D := (dC, dI)) (ci := 3) (v := .ref aP) (C := RX0) (T := TX0) (N := 5) hx hb hts (fun w h => List.mem_cons_of_mem _ (List.mem_append_left _ (List.mem_append_right _ (h)))) hown hK hP 0 rfl rfl 3 (by decide) (hts (.fieldLink RX0 17 "Netcompare$Circuit" "part" "[LNetcompare$Part;") (List.mem_cons_of_mem _ (List.mem_append_left _ (List.mem_append_left _ (List.mem_of_getElem? (i := 7) rfl))))) (fun _ h9 => h9) rfl dX0_copyFrom_40 ?_
  refine lv_iload_n hx hb dX0_copyFrom_43 rfl (lv_at hl 0 rfl) ?_
  refine va_aldq hx hb hK hP 4 2 rfl rfl (show ¬ (_ ∨ _) by decide) dX0_copyFrom_44 ?_
  refine W.eq (g2 := F0 m 45 ls [.ref a1]) rfl ?_
  refine lv_aload_n hx hb dX0_copyFrom_45 rfl (lv_at hl 2 rfl) ?_
  refine va_get (D := (dC, dI)) (ci := 3) (v := .ref bP) (C := RX0) (T := TX0) (N := 5) hx hb hts (fun w h => List.mem_cons_of_mem _ (List.mem_append_left _ (List.mem_append_right _ (h)))) hown hK hP 1 rfl rfl 3 (by decide) (hts (.fieldLink RX0 17 "Netcompare$Circuit" "part" "[LNetcompare$Part;") (List.mem_cons_of_mem _ (List.mem_append_left _ (List.mem_append_left _ (List.mem_of_getElem? (i := 7) rfl))))) (fun _ h9 => h9) rfl dX0_copyFrom_46 ?_
  refine lv_iload_n hx hb dX0_copyFrom_49 rfl (lv_at hl 0 rfl) ?_
  refine va_aldq hx hb hK hP 5 2 rfl rfl (show ¬ (_ ∨ _) by decide) dX0_copyFrom_50 ?_
  refine W.eq (g2 := F0 m 51 ls [.ref b1, .ref a1]) rfl ?_
  have hPc := hP.sub (ws' := [(a1, .inr (8, [.int 0, .int 0, .int 0, .int 0, .ref a1N, .ref a1B])), (a1N, .inl (cI, 3, .inl (fun _ => 0))), (b1, .inr (8, [.int 0, .int 0, .int 0, .int 0, .ref b1N, .ref b1B])), (b1N, .inl (cI, 3, .inl (fun _ => 0)))]) [6, 7, 24, 25] rfl
  have hDc := hD.sub (ws' := [(a1, .inr (8, [.int 0, .int 0, .int 0, .int 0, .ref a1N, .ref a1B])), (a1N, .inl (cI, 3, .inl (fun _ => 0))), (b1, .inr (8, [.int 0, .int 0, .int 0, .int 0, .ref b1N, .ref b1B])), (b1N, .inl (cI, 3, .inl (fun _ => 0)))]) [6, 7, 24, 25] (by decide) rfl
  have hKc := hK.sub (tys' := [(cI, .int)]) [1] rfl
  have hFc := va_free (wc := [(a1, .inr (8, [.int 0, .int 0, .int 0, .int 0, .ref a1N, .ref a1B])), (a1N, .inl (cI, 3, .inl (fun _ => 0))), (b1, .inr (8, [.int 0, .int 0, .int 0, .int 0, .ref b1N, .ref b1B])), (b1N, .inl (cI, 3, .inl (fun _ => 0)))]) hD hS hA [6, 7, 24, 25] rfl
  refine va_callv (va_runV (As := [.ref b1]) (rest := []) ⟨hx, hb, hml, hown, hts⟩ (kX5_copyFrom l dC dI a1 a1N a1B b1 b1N b1B cI H.size) (cwV 1 hts gX0_copyFrom_X5_copyFrom rfl rfl rfl (by decide +kernel) ⟨Nat.le_of_ble_eq_true rfl, Nat.le_of_ble_eq_true rfl⟩) (fPreV hN hZ hS (fun q h => hFc q h) hPc hKc hDc (ci := 8) (q0 := 0) rfl rfl) rfl rfl hl.1 rfl (lv_room (Nat.le_of_ble_eq_true rfl)) dX0_copyFrom_51 ⟨Nat.le_of_ble_eq_true rfl, Nat.le_of_ble_eq_true rfl⟩) hS (fun q _ h => hFc q h) hFc (fun u t H1 locs ht hvm hw hB hz1 hk1 hS => ?_)
  obtain ⟨hP1, hK1, hD1⟩ := hB
  rw [ht] at hP1
  have hK1 := va_K.moved hvm.symm hK1
  obtain ⟨hP, hD⟩ := va_join (wr := [(a, .inr (3, [.int 0, .int 0, .ref aL, .ref aP, .ref aS])), (b, .inr (3, [.int 0, .int 0, .ref bL, .ref bP, .ref bS])), (aL, .inl (cC, 10, .inl (fun _ => 0))), (bL, .inl (cC, 10, .inl (fun _ => 0))), (aP, .inl (cP, 10, .inr (.inr (.inr (.inr (fch a0 a1 a2 a3 a4 a5 a6 a7 a8 a9)))))), (bP, .inl (cP, 10, .inr (.inr (.inr (.inr (fch b0 b1 b2 b3 b4 b5 b6 b7 b8 b9)))))), (a2, .inr (8, [.int 0, .int 0, .int 0, .int 0, .ref a2N, .ref a2B])), (a2N, .inl (cI, 3, .inl (fun _ => 0))), (a3, .inr (8, [.int 0, .int 0, .int 0, .int 0, .ref a3N, .ref a3B])), (a3N, .inl (cI, 3, .inl (fun _ => 0))), (a4, .inr (8, [.int 0, .int 0, .int 0, .int 0, .ref a4N, .ref a4B])), (a4N, .inl (cI, 3, .inl (fun _ => 0))), (a5, .inr (8, [.int 0, .int 0, .int 0, .int 0, .ref a5N, .ref a5B])), (a5N, .inl (cI, 3, .inl (fun _ => 0))), (a6, .inr (8, [.int 0, .int 0, .int 0, .int 0, .ref a6N, .ref a6B])), (a6N, .inl (cI, 3, .inl (fun _ => 0))), (a7, .inr (8, [.int 0, .int 0, .int 0, .int 0, .ref a7N, .ref a7B])), (a7N, .inl (cI, 3, .inl (fun _ => 0))), (a8, .inr (8, [.int 0, .int 0, .int 0, .int 0, .ref a8N, .ref a8B])), (a8N, .inl (cI, 3, .inl (fun _ => 0))), (a9, .inr (8, [.int 0, .int 0, .int 0, .int 0, .ref a9N, .ref a9B])), (a9N, .inl (cI, 3, .inl (fun _ => 0))), (b2, .inr (8, [.int 0, .int 0, .int 0, .int 0, .ref b2N, .ref b2B])), (b2N, .inl (cI, 3, .inl (fun _ => 0))), (b3, .inr (8, [.int 0, .int 0, .int 0, .int 0, .ref b3N, .ref b3B])), (b3N, .inl (cI, 3, .inl (fun _ => 0))), (b4, .inr (8, [.int 0, .int 0, .int 0, .int 0, .ref b4N, .ref b4B])), (b4N, .inl (cI, 3, .inl (fun _ => 0))), (b5, .inr (8, [.int 0, .int 0, .int 0, .int 0, .ref b5N, .ref b5B])), (b5N, .inl (cI, 3, .inl (fun _ => 0))), (b6, .inr (8, [.int 0, .int 0, .int 0, .int 0, .ref b6N, .ref b6B])), (b6N, .inl (cI, 3, .inl (fun _ => 0))), (b7, .inr (8, [.int 0, .int 0, .int 0, .int 0, .ref b7N, .ref b7B])), (b7N, .inl (cI, 3, .inl (fun _ => 0))), (b8, .inr (8, [.int 0, .int 0, .int 0, .int 0, .ref b8N, .ref b8B])), (b8N, .inl (cI, 3, .inl (fun _ => 0))), (b9, .inr (8, [.int 0, .int 0, .int 0, .int 0, .ref b9N, .ref b9B])), (b9N, .inl (cI, 3, .inl (fun _ => 0)))]) (w1 := []) hP hD [6, 7, 24, 25] [0, 1, 2, 3, 4, 5, 8, 9, 10, 11, 12, 13, 14, 15, 16, 17, 18, 19, 20, 21, 22, 23, 26, 27, 28, 29, 30, 31, 32, 33, 34, 35, 36, 37, 38, 39, 40, 41] rfl rfl (by decide) (by decide) hk1 hFc hP1 hD1
  generalize H1 = H at hP hS ⊢
  have hP : va_P (dC, dI) vwCl [(a, .inr (3, [.int 0, .int 0, .ref aL, .ref aP, .ref aS])), (b, .inr (3, [.int 0, .int 0, .ref bL, .ref bP, .ref bS])), (aL, .inl (cC, 10, .inl (fun _ => 0))), (bL, .inl (cC, 10, .inl (fun _ => 0))), (aP, .inl (cP, 10, .inr (.inr (.inr (.inr (fch a0 a1 a2 a3 a4 a5 a6 a7 a8 a9)))))), (bP, .inl (cP, 10, .inr (.inr (.inr (.inr (fch b0 b1 b2 b3 b4 b5 b6 b7 b8 b9)))))), (a2, .inr (8, [.int 0, .int 0, .int 0, .int 0, .ref a2N, .ref a2B])), (a2N, .inl (cI, 3, .inl (fun _ => 0))), (a3, .inr (8, [.int 0, .int 0, .int 0, .int 0, .ref a3N, .ref a3B])), (a3N, .inl (cI, 3, .inl (fun _ => 0))), (a4, .inr (8, [.int 0, .int 0, .int 0, .int 0, .ref a4N, .ref a4B])), (a4N, .inl (cI, 3, .inl (fun _ => 0))), (a5, .inr (8, [.int 0, .int 0, .int 0, .int 0, .ref a5N, .ref a5B])), (a5N, .inl (cI, 3, .inl (fun _ => 0))), (a6, .inr (8, [.int 0, .int 0, .int 0, .int 0, .ref a6N, .ref a6B])), (a6N, .inl (cI, 3, .inl (fun _ => 0))), (a7, .inr (8, [.int 0, .int 0, .int 0, .int 0, .ref a7N, .ref a7B])), (a7N, .inl (cI, 3, .inl (fun _ => 0))), (a8, .inr (8, [.int 0, .int 0, .int 0, .int 0, .ref a8N, .ref a8B])), (a8N, .inl (cI, 3, .inl (fun _ => 0))), (a9, .inr (8, [.int 0, .int 0, .int 0, .int 0, .ref a9N, .ref a9B])), (a9N, .inl (cI, 3, .inl (fun _ => 0))), (b2, .inr (8, [.int 0, .int 0, .int 0, .int 0, .ref b2N, .ref b2B])), (b2N, .inl (cI, 3, .inl (fun _ => 0))), (b3, .inr (8, [.int 0, .int 0, .int 0, .int 0, .ref b3N, .ref b3B])), (b3N, .inl (cI, 3, .inl (fun _ => 0))), (b4, .inr (8, [.int 0, .int 0, .int 0, .int 0, .ref b4N, .ref b4B])), (b4N, .inl (cI, 3, .inl (fun _ => 0))), (b5, .inr (8, [.int 0, .int 0, .int 0, .int 0, .ref b5N, .ref b5B])), (b5N, .inl (cI, 3, .inl (fun _ => 0))), (b6, .inr (8, [.int 0, .int 0, .int 0, .int 0, .ref b6N, .ref b6B])), (b6N, .inl (cI, 3, .inl (fun _ => 0))), (b7, .inr (8, [.int 0, .int 0, .int 0, .int 0, .ref b7N, .ref b7B])), (b7N, .inl (cI, 3, .inl (fun _ => 0))), (b8, .inr (8, [.int 0, .int 0, .int 0, .int 0, .ref b8N, .ref b8B])), (b8N, .inl (cI, 3, .inl (fun _ => 0))), (b9, .inr (8, [.int 0, .int 0, .int 0, .int 0, .ref b9N, .ref b9B])), (b9N, .inl (cI, 3, .inl (fun _ => 0)))] _ := hP
  have hD : va_D A [(a, .inr (3, [.int 0, .int 0, .ref aL, .ref aP, .ref aS])), (b, .inr (3, [.int 0, .int 0, .ref bL, .ref bP, .ref bS])), (aL, .inl (cC, 10, .inl (fun _ => 0))), (bL, .inl (cC, 10, .inl (fun _ => 0))), (aP, .inl (cP, 10, .inr (.inr (.inr (.inr (fch a0 a1 a2 a3 a4 a5 a6 a7 a8 a9)))))), (bP, .inl (cP, 10, .inr (.inr (.inr (.inr (fch b0 b1 b2 b3 b4 b5 b6 b7 b8 b9)))))), (a2, .inr (8, [.int 0, .int 0, .int 0, .int 0, .ref a2N, .ref a2B])), (a2N, .inl (cI, 3, .inl (fun _ => 0))), (a3, .inr (8, [.int 0, .int 0, .int 0, .int 0, .ref a3N, .ref a3B])), (a3N, .inl (cI, 3, .inl (fun _ => 0))), (a4, .inr (8, [.int 0, .int 0, .int 0, .int 0, .ref a4N, .ref a4B])), (a4N, .inl (cI, 3, .inl (fun _ => 0))), (a5, .inr (8, [.int 0, .int 0, .int 0, .int 0, .ref a5N, .ref a5B])), (a5N, .inl (cI, 3, .inl (fun _ => 0))), (a6, .inr (8, [.int 0, .int 0, .int 0, .int 0, .ref a6N, .ref a6B])), (a6N, .inl (cI, 3, .inl (fun _ => 0))), (a7, .inr (8, [.int 0, .int 0, .int 0, .int 0, .ref a7N, .ref a7B])), (a7N, .inl (cI, 3, .inl (fun _ => 0))), (a8, .inr (8, [.int 0, .int 0, .int 0, .int 0, .ref a8N, .ref a8B])), (a8N, .inl (cI, 3, .inl (fun _ => 0))), (a9, .inr (8, [.int 0, .int 0, .int 0, .int 0, .ref a9N, .ref a9B])), (a9N, .inl (cI, 3, .inl (fun _ => 0))), (b2, .inr (8, [.int 0, .int 0, .int 0, .int 0, .ref b2N, .ref b2B])), (b2N, .inl (cI, 3, .inl (fun _ => 0))), (b3, .inr (8, [.int 0, .int 0, .int 0, .int 0, .ref b3N, .ref b3B])), (b3N, .inl (cI, 3, .inl (fun _ => 0))), (b4, .inr (8, [.int 0, .int 0, .int 0, .int 0, .ref b4N, .ref b4B])), (b4N, .inl (cI, 3, .inl (fun _ => 0))), (b5, .inr (8, [.int 0, .int 0, .int 0, .int 0, .ref b5N, .ref b5B])), (b5N, .inl (cI, 3, .inl (fun _ => 0))), (b6, .inr (8, [.int 0, .int 0, .int 0, .int 0, .ref b6N, .ref b6B])), (b6N, .inl (cI, 3, .inl (fun _ => 0))), (b7, .inr (8, [.int 0, .int 0, .int 0, .int 0, .ref b7N, .ref b7B])), (b7N, .inl (cI, 3, .inl (fun _ => 0))), (b8, .inr (8, [.int 0, .int 0, .int 0, .int 0, .ref b8N, .ref b8B])), (b8N, .inl (cI, 3, .inl (fun _ => 0))), (b9, .inr (8, [.int 0, .int 0, .int 0, .int 0, .ref b9N, .ref b9B])), (b9N, .inl (cI, 3, .inl (fun _ => 0)))] := hD
  refine lv_iinc (v := 2) (lv' := [(2, .int 2), (0, .ref a), (1, .ref b)]) hx hb dX0_copyFrom_54 hl (k := 0) rfl (by decide) (Nat.le_of_ble_eq_true rfl) rfl (fun ls hl => ?_)
  refine lv_goto (tgt := 33) hx hb dX0_copyFrom_57 (by decide) ?_
  refine lv_iload_n hx hb dX0_copyFrom_33 rfl (lv_at hl 0 rfl) ?_
  refine lv_bipush (v := 10) hx hb dX0_copyFrom_34 (by decide) ?_
  refine lv_icmp_ge (tgt := 60) hx hb dX0_copyFrom_36 (by decide) (fun h9 => absurd h9 (by decide)) (fun _ => ?_)
  refine lv_aload_n hx hb dX0_copyFrom_39 rfl (lv_at hl 1 rfl) ?_
  refine va_get (D := (dC, dI)) (ci := 3) (v := .ref aP) (C := RX0) (T := TX0) (N := 5) hx hb hts (fun w h => List.mem_cons_of_mem _ (List.mem_append_left _ (List.mem_append_right _ (h)))) hown hK hP 0 rfl rfl 3 (by decide) (hts (.fieldLink RX0 17 "Netcompare$Circuit" "part" "[LNetcompare$Part;") (List.mem_cons_of_mem _ (List.mem_append_left _ (List.mem_append_left _ (List.mem_of_getElem? (i := 7) rfl))))) (fun _ h9 => h9) rfl dX0_copyFrom_40 ?_
  refine lv_iload_n hx hb dX0_copyFrom_43 rfl (lv_at hl 0 rfl) ?_
  refine va_aldq hx hb hK hP 4 2 rfl rfl (show ¬ (_ ∨ _) by decide) dX0_copyFrom_44 ?_
  refine W.eq (g2 := F0 m 45 ls [.ref a2]) rfl ?_
  refine lv_aload_n hx hb dX0_copyFrom_45 rfl (lv_at hl 2 rfl) ?_
  refine va_get (D := (dC, dI)) (ci := 3) (v := .ref bP) (C := RX0) (T := TX0) (N := 5) hx hb hts (fun w h => List.mem_cons_of_mem _ (List.mem_append_left _ (List.mem_append_right _ (h)))) hown hK hP 1 rfl rfl 3 (by decide) (hts (.fieldLink RX0 17 "Netcompare$Circuit" "part" "[LNetcompare$Part;") (List.mem_cons_of_mem _ (List.mem_append_left _ (List.mem_append_left _ (List.mem_of_getElem? (i := 7) rfl))))) (fun _ h9 => h9) rfl dX0_copyFrom_46 ?_
  refine lv_iload_n hx hb dX0_copyFrom_49 rfl (lv_at hl 0 rfl) ?_
  refine va_aldq hx hb hK hP 5 2 rfl rfl (show ¬ (_ ∨ _) by decide) dX0_copyFrom_50 ?_
  refine W.eq (g2 := F0 m 51 ls [.ref b2, .ref a2]) rfl ?_
  have hPc := hP.sub (ws' := [(a2, .inr (8, [.int 0, .int 0, .int 0, .int 0, .ref a2N, .ref a2B])), (a2N, .inl (cI, 3, .inl (fun _ => 0))), (b2, .inr (8, [.int 0, .int 0, .int 0, .int 0, .ref b2N, .ref b2B])), (b2N, .inl (cI, 3, .inl (fun _ => 0)))]) [6, 7, 22, 23] rfl
  have hDc := hD.sub (ws' := [(a2, .inr (8, [.int 0, .int 0, .int 0, .int 0, .ref a2N, .ref a2B])), (a2N, .inl (cI, 3, .inl (fun _ => 0))), (b2, .inr (8, [.int 0, .int 0, .int 0, .int 0, .ref b2N, .ref b2B])), (b2N, .inl (cI, 3, .inl (fun _ => 0)))]) [6, 7, 22, 23] (by decide) rfl
  have hKc := hK.sub (tys' := [(cI, .int)]) [1] rfl
  have hFc := va_free (wc := [(a2, .inr (8, [.int 0, .int 0, .int 0, .int 0, .ref a2N, .ref a2B])), (a2N, .inl (cI, 3, .inl (fun _ => 0))), (b2, .inr (8, [.int 0, .int 0, .int 0, .int 0, .ref b2N, .ref b2B])), (b2N, .inl (cI, 3, .inl (fun _ => 0)))]) hD hS hA [6, 7, 22, 23] rfl
  refine va_callv (va_runV (As := [.ref b2]) (rest := []) ⟨hx, hb, hml, hown, hts⟩ (kX5_copyFrom l dC dI a2 a2N a2B b2 b2N b2B cI H.size) (cwV 1 hts gX0_copyFrom_X5_copyFrom rfl rfl rfl (by decide +kernel) ⟨Nat.le_of_ble_eq_true rfl, Nat.le_of_ble_eq_true rfl⟩) (fPreV hN hZ hS (fun q h => hFc q h) hPc hKc hDc (ci := 8) (q0 := 0) rfl rfl) rfl rfl hl.1 rfl (lv_room (Nat.le_of_ble_eq_true rfl)) dX0_copyFrom_51 ⟨Nat.le_of_ble_eq_true rfl, Nat.le_of_ble_eq_true rfl⟩) hS (fun q _ h => hFc q h) hFc (fun u t H1 locs ht hvm hw hB hz1 hk1 hS => ?_)
  obtain ⟨hP1, hK1, hD1⟩ := hB
  rw [ht] at hP1
  have hK1 := va_K.moved hvm.symm hK1
  obtain ⟨hP, hD⟩ := va_join (wr := [(a, .inr (3, [.int 0, .int 0, .ref aL, .ref aP, .ref aS])), (b, .inr (3, [.int 0, .int 0, .ref bL, .ref bP, .ref bS])), (aL, .inl (cC, 10, .inl (fun _ => 0))), (bL, .inl (cC, 10, .inl (fun _ => 0))), (aP, .inl (cP, 10, .inr (.inr (.inr (.inr (fch a0 a1 a2 a3 a4 a5 a6 a7 a8 a9)))))), (bP, .inl (cP, 10, .inr (.inr (.inr (.inr (fch b0 b1 b2 b3 b4 b5 b6 b7 b8 b9)))))), (a3, .inr (8, [.int 0, .int 0, .int 0, .int 0, .ref a3N, .ref a3B])), (a3N, .inl (cI, 3, .inl (fun _ => 0))), (a4, .inr (8, [.int 0, .int 0, .int 0, .int 0, .ref a4N, .ref a4B])), (a4N, .inl (cI, 3, .inl (fun _ => 0))), (a5, .inr (8, [.int 0, .int 0, .int 0, .int 0, .ref a5N, .ref a5B])), (a5N, .inl (cI, 3, .inl (fun _ => 0))), (a6, .inr (8, [.int 0, .int 0, .int 0, .int 0, .ref a6N, .ref a6B])), (a6N, .inl (cI, 3, .inl (fun _ => 0))), (a7, .inr (8, [.int 0, .int 0, .int 0, .int 0, .ref a7N, .ref a7B])), (a7N, .inl (cI, 3, .inl (fun _ => 0))), (a8, .inr (8, [.int 0, .int 0, .int 0, .int 0, .ref a8N, .ref a8B])), (a8N, .inl (cI, 3, .inl (fun _ => 0))), (a9, .inr (8, [.int 0, .int 0, .int 0, .int 0, .ref a9N, .ref a9B])), (a9N, .inl (cI, 3, .inl (fun _ => 0))), (b3, .inr (8, [.int 0, .int 0, .int 0, .int 0, .ref b3N, .ref b3B])), (b3N, .inl (cI, 3, .inl (fun _ => 0))), (b4, .inr (8, [.int 0, .int 0, .int 0, .int 0, .ref b4N, .ref b4B])), (b4N, .inl (cI, 3, .inl (fun _ => 0))), (b5, .inr (8, [.int 0, .int 0, .int 0, .int 0, .ref b5N, .ref b5B])), (b5N, .inl (cI, 3, .inl (fun _ => 0))), (b6, .inr (8, [.int 0, .int 0, .int 0, .int 0, .ref b6N, .ref b6B])), (b6N, .inl (cI, 3, .inl (fun _ => 0))), (b7, .inr (8, [.int 0, .int 0, .int 0, .int 0, .ref b7N, .ref b7B])), (b7N, .inl (cI, 3, .inl (fun _ => 0))), (b8, .inr (8, [.int 0, .int 0, .int 0, .int 0, .ref b8N, .ref b8B])), (b8N, .inl (cI, 3, .inl (fun _ => 0))), (b9, .inr (8, [.int 0, .int 0, .int 0, .int 0, .ref b9N, .ref b9B])), (b9N, .inl (cI, 3, .inl (fun _ => 0)))]) (w1 := []) hP hD [6, 7, 22, 23] [0, 1, 2, 3, 4, 5, 8, 9, 10, 11, 12, 13, 14, 15, 16, 17, 18, 19, 20, 21, 24, 25, 26, 27, 28, 29, 30, 31, 32, 33, 34, 35, 36, 37] rfl rfl (by decide) (by decide) hk1 hFc hP1 hD1
  generalize H1 = H at hP hS ⊢
  have hP : va_P (dC, dI) vwCl [(a, .inr (3, [.int 0, .int 0, .ref aL, .ref aP, .ref aS])), (b, .inr (3, [.int 0, .int 0, .ref bL, .ref bP, .ref bS])), (aL, .inl (cC, 10, .inl (fun _ => 0))), (bL, .inl (cC, 10, .inl (fun _ => 0))), (aP, .inl (cP, 10, .inr (.inr (.inr (.inr (fch a0 a1 a2 a3 a4 a5 a6 a7 a8 a9)))))), (bP, .inl (cP, 10, .inr (.inr (.inr (.inr (fch b0 b1 b2 b3 b4 b5 b6 b7 b8 b9)))))), (a3, .inr (8, [.int 0, .int 0, .int 0, .int 0, .ref a3N, .ref a3B])), (a3N, .inl (cI, 3, .inl (fun _ => 0))), (a4, .inr (8, [.int 0, .int 0, .int 0, .int 0, .ref a4N, .ref a4B])), (a4N, .inl (cI, 3, .inl (fun _ => 0))), (a5, .inr (8, [.int 0, .int 0, .int 0, .int 0, .ref a5N, .ref a5B])), (a5N, .inl (cI, 3, .inl (fun _ => 0))), (a6, .inr (8, [.int 0, .int 0, .int 0, .int 0, .ref a6N, .ref a6B])), (a6N, .inl (cI, 3, .inl (fun _ => 0))), (a7, .inr (8, [.int 0, .int 0, .int 0, .int 0, .ref a7N, .ref a7B])), (a7N, .inl (cI, 3, .inl (fun _ => 0))), (a8, .inr (8, [.int 0, .int 0, .int 0, .int 0, .ref a8N, .ref a8B])), (a8N, .inl (cI, 3, .inl (fun _ => 0))), (a9, .inr (8, [.int 0, .int 0, .int 0, .int 0, .ref a9N, .ref a9B])), (a9N, .inl (cI, 3, .inl (fun _ => 0))), (b3, .inr (8, [.int 0, .int 0, .int 0, .int 0, .ref b3N, .ref b3B])), (b3N, .inl (cI, 3, .inl (fun _ => 0))), (b4, .inr (8, [.int 0, .int 0, .int 0, .int 0, .ref b4N, .ref b4B])), (b4N, .inl (cI, 3, .inl (fun _ => 0))), (b5, .inr (8, [.int 0, .int 0, .int 0, .int 0, .ref b5N, .ref b5B])), (b5N, .inl (cI, 3, .inl (fun _ => 0))), (b6, .inr (8, [.int 0, .int 0, .int 0, .int 0, .ref b6N, .ref b6B])), (b6N, .inl (cI, 3, .inl (fun _ => 0))), (b7, .inr (8, [.int 0, .int 0, .int 0, .int 0, .ref b7N, .ref b7B])), (b7N, .inl (cI, 3, .inl (fun _ => 0))), (b8, .inr (8, [.int 0, .int 0, .int 0, .int 0, .ref b8N, .ref b8B])), (b8N, .inl (cI, 3, .inl (fun _ => 0))), (b9, .inr (8, [.int 0, .int 0, .int 0, .int 0, .ref b9N, .ref b9B])), (b9N, .inl (cI, 3, .inl (fun _ => 0)))] _ := hP
  have hD : va_D A [(a, .inr (3, [.int 0, .int 0, .ref aL, .ref aP, .ref aS])), (b, .inr (3, [.int 0, .int 0, .ref bL, .ref bP, .ref bS])), (aL, .inl (cC, 10, .inl (fun _ => 0))), (bL, .inl (cC, 10, .inl (fun _ => 0))), (aP, .inl (cP, 10, .inr (.inr (.inr (.inr (fch a0 a1 a2 a3 a4 a5 a6 a7 a8 a9)))))), (bP, .inl (cP, 10, .inr (.inr (.inr (.inr (fch b0 b1 b2 b3 b4 b5 b6 b7 b8 b9)))))), (a3, .inr (8, [.int 0, .int 0, .int 0, .int 0, .ref a3N, .ref a3B])), (a3N, .inl (cI, 3, .inl (fun _ => 0))), (a4, .inr (8, [.int 0, .int 0, .int 0, .int 0, .ref a4N, .ref a4B])), (a4N, .inl (cI, 3, .inl (fun _ => 0))), (a5, .inr (8, [.int 0, .int 0, .int 0, .int 0, .ref a5N, .ref a5B])), (a5N, .inl (cI, 3, .inl (fun _ => 0))), (a6, .inr (8, [.int 0, .int 0, .int 0, .int 0, .ref a6N, .ref a6B])), (a6N, .inl (cI, 3, .inl (fun _ => 0))), (a7, .inr (8, [.int 0, .int 0, .int 0, .int 0, .ref a7N, .ref a7B])), (a7N, .inl (cI, 3, .inl (fun _ => 0))), (a8, .inr (8, [.int 0, .int 0, .int 0, .int 0, .ref a8N, .ref a8B])), (a8N, .inl (cI, 3, .inl (fun _ => 0))), (a9, .inr (8, [.int 0, .int 0, .int 0, .int 0, .ref a9N, .ref a9B])), (a9N, .inl (cI, 3, .inl (fun _ => 0))), (b3, .inr (8, [.int 0, .int 0, .int 0, .int 0, .ref b3N, .ref b3B])), (b3N, .inl (cI, 3, .inl (fun _ => 0))), (b4, .inr (8, [.int 0, .int 0, .int 0, .int 0, .ref b4N, .ref b4B])), (b4N, .inl (cI, 3, .inl (fun _ => 0))), (b5, .inr (8, [.int 0, .int 0, .int 0, .int 0, .ref b5N, .ref b5B])), (b5N, .inl (cI, 3, .inl (fun _ => 0))), (b6, .inr (8, [.int 0, .int 0, .int 0, .int 0, .ref b6N, .ref b6B])), (b6N, .inl (cI, 3, .inl (fun _ => 0))), (b7, .inr (8, [.int 0, .int 0, .int 0, .int 0, .ref b7N, .ref b7B])), (b7N, .inl (cI, 3, .inl (fun _ => 0))), (b8, .inr (8, [.int 0, .int 0, .int 0, .int 0, .ref b8N, .ref b8B])), (b8N, .inl (cI, 3, .inl (fun _ => 0))), (b9, .inr (8, [.int 0, .int 0, .int 0, .int 0, .ref b9N, .ref b9B])), (b9N, .inl (cI, 3, .inl (fun _ => 0)))] := hD
  refine lv_iinc (v := 3) (lv' := [(2, .int 3), (0, .ref a), (1, .ref b)]) hx hb dX0_copyFrom_54 hl (k := 0) rfl (by decide) (Nat.le_of_ble_eq_true rfl) rfl (fun ls hl => ?_)
  refine lv_goto (tgt := 33) hx hb dX0_copyFrom_57 (by decide) ?_
  refine lv_iload_n hx hb dX0_copyFrom_33 rfl (lv_at hl 0 rfl) ?_
  refine lv_bipush (v := 10) hx hb dX0_copyFrom_34 (by decide) ?_
  refine lv_icmp_ge (tgt := 60) hx hb dX0_copyFrom_36 (by decide) (fun h9 => absurd h9 (by decide)) (fun _ => ?_)
  refine lv_aload_n hx hb dX0_copyFrom_39 rfl (lv_at hl 1 rfl) ?_
  refine va_get (D := (dC, dI)) (ci := 3) (v := .ref aP) (C := RX0) (T := TX0) (N := 5) hx hb hts (fun w h => List.mem_cons_of_mem _ (List.mem_append_left _ (List.mem_append_right _ (h)))) hown hK hP 0 rfl rfl 3 (by decide) (hts (.fieldLink RX0 17 "Netcompare$Circuit" "part" "[LNetcompare$Part;") (List.mem_cons_of_mem _ (List.mem_append_left _ (List.mem_append_left _ (List.mem_of_getElem? (i := 7) rfl))))) (fun _ h9 => h9) rfl dX0_copyFrom_40 ?_
  refine lv_iload_n hx hb dX0_copyFrom_43 rfl (lv_at hl 0 rfl) ?_
  refine va_aldq hx hb hK hP 4 2 rfl rfl (show ¬ (_ ∨ _) by decide) dX0_copyFrom_44 ?_
  refine W.eq (g2 := F0 m 45 ls [.ref a3]) rfl ?_
  refine lv_aload_n hx hb dX0_copyFrom_45 rfl (lv_at hl 2 rfl) ?_
  refine va_get (D := (dC, dI)) (ci := 3) (v := .ref bP) (C := RX0) (T := TX0) (N := 5) hx hb hts (fun w h => List.mem_cons_of_mem _ (List.mem_append_left _ (List.mem_append_right _ (h)))) hown hK hP 1 rfl rfl 3 (by decide) (hts (.fieldLink RX0 17 "Netcompare$Circuit" "part" "[LNetcompare$Part;") (List.mem_cons_of_mem _ (List.mem_append_left _ (List.mem_append_left _ (List.mem_of_getElem? (i := 7) rfl))))) (fun _ h9 => h9) rfl dX0_copyFrom_46 ?_
  refine lv_iload_n hx hb dX0_copyFrom_49 rfl (lv_at hl 0 rfl) ?_
  refine va_aldq hx hb hK hP 5 2 rfl rfl (show ¬ (_ ∨ _) by decide) dX0_copyFrom_50 ?_
  refine W.eq (g2 := F0 m 51 ls [.ref b3, .ref a3]) rfl ?_
  have hPc := hP.sub (ws' := [(a3, .inr (8, [.int 0, .int 0, .int 0, .int 0, .ref a3N, .ref a3B])), (a3N, .inl (cI, 3, .inl (fun _ => 0))), (b3, .inr (8, [.int 0, .int 0, .int 0, .int 0, .ref b3N, .ref b3B])), (b3N, .inl (cI, 3, .inl (fun _ => 0)))]) [6, 7, 20, 21] rfl
  have hDc := hD.sub (ws' := [(a3, .inr (8, [.int 0, .int 0, .int 0, .int 0, .ref a3N, .ref a3B])), (a3N, .inl (cI, 3, .inl (fun _ => 0))), (b3, .inr (8, [.int 0, .int 0, .int 0, .int 0, .ref b3N, .ref b3B])), (b3N, .inl (cI, 3, .inl (fun _ => 0)))]) [6, 7, 20, 21] (by decide) rfl
  have hKc := hK.sub (tys' := [(cI, .int)]) [1] rfl
  have hFc := va_free (wc := [(a3, .inr (8, [.int 0, .int 0, .int 0, .int 0, .ref a3N, .ref a3B])), (a3N, .inl (cI, 3, .inl (fun _ => 0))), (b3, .inr (8, [.int 0, .int 0, .int 0, .int 0, .ref b3N, .ref b3B])), (b3N, .inl (cI, 3, .inl (fun _ => 0)))]) hD hS hA [6, 7, 20, 21] rfl
  refine va_callv (va_runV (As := [.ref b3]) (rest := []) ⟨hx, hb, hml, hown, hts⟩ (kX5_copyFrom l dC dI a3 a3N a3B b3 b3N b3B cI H.size) (cwV 1 hts gX0_copyFrom_X5_copyFrom rfl rfl rfl (by decide +kernel) ⟨Nat.le_of_ble_eq_true rfl, Nat.le_of_ble_eq_true rfl⟩) (fPreV hN hZ hS (fun q h => hFc q h) hPc hKc hDc (ci := 8) (q0 := 0) rfl rfl) rfl rfl hl.1 rfl (lv_room (Nat.le_of_ble_eq_true rfl)) dX0_copyFrom_51 ⟨Nat.le_of_ble_eq_true rfl, Nat.le_of_ble_eq_true rfl⟩) hS (fun q _ h => hFc q h) hFc (fun u t H1 locs ht hvm hw hB hz1 hk1 hS => ?_)
  obtain ⟨hP1, hK1, hD1⟩ := hB
  rw [ht] at hP1
  have hK1 := va_K.moved hvm.symm hK1
  obtain ⟨hP, hD⟩ := va_join (wr := [(a, .inr (3, [.int 0, .int 0, .ref aL, .ref aP, .ref aS])), (b, .inr (3, [.int 0, .int 0, .ref bL, .ref bP, .ref bS])), (aL, .inl (cC, 10, .inl (fun _ => 0))), (bL, .inl (cC, 10, .inl (fun _ => 0))), (aP, .inl (cP, 10, .inr (.inr (.inr (.inr (fch a0 a1 a2 a3 a4 a5 a6 a7 a8 a9)))))), (bP, .inl (cP, 10, .inr (.inr (.inr (.inr (fch b0 b1 b2 b3 b4 b5 b6 b7 b8 b9)))))), (a4, .inr (8, [.int 0, .int 0, .int 0, .int 0, .ref a4N, .ref a4B])), (a4N, .inl (cI, 3, .inl (fun _ => 0))), (a5, .inr (8, [.int 0, .int 0, .int 0, .int 0, .ref a5N, .ref a5B])), (a5N, .inl (cI, 3, .inl (fun _ => 0))), (a6, .inr (8, [.int 0, .int 0, .int 0, .int 0, .ref a6N, .ref a6B])), (a6N, .inl (cI, 3, .inl (fun _ => 0))), (a7, .inr (8, [.int 0, .int 0, .int 0, .int 0, .ref a7N, .ref a7B])), (a7N, .inl (cI, 3, .inl (fun _ => 0))), (a8, .inr (8, [.int 0, .int 0, .int 0, .int 0, .ref a8N, .ref a8B])), (a8N, .inl (cI, 3, .inl (fun _ => 0))), (a9, .inr (8, [.int 0, .int 0, .int 0, .int 0, .ref a9N, .ref a9B])), (a9N, .inl (cI, 3, .inl (fun _ => 0))), (b4, .inr (8, [.int 0, .int 0, .int 0, .int 0, .ref b4N, .ref b4B])), (b4N, .inl (cI, 3, .inl (fun _ => 0))), (b5, .inr (8, [.int 0, .int 0, .int 0, .int 0, .ref b5N, .ref b5B])), (b5N, .inl (cI, 3, .inl (fun _ => 0))), (b6, .inr (8, [.int 0, .int 0, .int 0, .int 0, .ref b6N, .ref b6B])), (b6N, .inl (cI, 3, .inl (fun _ => 0))), (b7, .inr (8, [.int 0, .int 0, .int 0, .int 0, .ref b7N, .ref b7B])), (b7N, .inl (cI, 3, .inl (fun _ => 0))), (b8, .inr (8, [.int 0, .int 0, .int 0, .int 0, .ref b8N, .ref b8B])), (b8N, .inl (cI, 3, .inl (fun _ => 0))), (b9, .inr (8, [.int 0, .int 0, .int 0, .int 0, .ref b9N, .ref b9B])), (b9N, .inl (cI, 3, .inl (fun _ => 0)))]) (w1 := []) hP hD [6, 7, 20, 21] [0, 1, 2, 3, 4, 5, 8, 9, 10, 11, 12, 13, 14, 15, 16, 17, 18, 19, 22, 23, 24, 25, 26, 27, 28, 29, 30, 31, 32, 33] rfl rfl (by decide) (by decide) hk1 hFc hP1 hD1
  generalize H1 = H at hP hS ⊢
  have hP : va_P (dC, dI) vwCl [(a, .inr (3, [.int 0, .int 0, .ref aL, .ref aP, .ref aS])), (b, .inr (3, [.int 0, .int 0, .ref bL, .ref bP, .ref bS])), (aL, .inl (cC, 10, .inl (fun _ => 0))), (bL, .inl (cC, 10, .inl (fun _ => 0))), (aP, .inl (cP, 10, .inr (.inr (.inr (.inr (fch a0 a1 a2 a3 a4 a5 a6 a7 a8 a9)))))), (bP, .inl (cP, 10, .inr (.inr (.inr (.inr (fch b0 b1 b2 b3 b4 b5 b6 b7 b8 b9)))))), (a4, .inr (8, [.int 0, .int 0, .int 0, .int 0, .ref a4N, .ref a4B])), (a4N, .inl (cI, 3, .inl (fun _ => 0))), (a5, .inr (8, [.int 0, .int 0, .int 0, .int 0, .ref a5N, .ref a5B])), (a5N, .inl (cI, 3, .inl (fun _ => 0))), (a6, .inr (8, [.int 0, .int 0, .int 0, .int 0, .ref a6N, .ref a6B])), (a6N, .inl (cI, 3, .inl (fun _ => 0))), (a7, .inr (8, [.int 0, .int 0, .int 0, .int 0, .ref a7N, .ref a7B])), (a7N, .inl (cI, 3, .inl (fun _ => 0))), (a8, .inr (8, [.int 0, .int 0, .int 0, .int 0, .ref a8N, .ref a8B])), (a8N, .inl (cI, 3, .inl (fun _ => 0))), (a9, .inr (8, [.int 0, .int 0, .int 0, .int 0, .ref a9N, .ref a9B])), (a9N, .inl (cI, 3, .inl (fun _ => 0))), (b4, .inr (8, [.int 0, .int 0, .int 0, .int 0, .ref b4N, .ref b4B])), (b4N, .inl (cI, 3, .inl (fun _ => 0))), (b5, .inr (8, [.int 0, .int 0, .int 0, .int 0, .ref b5N, .ref b5B])), (b5N, .inl (cI, 3, .inl (fun _ => 0))), (b6, .inr (8, [.int 0, .int 0, .int 0, .int 0, .ref b6N, .ref b6B])), (b6N, .inl (cI, 3, .inl (fun _ => 0))), (b7, .inr (8, [.int 0, .int 0, .int 0, .int 0, .ref b7N, .ref b7B])), (b7N, .inl (cI, 3, .inl (fun _ => 0))), (b8, .inr (8, [.int 0, .int 0, .int 0, .int 0, .ref b8N, .ref b8B])), (b8N, .inl (cI, 3, .inl (fun _ => 0))), (b9, .inr (8, [.int 0, .int 0, .int 0, .int 0, .ref b9N, .ref b9B])), (b9N, .inl (cI, 3, .inl (fun _ => 0)))] _ := hP
  have hD : va_D A [(a, .inr (3, [.int 0, .int 0, .ref aL, .ref aP, .ref aS])), (b, .inr (3, [.int 0, .int 0, .ref bL, .ref bP, .ref bS])), (aL, .inl (cC, 10, .inl (fun _ => 0))), (bL, .inl (cC, 10, .inl (fun _ => 0))), (aP, .inl (cP, 10, .inr (.inr (.inr (.inr (fch a0 a1 a2 a3 a4 a5 a6 a7 a8 a9)))))), (bP, .inl (cP, 10, .inr (.inr (.inr (.inr (fch b0 b1 b2 b3 b4 b5 b6 b7 b8 b9)))))), (a4, .inr (8, [.int 0, .int 0, .int 0, .int 0, .ref a4N, .ref a4B])), (a4N, .inl (cI, 3, .inl (fun _ => 0))), (a5, .inr (8, [.int 0, .int 0, .int 0, .int 0, .ref a5N, .ref a5B])), (a5N, .inl (cI, 3, .inl (fun _ => 0))), (a6, .inr (8, [.int 0, .int 0, .int 0, .int 0, .ref a6N, .ref a6B])), (a6N, .inl (cI, 3, .inl (fun _ => 0))), (a7, .inr (8, [.int 0, .int 0, .int 0, .int 0, .ref a7N, .ref a7B])), (a7N, .inl (cI, 3, .inl (fun _ => 0))), (a8, .inr (8, [.int 0, .int 0, .int 0, .int 0, .ref a8N, .ref a8B])), (a8N, .inl (cI, 3, .inl (fun _ => 0))), (a9, .inr (8, [.int 0, .int 0, .int 0, .int 0, .ref a9N, .ref a9B])), (a9N, .inl (cI, 3, .inl (fun _ => 0))), (b4, .inr (8, [.int 0, .int 0, .int 0, .int 0, .ref b4N, .ref b4B])), (b4N, .inl (cI, 3, .inl (fun _ => 0))), (b5, .inr (8, [.int 0, .int 0, .int 0, .int 0, .ref b5N, .ref b5B])), (b5N, .inl (cI, 3, .inl (fun _ => 0))), (b6, .inr (8, [.int 0, .int 0, .int 0, .int 0, .ref b6N, .ref b6B])), (b6N, .inl (cI, 3, .inl (fun _ => 0))), (b7, .inr (8, [.int 0, .int 0, .int 0, .int 0, .ref b7N, .ref b7B])), (b7N, .inl (cI, 3, .inl (fun _ => 0))), (b8, .inr (8, [.int 0, .int 0, .int 0, .int 0, .ref b8N, .ref b8B])), (b8N, .inl (cI, 3, .inl (fun _ => 0))), (b9, .inr (8, [.int 0, .int 0, .int 0, .int 0, .ref b9N, .ref b9B])), (b9N, .inl (cI, 3, .inl (fun _ => 0)))] := hD
  refine lv_iinc (v := 4) (lv' := [(2, .int 4), (0, .ref a), (1, .ref b)]) hx hb dX0_copyFrom_54 hl (k := 0) rfl (by decide) (Nat.le_of_ble_eq_true rfl) rfl (fun ls hl => ?_)
  refine lv_goto (tgt := 33) hx hb dX0_copyFrom_57 (by decide) ?_
  refine lv_iload_n hx hb dX0_copyFrom_33 rfl (lv_at hl 0 rfl) ?_
  refine lv_bipush (v := 10) hx hb dX0_copyFrom_34 (by decide) ?_
  refine lv_icmp_ge (tgt := 60) hx hb dX0_copyFrom_36 (by decide) (fun h9 => absurd h9 (by decide)) (fun _ => ?_)
  refine lv_aload_n hx hb dX0_copyFrom_39 rfl (lv_at hl 1 rfl) ?_
  refine va_get (D := (dC, dI)) (ci := 3) (v := .ref aP) (C := RX0) (T := TX0) (N := 5) hx hb hts (fun w h => List.mem_cons_of_mem _ (List.mem_append_left _ (List.mem_append_right _ (h)))) hown hK hP 0 rfl rfl 3 (by decide) (hts (.fieldLink RX0 17 "Netcompare$Circuit" "part" "[LNetcompare$Part;") (List.mem_cons_of_mem _ (List.mem_append_left _ (List.mem_append_left _ (List.mem_of_getElem? (i := 7) rfl))))) (fun _ h9 => h9) rfl dX0_copyFrom_40 ?_
  refine lv_iload_n hx hb dX0_copyFrom_43 rfl (lv_at hl 0 rfl) ?_
  refine va_aldq hx hb hK hP 4 2 rfl rfl (show ¬ (_ ∨ _) by decide) dX0_copyFrom_44 ?_
  refine W.eq (g2 := F0 m 45 ls [.ref a4]) rfl ?_
  refine lv_aload_n hx hb dX0_copyFrom_45 rfl (lv_at hl 2 rfl) ?_
  refine va_get (D := (dC, dI)) (ci := 3) (v := .ref bP) (C := RX0) (T := TX0) (N := 5) hx hb hts (fun w h => List.mem_cons_of_mem _ (List.mem_append_left _ (List.mem_append_right _ (h)))) hown hK hP 1 rfl rfl 3 (by decide) (hts (.fieldLink RX0 17 "Netcompare$Circuit" "part" "[LNetcompare$Part;") (List.mem_cons_of_mem _ (List.mem_append_left _ (List.mem_append_left _ (List.mem_of_getElem? (i := 7) rfl))))) (fun _ h9 => h9) rfl dX0_copyFrom_46 ?_
  refine lv_iload_n hx hb dX0_copyFrom_49 rfl (lv_at hl 0 rfl) ?_
  refine va_aldq hx hb hK hP 5 2 rfl rfl (show ¬ (_ ∨ _) by decide) dX0_copyFrom_50 ?_
  refine W.eq (g2 := F0 m 51 ls [.ref b4, .ref a4]) rfl ?_
  have hPc := hP.sub (ws' := [(a4, .inr (8, [.int 0, .int 0, .int 0, .int 0, .ref a4N, .ref a4B])), (a4N, .inl (cI, 3, .inl (fun _ => 0))), (b4, .inr (8, [.int 0, .int 0, .int 0, .int 0, .ref b4N, .ref b4B])), (b4N, .inl (cI, 3, .inl (fun _ => 0)))]) [6, 7, 18, 19] rfl
  have hDc := hD.sub (ws' := [(a4, .inr (8, [.int 0, .int 0, .int 0, .int 0, .ref a4N, .ref a4B])), (a4N, .inl (cI, 3, .inl (fun _ => 0))), (b4, .inr (8, [.int 0, .int 0, .int 0, .int 0, .ref b4N, .ref b4B])), (b4N, .inl (cI, 3, .inl (fun _ => 0)))]) [6, 7, 18, 19] (by decide) rfl
  have hKc := hK.sub (tys' := [(cI, .int)]) [1] rfl
  have hFc := va_free (wc := [(a4, .inr (8, [.int 0, .int 0, .int 0, .int 0, .ref a4N, .ref a4B])), (a4N, .inl (cI, 3, .inl (fun _ => 0))), (b4, .inr (8, [.int 0, .int 0, .int 0, .int 0, .ref b4N, .ref b4B])), (b4N, .inl (cI, 3, .inl (fun _ => 0)))]) hD hS hA [6, 7, 18, 19] rfl
  refine va_callv (va_runV (As := [.ref b4]) (rest := []) ⟨hx, hb, hml, hown, hts⟩ (kX5_copyFrom l dC dI a4 a4N a4B b4 b4N b4B cI H.size) (cwV 1 hts gX0_copyFrom_X5_copyFrom rfl rfl rfl (by decide +kernel) ⟨Nat.le_of_ble_eq_true rfl, Nat.le_of_ble_eq_true rfl⟩) (fPreV hN hZ hS (fun q h => hFc q h) hPc hKc hDc (ci := 8) (q0 := 0) rfl rfl) rfl rfl hl.1 rfl (lv_room (Nat.le_of_ble_eq_true rfl)) dX0_copyFrom_51 ⟨Nat.le_of_ble_eq_true rfl, Nat.le_of_ble_eq_true rfl⟩) hS (fun q _ h => hFc q h) hFc (fun u t H1 locs ht hvm hw hB hz1 hk1 hS => ?_)
  obtain ⟨hP1, hK1, hD1⟩ := hB
  rw [ht] at hP1
  have hK1 := va_K.moved hvm.symm hK1
  obtain ⟨hP, hD⟩ := va_join (wr := [(a, .inr (3, [.int 0, .int 0, .ref aL, .ref aP, .ref aS])), (b, .inr (3, [.int 0, .int 0, .ref bL, .ref bP, .ref bS])), (aL, .inl (cC, 10, .inl (fun _ => 0))), (bL, .inl (cC, 10, .inl (fun _ => 0))), (aP, .inl (cP, 10, .inr (.inr (.inr (.inr (fch a0 a1 a2 a3 a4 a5 a6 a7 a8 a9)))))), (bP, .inl (cP, 10, .inr (.inr (.inr (.inr (fch b0 b1 b2 b3 b4 b5 b6 b7 b8 b9)))))), (a5, .inr (8, [.int 0, .int 0, .int 0, .int 0, .ref a5N, .ref a5B])), (a5N, .inl (cI, 3, .inl (fun _ => 0))), (a6, .inr (8, [.int 0, .int 0, .int 0, .int 0, .ref a6N, .ref a6B])), (a6N, .inl (cI, 3, .inl (fun _ => 0))), (a7, .inr (8, [.int 0, .int 0, .int 0, .int 0, .ref a7N, .ref a7B])), (a7N, .inl (cI, 3, .inl (fun _ => 0))), (a8, .inr (8, [.int 0, .int 0, .int 0, .int 0, .ref a8N, .ref a8B])), (a8N, .inl (cI, 3, .inl (fun _ => 0))), (a9, .inr (8, [.int 0, .int 0, .int 0, .int 0, .ref a9N, .ref a9B])), (a9N, .inl (cI, 3, .inl (fun _ => 0))), (b5, .inr (8, [.int 0, .int 0, .int 0, .int 0, .ref b5N, .ref b5B])), (b5N, .inl (cI, 3, .inl (fun _ => 0))), (b6, .inr (8, [.int 0, .int 0, .int 0, .int 0, .ref b6N, .ref b6B])), (b6N, .inl (cI, 3, .inl (fun _ => 0))), (b7, .inr (8, [.int 0, .int 0, .int 0, .int 0, .ref b7N, .ref b7B])), (b7N, .inl (cI, 3, .inl (fun _ => 0))), (b8, .inr (8, [.int 0, .int 0, .int 0, .int 0, .ref b8N, .ref b8B])), (b8N, .inl (cI, 3, .inl (fun _ => 0))), (b9, .inr (8, [.int 0, .int 0, .int 0, .int 0, .ref b9N, .ref b9B])), (b9N, .inl (cI, 3, .inl (fun _ => 0)))]) (w1 := []) hP hD [6, 7, 18, 19] [0, 1, 2, 3, 4, 5, 8, 9, 10, 11, 12, 13, 14, 15, 16, 17, 20, 21, 22, 23, 24, 25, 26, 27, 28, 29] rfl rfl (by decide) (by decide) hk1 hFc hP1 hD1
  generalize H1 = H at hP hS ⊢
  have hP : va_P (dC, dI) vwCl [(a, .inr (3, [.int 0, .int 0, .ref aL, .ref aP, .ref aS])), (b, .inr (3, [.int 0, .int 0, .ref bL, .ref bP, .ref bS])), (aL, .inl (cC, 10, .inl (fun _ => 0))), (bL, .inl (cC, 10, .inl (fun _ => 0))), (aP, .inl (cP, 10, .inr (.inr (.inr (.inr (fch a0 a1 a2 a3 a4 a5 a6 a7 a8 a9)))))), (bP, .inl (cP, 10, .inr (.inr (.inr (.inr (fch b0 b1 b2 b3 b4 b5 b6 b7 b8 b9)))))), (a5, .inr (8, [.int 0, .int 0, .int 0, .int 0, .ref a5N, .ref a5B])), (a5N, .inl (cI, 3, .inl (fun _ => 0))), (a6, .inr (8, [.int 0, .int 0, .int 0, .int 0, .ref a6N, .ref a6B])), (a6N, .inl (cI, 3, .inl (fun _ => 0))), (a7, .inr (8, [.int 0, .int 0, .int 0, .int 0, .ref a7N, .ref a7B])), (a7N, .inl (cI, 3, .inl (fun _ => 0))), (a8, .inr (8, [.int 0, .int 0, .int 0, .int 0, .ref a8N, .ref a8B])), (a8N, .inl (cI, 3, .inl (fun _ => 0))), (a9, .inr (8, [.int 0, .int 0, .int 0, .int 0, .ref a9N, .ref a9B])), (a9N, .inl (cI, 3, .inl (fun _ => 0))), (b5, .inr (8, [.int 0, .int 0, .int 0, .int 0, .ref b5N, .ref b5B])), (b5N, .inl (cI, 3, .inl (fun _ => 0))), (b6, .inr (8, [.int 0, .int 0, .int 0, .int 0, .ref b6N, .ref b6B])), (b6N, .inl (cI, 3, .inl (fun _ => 0))), (b7, .inr (8, [.int 0, .int 0, .int 0, .int 0, .ref b7N, .ref b7B])), (b7N, .inl (cI, 3, .inl (fun _ => 0))), (b8, .inr (8, [.int 0, .int 0, .int 0, .int 0, .ref b8N, .ref b8B])), (b8N, .inl (cI, 3, .inl (fun _ => 0))), (b9, .inr (8, [.int 0, .int 0, .int 0, .int 0, .ref b9N, .ref b9B])), (b9N, .inl (cI, 3, .inl (fun _ => 0)))] _ := hP
  have hD : va_D A [(a, .inr (3, [.int 0, .int 0, .ref aL, .ref aP, .ref aS])), (b, .inr (3, [.int 0, .int 0, .ref bL, .ref bP, .ref bS])), (aL, .inl (cC, 10, .inl (fun _ => 0))), (bL, .inl (cC, 10, .inl (fun _ => 0))), (aP, .inl (cP, 10, .inr (.inr (.inr (.inr (fch a0 a1 a2 a3 a4 a5 a6 a7 a8 a9)))))), (bP, .inl (cP, 10, .inr (.inr (.inr (.inr (fch b0 b1 b2 b3 b4 b5 b6 b7 b8 b9)))))), (a5, .inr (8, [.int 0, .int 0, .int 0, .int 0, .ref a5N, .ref a5B])), (a5N, .inl (cI, 3, .inl (fun _ => 0))), (a6, .inr (8, [.int 0, .int 0, .int 0, .int 0, .ref a6N, .ref a6B])), (a6N, .inl (cI, 3, .inl (fun _ => 0))), (a7, .inr (8, [.int 0, .int 0, .int 0, .int 0, .ref a7N, .ref a7B])), (a7N, .inl (cI, 3, .inl (fun _ => 0))), (a8, .inr (8, [.int 0, .int 0, .int 0, .int 0, .ref a8N, .ref a8B])), (a8N, .inl (cI, 3, .inl (fun _ => 0))), (a9, .inr (8, [.int 0, .int 0, .int 0, .int 0, .ref a9N, .ref a9B])), (a9N, .inl (cI, 3, .inl (fun _ => 0))), (b5, .inr (8, [.int 0, .int 0, .int 0, .int 0, .ref b5N, .ref b5B])), (b5N, .inl (cI, 3, .inl (fun _ => 0))), (b6, .inr (8, [.int 0, .int 0, .int 0, .int 0, .ref b6N, .ref b6B])), (b6N, .inl (cI, 3, .inl (fun _ => 0))), (b7, .inr (8, [.int 0, .int 0, .int 0, .int 0, .ref b7N, .ref b7B])), (b7N, .inl (cI, 3, .inl (fun _ => 0))), (b8, .inr (8, [.int 0, .int 0, .int 0, .int 0, .ref b8N, .ref b8B])), (b8N, .inl (cI, 3, .inl (fun _ => 0))), (b9, .inr (8, [.int 0, .int 0, .int 0, .int 0, .ref b9N, .ref b9B])), (b9N, .inl (cI, 3, .inl (fun _ => 0)))] := hD
  refine lv_iinc (v := 5) (lv' := [(2, .int 5), (0, .ref a), (1, .ref b)]) hx hb dX0_copyFrom_54 hl (k := 0) rfl (by decide) (Nat.le_of_ble_eq_true rfl) rfl (fun ls hl => ?_)
  refine lv_goto (tgt := 33) hx hb dX0_copyFrom_57 (by decide) ?_
  refine lv_iload_n hx hb dX0_copyFrom_33 rfl (lv_at hl 0 rfl) ?_
  refine lv_bipush (v := 10) hx hb dX0_copyFrom_34 (by decide) ?_
  refine lv_icmp_ge (tgt := 60) hx hb dX0_copyFrom_36 (by decide) (fun h9 => absurd h9 (by decide)) (fun _ => ?_)
  refine lv_aload_n hx hb dX0_copyFrom_39 rfl (lv_at hl 1 rfl) ?_
  refine va_get (D := (dC, dI)) (ci := 3) (v := .ref aP) (C := RX0) (T := TX0) (N := 5) hx hb hts (fun w h => List.mem_cons_of_mem _ (List.mem_append_left _ (List.mem_append_right _ (h)))) hown hK hP 0 rfl rfl 3 (by decide) (hts (.fieldLink RX0 17 "Netcompare$Circuit" "part" "[LNetcompare$Part;") (List.mem_cons_of_mem _ (List.mem_append_left _ (List.mem_append_left _ (List.mem_of_getElem? (i := 7) rfl))))) (fun _ h9 => h9) rfl dX0_copyFrom_40 ?_
  refine lv_iload_n hx hb dX0_copyFrom_43 rfl (lv_at hl 0 rfl) ?_
  refine va_aldq hx hb hK hP 4 2 rfl rfl (show ¬ (_ ∨ _) by decide) dX0_copyFrom_44 ?_
  refine W.eq (g2 := F0 m 45 ls [.ref a5]) rfl ?_
  refine lv_aload_n hx hb dX0_copyFrom_45 rfl (lv_at hl 2 rfl) ?_
  refine va_get (D := (dC, dI)) (ci := 3) (v := .ref bP) (C := RX0) (T := TX0) (N := 5) hx hb hts (fun w h => List.mem_cons_of_mem _ (List.mem_append_left _ (List.mem_append_right _ (h)))) hown hK hP 1 rfl rfl 3 (by decide) (hts (.fieldLink RX0 17 "Netcompare$Circuit" "part" "[LNetcompare$Part;") (List.mem_cons_of_mem _ (List.mem_append_left _ (List.mem_append_left _ (List.mem_of_getElem? (i := 7) rfl))))) (fun _ h9 => h9) rfl dX0_copyFrom_46 ?_
  refine lv_iload_n hx hb dX0_copyFrom_49 rfl (lv_at hl 0 rfl) ?_
  refine va_aldq hx hb hK hP 5 2 rfl rfl (show ¬ (_ ∨ _) by decide) dX0_copyFrom_50 ?_
  refine W.eq (g2 := F0 m 51 ls [.ref b5, .ref a5]) rfl ?_
  have hPc := hP.sub (ws' := [(a5, .inr (8, [.int 0, .int 0, .int 0, .int 0, .ref a5N, .ref a5B])), (a5N, .inl (cI, 3, .inl (fun _ => 0))), (b5, .inr (8, [.int 0, .int 0, .int 0, .int 0, .ref b5N, .ref b5B])), (b5N, .inl (cI, 3, .inl (fun _ => 0)))]) [6, 7, 16, 17] rfl
  have hDc := hD.sub (ws' := [(a5, .inr (8, [.int 0, .int 0, .int 0, .int 0, .ref a5N, .ref a5B])), (a5N, .inl (cI, 3, .inl (fun _ => 0))), (b5, .inr (8, [.int 0, .int 0, .int 0, .int 0, .ref b5N, .ref b5B])), (b5N, .inl (cI, 3, .inl (fun _ => 0)))]) [6, 7, 16, 17] (by decide) rfl
  have hKc := hK.sub (tys' := [(cI, .int)]) [1] rfl
  have hFc := va_free (wc := [(a5, .inr (8, [.int 0, .int 0, .int 0, .int 0, .ref a5N, .ref a5B])), (a5N, .inl (cI, 3, .inl (fun _ => 0))), (b5, .inr (8, [.int 0, .int 0, .int 0, .int 0, .ref b5N, .ref b5B])), (b5N, .inl (cI, 3, .inl (fun _ => 0)))]) hD hS hA [6, 7, 16, 17] rfl
  refine va_callv (va_runV (As := [.ref b5]) (rest := []) ⟨hx, hb, hml, hown, hts⟩ (kX5_copyFrom l dC dI a5 a5N a5B b5 b5N b5B cI H.size) (cwV 1 hts gX0_copyFrom_X5_copyFrom rfl rfl rfl (by decide +kernel) ⟨Nat.le_of_ble_eq_true rfl, Nat.le_of_ble_eq_true rfl⟩) (fPreV hN hZ hS (fun q h => hFc q h) hPc hKc hDc (ci := 8) (q0 := 0) rfl rfl) rfl rfl hl.1 rfl (lv_room (Nat.le_of_ble_eq_true rfl)) dX0_copyFrom_51 ⟨Nat.le_of_ble_eq_true rfl, Nat.le_of_ble_eq_true rfl⟩) hS (fun q _ h => hFc q h) hFc (fun u t H1 locs ht hvm hw hB hz1 hk1 hS => ?_)
  obtain ⟨hP1, hK1, hD1⟩ := hB
  rw [ht] at hP1
  have hK1 := va_K.moved hvm.symm hK1
  obtain ⟨hP, hD⟩ := va_join (wr := [(a, .inr (3, [.int 0, .int 0, .ref aL, .ref aP, .ref aS])), (b, .inr (3, [.int 0, .int 0, .ref bL, .ref bP, .ref bS])), (aL, .inl (cC, 10, .inl (fun _ => 0))), (bL, .inl (cC, 10, .inl (fun _ => 0))), (aP, .inl (cP, 10, .inr (.inr (.inr (.inr (fch a0 a1 a2 a3 a4 a5 a6 a7 a8 a9)))))), (bP, .inl (cP, 10, .inr (.inr (.inr (.inr (fch b0 b1 b2 b3 b4 b5 b6 b7 b8 b9)))))), (a6, .inr (8, [.int 0, .int 0, .int 0, .int 0, .ref a6N, .ref a6B])), (a6N, .inl (cI, 3, .inl (fun _ => 0))), (a7, .inr (8, [.int 0, .int 0, .int 0, .int 0, .ref a7N, .ref a7B])), (a7N, .inl (cI, 3, .inl (fun _ => 0))), (a8, .inr (8, [.int 0, .int 0, .int 0, .int 0, .ref a8N, .ref a8B])), (a8N, .inl (cI, 3, .inl (fun _ => 0))), (a9, .inr (8, [.int 0, .int 0, .int 0, .int 0, .ref a9N, .ref a9B])), (a9N, .inl (cI, 3, .inl (fun _ => 0))), (b6, .inr (8, [.int 0, .int 0, .int 0, .int 0, .ref b6N, .ref b6B])), (b6N, .inl (cI, 3, .inl (fun _ => 0))), (b7, .inr (8, [.int 0, .int 0, .int 0, .int 0, .ref b7N, .ref b7B])), (b7N, .inl (cI, 3, .inl (fun _ => 0))), (b8, .inr (8, [.int 0, .int 0, .int 0, .int 0, .ref b8N, .ref b8B])), (b8N, .inl (cI, 3, .inl (fun _ => 0))), (b9, .inr (8, [.int 0, .int 0, .int 0, .int 0, .ref b9N, .ref b9B])), (b9N, .inl (cI, 3, .inl (fun _ => 0)))]) (w1 := []) hP hD [6, 7, 16, 17] [0, 1, 2, 3, 4, 5, 8, 9, 10, 11, 12, 13, 14, 15, 18, 19, 20, 21, 22, 23, 24, 25] rfl rfl (by decide) (by decide) hk1 hFc hP1 hD1
  generalize H1 = H at hP hS ⊢
  have hP : va_P (dC, dI) vwCl [(a, .inr (3, [.int 0, .int 0, .ref aL, .ref aP, .ref aS])), (b, .inr (3, [.int 0, .int 0, .ref bL, .ref bP, .ref bS])), (aL, .inl (cC, 10, .inl (fun _ => 0))), (bL, .inl (cC, 10, .inl (fun _ => 0))), (aP, .inl (cP, 10, .inr (.inr (.inr (.inr (fch a0 a1 a2 a3 a4 a5 a6 a7 a8 a9)))))), (bP, .inl (cP, 10, .inr (.inr (.inr (.inr (fch b0 b1 b2 b3 b4 b5 b6 b7 b8 b9)))))), (a6, .inr (8, [.int 0, .int 0, .int 0, .int 0, .ref a6N, .ref a6B])), (a6N, .inl (cI, 3, .inl (fun _ => 0))), (a7, .inr (8, [.int 0, .int 0, .int 0, .int 0, .ref a7N, .ref a7B])), (a7N, .inl (cI, 3, .inl (fun _ => 0))), (a8, .inr (8, [.int 0, .int 0, .int 0, .int 0, .ref a8N, .ref a8B])), (a8N, .inl (cI, 3, .inl (fun _ => 0))), (a9, .inr (8, [.int 0, .int 0, .int 0, .int 0, .ref a9N, .ref a9B])), (a9N, .inl (cI, 3, .inl (fun _ => 0))), (b6, .inr (8, [.int 0, .int 0, .int 0, .int 0, .ref b6N, .ref b6B])), (b6N, .inl (cI, 3, .inl (fun _ => 0))), (b7, .inr (8, [.int 0, .int 0, .int 0, .int 0, .ref b7N, .ref b7B])), (b7N, .inl (cI, 3, .inl (fun _ => 0))), (b8, .inr (8, [.int 0, .int 0, .int 0, .int 0, .ref b8N, .ref b8B])), (b8N, .inl (cI, 3, .inl (fun _ => 0))), (b9, .inr (8, [.int 0, .int 0, .int 0, .int 0, .ref b9N, .ref b9B])), (b9N, .inl (cI, 3, .inl (fun _ => 0)))] _ := hP
  have hD : va_D A [(a, .inr (3, [.int 0, .int 0, .ref aL, .ref aP, .ref aS])), (b, .inr (3, [.int 0, .int 0, .ref bL, .ref bP, .ref bS])), (aL, .inl (cC, 10, .inl (fun _ => 0))), (bL, .inl (cC, 10, .inl (fun _ => 0))), (aP, .inl (cP, 10, .inr (.inr (.inr (.inr (fch a0 a1 a2 a3 a4 a5 a6 a7 a8 a9)))))), (bP, .inl (cP, 10, .inr (.inr (.inr (.inr (fch b0 b1 b2 b3 b4 b5 b6 b7 b8 b9)))))), (a6, .inr (8, [.int 0, .int 0, .int 0, .int 0, .ref a6N, .ref a6B])), (a6N, .inl (cI, 3, .inl (fun _ => 0))), (a7, .inr (8, [.int 0, .int 0, .int 0, .int 0, .ref a7N, .ref a7B])), (a7N, .inl (cI, 3, .inl (fun _ => 0))), (a8, .inr (8, [.int 0, .int 0, .int 0, .int 0, .ref a8N, .ref a8B])), (a8N, .inl (cI, 3, .inl (fun _ => 0))), (a9, .inr (8, [.int 0, .int 0, .int 0, .int 0, .ref a9N, .ref a9B])), (a9N, .inl (cI, 3, .inl (fun _ => 0))), (b6, .inr (8, [.int 0, .int 0, .int 0, .int 0, .ref b6N, .ref b6B])), (b6N, .inl (cI, 3, .inl (fun _ => 0))), (b7, .inr (8, [.int 0, .int 0, .int 0, .int 0, .ref b7N, .ref b7B])), (b7N, .inl (cI, 3, .inl (fun _ => 0))), (b8, .inr (8, [.int 0, .int 0, .int 0, .int 0, .ref b8N, .ref b8B])), (b8N, .inl (cI, 3, .inl (fun _ => 0))), (b9, .inr (8, [.int 0, .int 0, .int 0, .int 0, .ref b9N, .ref b9B])), (b9N, .inl (cI, 3, .inl (fun _ => 0)))] := hD
  refine lv_iinc (v := 6) (lv' := [(2, .int 6), (0, .ref a), (1, .ref b)]) hx hb dX0_copyFrom_54 hl (k := 0) rfl (by decide) (Nat.le_of_ble_eq_true rfl) rfl (fun ls hl => ?_)
  refine lv_goto (tgt := 33) hx hb dX0_copyFrom_57 (by decide) ?_
  refine lv_iload_n hx hb dX0_copyFrom_33 rfl (lv_at hl 0 rfl) ?_
  refine lv_bipush (v := 10) hx hb dX0_copyFrom_34 (by decide) ?_
  refine lv_icmp_ge (tgt := 60) hx hb dX0_copyFrom_36 (by decide) (fun h9 => absurd h9 (by decide)) (fun _ => ?_)
  refine lv_aload_n hx hb dX0_copyFrom_39 rfl (lv_at hl 1 rfl) ?_
  refine va_get (D := (dC, dI)) (ci := 3) (v := .ref aP) (C := RX0) (T := TX0) (N := 5) hx hb hts (fun w h => List.mem_cons_of_mem _ (List.mem_append_left _ (List.mem_append_right _ (h)))) hown hK hP 0 rfl rfl 3 (by decide) (hts (.fieldLink RX0 17 "Netcompare$Circuit" "part" "[LNetcompare$Part;") (List.mem_cons_of_mem _ (List.mem_append_left _ (List.mem_append_left _ (List.mem_of_getElem? (i := 7) rfl))))) (fun _ h9 => h9) rfl dX0_copyFrom_40 ?_
  refine lv_iload_n hx hb dX0_copyFrom_43 rfl (lv_at hl 0 rfl) ?_
  refine va_aldq hx hb hK hP 4 2 rfl rfl (show ¬ (_ ∨ _) by decide) dX0_copyFrom_44 ?_
  refine W.eq (g2 := F0 m 45 ls [.ref a6]) rfl ?_
  refine lv_aload_n hx hb dX0_copyFrom_45 rfl (lv_at hl 2 rfl) ?_
  refine va_get (D := (dC, dI)) (ci := 3) (v := .ref bP) (C := RX0) (T := TX0) (N := 5) hx hb hts (fun w h => List.mem_cons_of_mem _ (List.mem_append_left _ (List.mem_append_right _ (h)))) hown hK hP 1 rfl rfl 3 (by decide) (hts (.fieldLink RX0 17 "Netcompare$Circuit" "part" "[LNetcompare$Part;") (List.mem_cons_of_mem _ (List.mem_append_left _ (List.mem_append_left _ (List.mem_of_getElem? (i := 7) rfl))))) (fun _ h9 => h9) rfl dX0_copyFrom_46 ?_
  refine lv_iload_n hx hb dX0_copyFrom_49 rfl (lv_at hl 0 rfl) ?_
  refine va_aldq hx hb hK hP 5 2 rfl rfl (show ¬ (_ ∨ _) by decide) dX0_copyFrom_50 ?_
  refine W.eq (g2 := F0 m 51 ls [.ref b6, .ref a6]) rfl ?_
  have hPc := hP.sub (ws' := [(a6, .inr (8, [.int 0, .int 0, .int 0, .int 0, .ref a6N, .ref a6B])), (a6N, .inl (cI, 3, .inl (fun _ => 0))), (b6, .inr (8, [.int 0, .int 0, .int 0, .int 0, .ref b6N, .ref b6B])), (b6N, .inl (cI, 3, .inl (fun _ => 0)))]) [6, 7, 14, 15] rfl
  have hDc := hD.sub (ws' := [(a6, .inr (8, [.int 0, .int 0, .int 0, .int 0, .ref a6N, .ref a6B])), (a6N, .inl (cI, 3, .inl (fun _ => 0))), (b6, .inr (8, [.int 0, .int 0, .int 0, .int 0, .ref b6N, .ref b6B])), (b6N, .inl (cI, 3, .inl (fun _ => 0)))]) [6, 7, 14, 15] (by decide) rfl
  have hKc := hK.sub (tys' := [(cI, .int)]) [1] rfl
  have hFc := va_free (wc := [(a6, .inr (8, [.int 0, .int 0, .int 0, .int 0, .ref a6N, .ref a6B])), (a6N, .inl (cI, 3, .inl (fun _ => 0))), (b6, .inr (8, [.int 0, .int 0, .int 0, .int 0, .ref b6N, .ref b6B])), (b6N, .inl (cI, 3, .inl (fun _ => 0)))]) hD hS hA [6, 7, 14, 15] rfl
  refine va_callv (va_runV (As := [.ref b6]) (rest := []) ⟨hx, hb, hml, hown, hts⟩ (kX5_copyFrom l dC dI a6 a6N a6B b6 b6N b6B cI H.size) (cwV 1 hts gX0_copyFrom_X5_copyFrom rfl rfl rfl (by decide +kernel) ⟨Nat.le_of_ble_eq_true rfl, Nat.le_of_ble_eq_true rfl⟩) (fPreV hN hZ hS (fun q h => hFc q h) hPc hKc hDc (ci := 8) (q0 := 0) rfl rfl) rfl rfl hl.1 rfl (lv_room (Nat.le_of_ble_eq_true rfl)) dX0_copyFrom_51 ⟨Nat.le_of_ble_eq_true rfl, Nat.le_of_ble_eq_true rfl⟩) hS (fun q _ h => hFc q h) hFc (fun u t H1 locs ht hvm hw hB hz1 hk1 hS => ?_)
  obtain ⟨hP1, hK1, hD1⟩ := hB
  rw [ht] at hP1
  have hK1 := va_K.moved hvm.symm hK1
  obtain ⟨hP, hD⟩ := va_join (wr := [(a, .inr (3, [.int 0, .int 0, .ref aL, .ref aP, .ref aS])), (b, .inr (3, [.int 0, .int 0, .ref bL, .ref bP, .ref bS])), (aL, .inl (cC, 10, .inl (fun _ => 0))), (bL, .inl (cC, 10, .inl (fun _ => 0))), (aP, .inl (cP, 10, .inr (.inr (.inr (.inr (fch a0 a1 a2 a3 a4 a5 a6 a7 a8 a9)))))), (bP, .inl (cP, 10, .inr (.inr (.inr (.inr (fch b0 b1 b2 b3 b4 b5 b6 b7 b8 b9)))))), (a7, .inr (8, [.int 0, .int 0, .int 0, .int 0, .ref a7N, .ref a7B])), (a7N, .inl (cI, 3, .inl (fun _ => 0))), (a8, .inr (8, [.int 0, .int 0, .int 0, .int 0, .ref a8N, .ref a8B])), (a8N, .inl (cI, 3, .inl (fun _ => 0))), (a9, .inr (8, [.int 0, .int 0, .int 0, .int 0, .ref a9N, .ref a9B])), (a9N, .inl (cI, 3, .inl (fun _ => 0))), (b7, .inr (8, [.int 0, .int 0, .int 0, .int 0, .ref b7N, .ref b7B])), (b7N, .inl (cI, 3, .inl (fun _ => 0))), (b8, .inr (8, [.int 0, .int 0, .int 0, .int 0, .ref b8N, .ref b8B])), (b8N, .inl (cI, 3, .inl (fun _ => 0))), (b9, .inr (8, [.int 0, .int 0, .int 0, .int 0, .ref b9N, .ref b9B])), (b9N, .inl (cI, 3, .inl (fun _ => 0)))]) (w1 := []) hP hD [6, 7, 14, 15] [0, 1, 2, 3, 4, 5, 8, 9, 10, 11, 12, 13, 16, 17, 18, 19, 20, 21] rfl rfl (by decide) (by decide) hk1 hFc hP1 hD1
  generalize H1 = H at hP hS ⊢
  have hP : va_P (dC, dI) vwCl [(a, .inr (3, [.int 0, .int 0, .ref aL, .ref aP, .ref aS])), (b, .inr (3, [.int 0, .int 0, .ref bL, .ref bP, .ref bS])), (aL, .inl (cC, 10, .inl (fun _ => 0))), (bL, .inl (cC, 10, .inl (fun _ => 0))), (aP, .inl (cP, 10, .inr (.inr (.inr (.inr (fch a0 a1 a2 a3 a4 a5 a6 a7 a8 a9)))))), (bP, .inl (cP, 10, .inr (.inr (.inr (.inr (fch b0 b1 b2 b3 b4 b5 b6 b7 b8 b9)))))), (a7, .inr (8, [.int 0, .int 0, .int 0, .int 0, .ref a7N, .ref a7B])), (a7N, .inl (cI, 3, .inl (fun _ => 0))), (a8, .inr (8, [.int 0, .int 0, .int 0, .int 0, .ref a8N, .ref a8B])), (a8N, .inl (cI, 3, .inl (fun _ => 0))), (a9, .inr (8, [.int 0, .int 0, .int 0, .int 0, .ref a9N, .ref a9B])), (a9N, .inl (cI, 3, .inl (fun _ => 0))), (b7, .inr (8, [.int 0, .int 0, .int 0, .int 0, .ref b7N, .ref b7B])), (b7N, .inl (cI, 3, .inl (fun _ => 0))), (b8, .inr (8, [.int 0, .int 0, .int 0, .int 0, .ref b8N, .ref b8B])), (b8N, .inl (cI, 3, .inl (fun _ => 0))), (b9, .inr (8, [.int 0, .int 0, .int 0, .int 0, .ref b9N, .ref b9B])), (b9N, .inl (cI, 3, .inl (fun _ => 0)))] _ := hP
  have hD : va_D A [(a, .inr (3, [.int 0, .int 0, .ref aL, .ref aP, .ref aS])), (b, .inr (3, [.int 0, .int 0, .ref bL, .ref bP, .ref bS])), (aL, .inl (cC, 10, .inl (fun _ => 0))), (bL, .inl (cC, 10, .inl (fun _ => 0))), (aP, .inl (cP, 10, .inr (.inr (.inr (.inr (fch a0 a1 a2 a3 a4 a5 a6 a7 a8 a9)))))), (bP, .inl (cP, 10, .inr (.inr (.inr (.inr (fch b0 b1 b2 b3 b4 b5 b6 b7 b8 b9)))))), (a7, .inr (8, [.int 0, .int 0, .int 0, .int 0, .ref a7N, .ref a7B])), (a7N, .inl (cI, 3, .inl (fun _ => 0))), (a8, .inr (8, [.int 0, .int 0, .int 0, .int 0, .ref a8N, .ref a8B])), (a8N, .inl (cI, 3, .inl (fun _ => 0))), (a9, .inr (8, [.int 0, .int 0, .int 0, .int 0, .ref a9N, .ref a9B])), (a9N, .inl (cI, 3, .inl (fun _ => 0))), (b7, .inr (8, [.int 0, .int 0, .int 0, .int 0, .ref b7N, .ref b7B])), (b7N, .inl (cI, 3, .inl (fun _ => 0))), (b8, .inr (8, [.int 0, .int 0, .int 0, .int 0, .ref b8N, .ref b8B])), (b8N, .inl (cI, 3, .inl (fun _ => 0))), (b9, .inr (8, [.int 0, .int 0, .int 0, .int 0, .ref b9N, .ref b9B])), (b9N, .inl (cI, 3, .inl (fun _ => 0)))] := hD
  refine lv_iinc (v := 7) (lv' := [(2, .int 7), (0, .ref a), (1, .ref b)]) hx hb dX0_copyFrom_54 hl (k := 0) rfl (by decide) (Nat.le_of_ble_eq_true rfl) rfl (fun ls hl => ?_)
  refine lv_goto (tgt := 33) hx hb dX0_copyFrom_57 (by decide) ?_
  refine lv_iload_n hx hb dX0_copyFrom_33 rfl (lv_at hl 0 rfl) ?_
  refine lv_bipush (v := 10) hx hb dX0_copyFrom_34 (by decide) ?_
  refine lv_icmp_ge (tgt := 60) hx hb dX0_copyFrom_36 (by decide) (fun h9 => absurd h9 (by decide)) (fun _ => ?_)
  refine lv_aload_n hx hb dX0_copyFrom_39 rfl (lv_at hl 1 rfl) ?_
  refine va_get (D := (dC, dI)) (ci := 3) (v := .ref aP) (C := RX0) (T := TX0) (N := 5) hx hb hts (fun w h => List.mem_cons_of_mem _ (List.mem_append_left _ (List.mem_append_right _ (h)))) hown hK hP 0 rfl rfl 3 (by decide) (hts (.fieldLink RX0 17 "Netcompare$Circuit" "part" "[LNetcompare$Part;") (List.mem_cons_of_mem _ (List.mem_append_left _ (List.mem_append_left _ (List.mem_of_getElem? (i := 7) rfl))))) (fun _ h9 => h9) rfl dX0_copyFrom_40 ?_
  refine lv_iload_n hx hb dX0_copyFrom_43 rfl (lv_at hl 0 rfl) ?_
  refine va_aldq hx hb hK hP 4 2 rfl rfl (show ¬ (_ ∨ _) by decide) dX0_copyFrom_44 ?_
  refine W.eq (g2 := F0 m 45 ls [.ref a7]) rfl ?_
  refine lv_aload_n hx hb dX0_copyFrom_45 rfl (lv_at hl 2 rfl) ?_
  refine va_get (D := (dC, dI)) (ci := 3) (v := .ref bP) (C := RX0) (T := TX0) (N := 5) hx hb hts (fun w h => List.mem_cons_of_mem _ (List.mem_append_left _ (List.mem_append_right _ (h)))) hown hK hP 1 rfl rfl 3 (by decide) (hts (.fieldLink RX0 17 "Netcompare$Circuit" "part" "[LNetcompare$Part;") (List.mem_cons_of_mem _ (List.mem_append_left _ (List.mem_append_left _ (List.mem_of_getElem? (i := 7) rfl))))) (fun _ h9 => h9) rfl dX0_copyFrom_46 ?_
  refine lv_iload_n hx hb dX0_copyFrom_49 rfl (lv_at hl 0 rfl) ?_
  refine va_aldq hx hb hK hP 5 2 rfl rfl (show ¬ (_ ∨ _) by decide) dX0_copyFrom_50 ?_
  refine W.eq (g2 := F0 m 51 ls [.ref b7, .ref a7]) rfl ?_
  have hPc := hP.sub (ws' := [(a7, .inr (8, [.int 0, .int 0, .int 0, .int 0, .ref a7N, .ref a7B])), (a7N, .inl (cI, 3, .inl (fun _ => 0))), (b7, .inr (8, [.int 0, .int 0, .int 0, .int 0, .ref b7N, .ref b7B])), (b7N, .inl (cI, 3, .inl (fun _ => 0)))]) [6, 7, 12, 13] rfl
  have hDc := hD.sub (ws' := [(a7, .inr (8, [.int 0, .int 0, .int 0, .int 0, .ref a7N, .ref a7B])), (a7N, .inl (cI, 3, .inl (fun _ => 0))), (b7, .inr (8, [.int 0, .int 0, .int 0, .int 0, .ref b7N, .ref b7B])), (b7N, .inl (cI, 3, .inl (fun _ => 0)))]) [6, 7, 12, 13] (by decide) rfl
  have hKc := hK.sub (tys' := [(cI, .int)]) [1] rfl
  have hFc := va_free (wc := [(a7, .inr (8, [.int 0, .int 0, .int 0, .int 0, .ref a7N, .ref a7B])), (a7N, .inl (cI, 3, .inl (fun _ => 0))), (b7, .inr (8, [.int 0, .int 0, .int 0, .int 0, .ref b7N, .ref b7B])), (b7N, .inl (cI, 3, .inl (fun _ => 0)))]) hD hS hA [6, 7, 12, 13] rfl
  refine va_callv (va_runV (As := [.ref b7]) (rest := []) ⟨hx, hb, hml, hown, hts⟩ (kX5_copyFrom l dC dI a7 a7N a7B b7 b7N b7B cI H.size) (cwV 1 hts gX0_copyFrom_X5_copyFrom rfl rfl rfl (by decide +kernel) ⟨Nat.le_of_ble_eq_true rfl, Nat.le_of_ble_eq_true rfl⟩) (fPreV hN hZ hS (fun q h => hFc q h) hPc hKc hDc (ci := 8) (q0 := 0) rfl rfl) rfl rfl hl.1 rfl (lv_room (Nat.le_of_ble_eq_true rfl)) dX0_copyFrom_51 ⟨Nat.le_of_ble_eq_true rfl, Nat.le_of_ble_eq_true rfl⟩) hS (fun q _ h => hFc q h) hFc (fun u t H1 locs ht hvm hw hB hz1 hk1 hS => ?_)
  obtain ⟨hP1, hK1, hD1⟩ := hB
  rw [ht] at hP1
  have hK1 := va_K.moved hvm.symm hK1
  obtain ⟨hP, hD⟩ := va_join (wr := [(a, .inr (3, [.int 0, .int 0, .ref aL, .ref aP, .ref aS])), (b, .inr (3, [.int 0, .int 0, .ref bL, .ref bP, .ref bS])), (aL, .inl (cC, 10, .inl (fun _ => 0))), (bL, .inl (cC, 10, .inl (fun _ => 0))), (aP, .inl (cP, 10, .inr (.inr (.inr (.inr (fch a0 a1 a2 a3 a4 a5 a6 a7 a8 a9)))))), (bP, .inl (cP, 10, .inr (.inr (.inr (.inr (fch b0 b1 b2 b3 b4 b5 b6 b7 b8 b9)))))), (a8, .inr (8, [.int 0, .int 0, .int 0, .int 0, .ref a8N, .ref a8B])), (a8N, .inl (cI, 3, .inl (fun _ => 0))), (a9, .inr (8, [.int 0, .int 0, .int 0, .int 0, .ref a9N, .ref a9B])), (a9N, .inl (cI, 3, .inl (fun _ => 0))), (b8, .inr (8, [.int 0, .int 0, .int 0, .int 0, .ref b8N, .ref b8B])), (b8N, .inl (cI, 3, .inl (fun _ => 0))), (b9, .inr (8, [.int 0, .int 0, .int 0, .int 0, .ref b9N, .ref b9B])), (b9N, .inl (cI, 3, .inl (fun _ => 0)))]) (w1 := []) hP hD [6, 7, 12, 13] [0, 1, 2, 3, 4, 5, 8, 9, 10, 11, 14, 15, 16, 17] rfl rfl (by decide) (by decide) hk1 hFc hP1 hD1
  generalize H1 = H at hP hS ⊢
  have hP : va_P (dC, dI) vwCl [(a, .inr (3, [.int 0, .int 0, .ref aL, .ref aP, .ref aS])), (b, .inr (3, [.int 0, .int 0, .ref bL, .ref bP, .ref bS])), (aL, .inl (cC, 10, .inl (fun _ => 0))), (bL, .inl (cC, 10, .inl (fun _ => 0))), (aP, .inl (cP, 10, .inr (.inr (.inr (.inr (fch a0 a1 a2 a3 a4 a5 a6 a7 a8 a9)))))), (bP, .inl (cP, 10, .inr (.inr (.inr (.inr (fch b0 b1 b2 b3 b4 b5 b6 b7 b8 b9)))))), (a8, .inr (8, [.int 0, .int 0, .int 0, .int 0, .ref a8N, .ref a8B])), (a8N, .inl (cI, 3, .inl (fun _ => 0))), (a9, .inr (8, [.int 0, .int 0, .int 0, .int 0, .ref a9N, .ref a9B])), (a9N, .inl (cI, 3, .inl (fun _ => 0))), (b8, .inr (8, [.int 0, .int 0, .int 0, .int 0, .ref b8N, .ref b8B])), (b8N, .inl (cI, 3, .inl (fun _ => 0))), (b9, .inr (8, [.int 0, .int 0, .int 0, .int 0, .ref b9N, .ref b9B])), (b9N, .inl (cI, 3, .inl (fun _ => 0)))] _ := hP
  have hD : va_D A [(a, .inr (3, [.int 0, .int 0, .ref aL, .ref aP, .ref aS])), (b, .inr (3, [.int 0, .int 0, .ref bL, .ref bP, .ref bS])), (aL, .inl (cC, 10, .inl (fun _ => 0))), (bL, .inl (cC, 10, .inl (fun _ => 0))), (aP, .inl (cP, 10, .inr (.inr (.inr (.inr (fch a0 a1 a2 a3 a4 a5 a6 a7 a8 a9)))))), (bP, .inl (cP, 10, .inr (.inr (.inr (.inr (fch b0 b1 b2 b3 b4 b5 b6 b7 b8 b9)))))), (a8, .inr (8, [.int 0, .int 0, .int 0, .int 0, .ref a8N, .ref a8B])), (a8N, .inl (cI, 3, .inl (fun _ => 0))), (a9, .inr (8, [.int 0, .int 0, .int 0, .int 0, .ref a9N, .ref a9B])), (a9N, .inl (cI, 3, .inl (fun _ => 0))), (b8, .inr (8, [.int 0, .int 0, .int 0, .int 0, .ref b8N, .ref b8B])), (b8N, .inl (cI, 3, .inl (fun _ => 0))), (b9, .inr (8, [.int 0, .int 0, .int 0, .int 0, .ref b9N, .ref b9B])), (b9N, .inl (cI, 3, .inl (fun _ => 0)))] := hD
  refine lv_iinc (v := 8) (lv' := [(2, .int 8), (0, .ref a), (1, .ref b)]) hx hb dX0_copyFrom_54 hl (k := 0) rfl (by decide) (Nat.le_of_ble_eq_true rfl) rfl (fun ls hl => ?_)
  refine lv_goto (tgt := 33) hx hb dX0_copyFrom_57 (by decide) ?_
  refine lv_iload_n hx hb dX0_copyFrom_33 rfl (lv_at hl 0 rfl) ?_
  refine lv_bipush (v := 10) hx hb dX0_copyFrom_34 (by decide) ?_
  refine lv_icmp_ge (tgt := 60) hx hb dX0_copyFrom_36 (by decide) (fun h9 => absurd h9 (by decide)) (fun _ => ?_)
  refine lv_aload_n hx hb dX0_copyFrom_39 rfl (lv_at hl 1 rfl) ?_
  refine va_get (D := (dC, dI)) (ci := 3) (v := .ref aP) (C := RX0) (T := TX0) (N := 5) hx hb hts (fun w h => List.mem_cons_of_mem _ (List.mem_append_left _ (List.mem_append_right _ (h)))) hown hK hP 0 rfl rfl 3 (by decide) (hts (.fieldLink RX0 17 "Netcompare$Circuit" "part" "[LNetcompare$Part;") (List.mem_cons_of_mem _ (List.mem_append_left _ (List.mem_append_left _ (List.mem_of_getElem? (i := 7) rfl))))) (fun _ h9 => h9) rfl dX0_copyFrom_40 ?_
  refine lv_iload_n hx hb dX0_copyFrom_43 rfl (lv_at hl 0 rfl) ?_
  refine va_aldq hx hb hK hP 4 2 rfl rfl (show ¬ (_ ∨ _) by decide) dX0_copyFrom_44 ?_
  refine W.eq (g2 := F0 m 45 ls [.ref a8]) rfl ?_
  refine lv_aload_n hx hb dX0_copyFrom_45 rfl (lv_at hl 2 rfl) ?_
  refine va_get (D := (dC, dI)) (ci := 3) (v := .ref bP) (C := RX0) (T := TX0) (N := 5) hx hb hts (fun w h => List.mem_cons_of_mem _ (List.mem_append_left _ (List.mem_append_right _ (h)))) hown hK hP 1 rfl rfl 3 (by decide) (hts (.fieldLink RX0 17 "Netcompare$Circuit" "part" "[LNetcompare$Part;") (List.mem_cons_of_mem _ (List.mem_append_left _ (List.mem_append_left _ (List.mem_of_getElem? (i := 7) rfl))))) (fun _ h9 => h9) rfl dX0_copyFrom_46 ?_
  refine lv_iload_n hx hb dX0_copyFrom_49 rfl (lv_at hl 0 rfl) ?_
  refine va_aldq hx hb hK hP 5 2 rfl rfl (show ¬ (_ ∨ _) by decide) dX0_copyFrom_50 ?_
  refine W.eq (g2 := F0 m 51 ls [.ref b8, .ref a8]) rfl ?_
  have hPc := hP.sub (ws' := [(a8, .inr (8, [.int 0, .int 0, .int 0, .int 0, .ref a8N, .ref a8B])), (a8N, .inl (cI, 3, .inl (fun _ => 0))), (b8, .inr (8, [.int 0, .int 0, .int 0, .int 0, .ref b8N, .ref b8B])), (b8N, .inl (cI, 3, .inl (fun _ => 0)))]) [6, 7, 10, 11] rfl
  have hDc := hD.sub (ws' := [(a8, .inr (8, [.int 0, .int 0, .int 0, .int 0, .ref a8N, .ref a8B])), (a8N, .inl (cI, 3, .inl (fun _ => 0))), (b8, .inr (8, [.int 0, .int 0, .int 0, .int 0, .ref b8N, .ref b8B])), (b8N, .inl (cI, 3, .inl (fun _ => 0)))]) [6, 7, 10, 11] (by decide) rfl
  have hKc := hK.sub (tys' := [(cI, .int)]) [1] rfl
  have hFc := va_free (wc := [(a8, .inr (8, [.int 0, .int 0, .int 0, .int 0, .ref a8N, .ref a8B])), (a8N, .inl (cI, 3, .inl (fun _ => 0))), (b8, .inr (8, [.int 0, .int 0, .int 0, .int 0, .ref b8N, .ref b8B])), (b8N, .inl (cI, 3, .inl (fun _ => 0)))]) hD hS hA [6, 7, 10, 11] rfl
  refine va_callv (va_runV (As := [.ref b8]) (rest := []) ⟨hx, hb, hml, hown, hts⟩ (kX5_copyFrom l dC dI a8 a8N a8B b8 b8N b8B cI H.size) (cwV 1 hts gX0_copyFrom_X5_copyFrom rfl rfl rfl (by decide +kernel) ⟨Nat.le_of_ble_eq_true rfl, Nat.le_of_ble_eq_true rfl⟩) (fPreV hN hZ hS (fun q h => hFc q h) hPc hKc hDc (ci := 8) (q0 := 0) rfl rfl) rfl rfl hl.1 rfl (lv_room (Nat.le_of_ble_eq_true rfl)) dX0_copyFrom_51 ⟨Nat.le_of_ble_eq_true rfl, Nat.le_of_ble_eq_true rfl⟩) hS (fun q _ h => hFc q h) hFc (fun u t H1 locs ht hvm hw hB hz1 hk1 hS => ?_)
  obtain ⟨hP1, hK1, hD1⟩ := hB
  rw [ht] at hP1
  have hK1 := va_K.moved hvm.symm hK1
  obtain ⟨hP, hD⟩ := va_join (wr := [(a, .inr (3, [.int 0, .int 0, .ref aL, .ref aP, .ref aS])), (b, .inr (3, [.int 0, .int 0, .ref bL, .ref bP, .ref bS])), (aL, .inl (cC, 10, .inl (fun _ => 0))), (bL, .inl (cC, 10, .inl (fun _ => 0))), (aP, .inl (cP, 10, .inr (.inr (.inr (.inr (fch a0 a1 a2 a3 a4 a5 a6 a7 a8 a9)))))), (bP, .inl (cP, 10, .inr (.inr (.inr (.inr (fch b0 b1 b2 b3 b4 b5 b6 b7 b8 b9)))))), (a9, .inr (8, [.int 0, .int 0, .int 0, .int 0, .ref a9N, .ref a9B])), (a9N, .inl (cI, 3, .inl (fun _ => 0))), (b9, .inr (8, [.int 0, .int 0, .int 0, .int 0, .ref b9N, .ref b9B])), (b9N, .inl (cI, 3, .inl (fun _ => 0)))]) (w1 := []) hP hD [6, 7, 10, 11] [0, 1, 2, 3, 4, 5, 8, 9, 12, 13] rfl rfl (by decide) (by decide) hk1 hFc hP1 hD1
  generalize H1 = H at hP hS ⊢
  have hP : va_P (dC, dI) vwCl [(a, .inr (3, [.int 0, .int 0, .ref aL, .ref aP, .ref aS])), (b, .inr (3, [.int 0, .int 0, .ref bL, .ref bP, .ref bS])), (aL, .inl (cC, 10, .inl (fun _ => 0))), (bL, .inl (cC, 10, .inl (fun _ => 0))), (aP, .inl (cP, 10, .inr (.inr (.inr (.inr (fch a0 a1 a2 a3 a4 a5 a6 a7 a8 a9)))))), (bP, .inl (cP, 10, .inr (.inr (.inr (.inr (fch b0 b1 b2 b3 b4 b5 b6 b7 b8 b9)))))), (a9, .inr (8, [.int 0, .int 0, .int 0, .int 0, .ref a9N, .ref a9B])), (a9N, .inl (cI, 3, .inl (fun _ => 0))), (b9, .inr (8, [.int 0, .int 0, .int 0, .int 0, .ref b9N, .ref b9B])), (b9N, .inl (cI, 3, .inl (fun _ => 0)))] _ := hP
  have hD : va_D A [(a, .inr (3, [.int 0, .int 0, .ref aL, .ref aP, .ref aS])), (b, .inr (3, [.int 0, .int 0, .ref bL, .ref bP, .ref bS])), (aL, .inl (cC, 10, .inl (fun _ => 0))), (bL, .inl (cC, 10, .inl (fun _ => 0))), (aP, .inl (cP, 10, .inr (.inr (.inr (.inr (fch a0 a1 a2 a3 a4 a5 a6 a7 a8 a9)))))), (bP, .inl (cP, 10, .inr (.inr (.inr (.inr (fch b0 b1 b2 b3 b4 b5 b6 b7 b8 b9)))))), (a9, .inr (8, [.int 0, .int 0, .int 0, .int 0, .ref a9N, .ref a9B])), (a9N, .inl (cI, 3, .inl (fun _ => 0))), (b9, .inr (8, [.int 0, .int 0, .int 0, .int 0, .ref b9N, .ref b9B])), (b9N, .inl (cI, 3, .inl (fun _ => 0)))] := hD
  refine lv_iinc (v := 9) (lv' := [(2, .int 9), (0, .ref a), (1, .ref b)]) hx hb dX0_copyFrom_54 hl (k := 0) rfl (by decide) (Nat.le_of_ble_eq_true rfl) rfl (fun ls hl => ?_)
  refine lv_goto (tgt := 33) hx hb dX0_copyFrom_57 (by decide) ?_
  refine lv_iload_n hx hb dX0_copyFrom_33 rfl (lv_at hl 0 rfl) ?_
  refine lv_bipush (v := 10) hx hb dX0_copyFrom_34 (by decide) ?_
  refine lv_icmp_ge (tgt := 60) hx hb dX0_copyFrom_36 (by decide) (fun h9 => absurd h9 (by decide)) (fun _ => ?_)
  refine lv_aload_n hx hb dX0_copyFrom_39 rfl (lv_at hl 1 rfl) ?_
  refine va_get (D := (dC, dI)) (ci := 3) (v := .ref aP) (C := RX0) (T := TX0) (N := 5) hx hb hts (fun w h => List.mem_cons_of_mem _ (List.mem_append_left _ (List.mem_append_right _ (h)))) hown hK hP 0 rfl rfl 3 (by decide) (hts (.fieldLink RX0 17 "Netcompare$Circuit" "part" "[LNetcompare$Part;") (List.mem_cons_of_mem _ (List.mem_append_left _ (List.mem_append_left _ (List.mem_of_getElem? (i := 7) rfl))))) (fun _ h9 => h9) rfl dX0_copyFrom_40 ?_
  refine lv_iload_n hx hb dX0_copyFrom_43 rfl (lv_at hl 0 rfl) ?_
  refine va_aldq hx hb hK hP 4 2 rfl rfl (show ¬ (_ ∨ _) by decide) dX0_copyFrom_44 ?_
  refine W.eq (g2 := F0 m 45 ls [.ref a9]) rfl ?_
  refine lv_aload_n hx hb dX0_copyFrom_45 rfl (lv_at hl 2 rfl) ?_
  refine va_get (D := (dC, dI)) (ci := 3) (v := .ref bP) (C := RX0) (T := TX0) (N := 5) hx hb hts (fun w h => List.mem_cons_of_mem _ (List.mem_append_left _ (List.mem_append_right _ (h)))) hown hK hP 1 rfl rfl 3 (by decide) (hts (.fieldLink RX0 17 "Netcompare$Circuit" "part" "[LNetcompare$Part;") (List.mem_cons_of_mem _ (List.mem_append_left _ (List.mem_append_left _ (List.mem_of_getElem? (i := 7) rfl))))) (fun _ h9 => h9) rfl dX0_copyFrom_46 ?_
  refine lv_iload_n hx hb dX0_copyFrom_49 rfl (lv_at hl 0 rfl) ?_
  refine va_aldq hx hb hK hP 5 2 rfl rfl (show ¬ (_ ∨ _) by decide) dX0_copyFrom_50 ?_
  refine W.eq (g2 := F0 m 51 ls [.ref b9, .ref a9]) rfl ?_
  have hPc := hP.sub (ws' := [(a9, .inr (8, [.int 0, .int 0, .int 0, .int 0, .ref a9N, .ref a9B])), (a9N, .inl (cI, 3, .inl (fun _ => 0))), (b9, .inr (8, [.int 0, .int 0, .int 0, .int 0, .ref b9N, .ref b9B])), (b9N, .inl (cI, 3, .inl (fun _ => 0)))]) [6, 7, 8, 9] rfl
  have hDc := hD.sub (ws' := [(a9, .inr (8, [.int 0, .int 0, .int 0, .int 0, .ref a9N, .ref a9B])), (a9N, .inl (cI, 3, .inl (fun _ => 0))), (b9, .inr (8, [.int 0, .int 0, .int 0, .int 0, .ref b9N, .ref b9B])), (b9N, .inl (cI, 3, .inl (fun _ => 0)))]) [6, 7, 8, 9] (by decide) rfl
  have hKc := hK.sub (tys' := [(cI, .int)]) [1] rfl
  have hFc := va_free (wc := [(a9, .inr (8, [.int 0, .int 0, .int 0, .int 0, .ref a9N, .ref a9B])), (a9N, .inl (cI, 3, .inl (fun _ => 0))), (b9, .inr (8, [.int 0, .int 0, .int 0, .int 0, .ref b9N, .ref b9B])), (b9N, .inl (cI, 3, .inl (fun _ => 0)))]) hD hS hA [6, 7, 8, 9] rfl
  refine va_callv (va_runV (As := [.ref b9]) (rest := []) ⟨hx, hb, hml, hown, hts⟩ (kX5_copyFrom l dC dI a9 a9N a9B b9 b9N b9B cI H.size) (cwV 1 hts gX0_copyFrom_X5_copyFrom rfl rfl rfl (by decide +kernel) ⟨Nat.le_of_ble_eq_true rfl, Nat.le_of_ble_eq_true rfl⟩) (fPreV hN hZ hS (fun q h => hFc q h) hPc hKc hDc (ci := 8) (q0 := 0) rfl rfl) rfl rfl hl.1 rfl (lv_room (Nat.le_of_ble_eq_true rfl)) dX0_copyFrom_51 ⟨Nat.le_of_ble_eq_true rfl, Nat.le_of_ble_eq_true rfl⟩) hS (fun q _ h => hFc q h) hFc (fun u t H1 locs ht hvm hw hB hz1 hk1 hS => ?_)
  obtain ⟨hP1, hK1, hD1⟩ := hB
  rw [ht] at hP1
  have hK1 := va_K.moved hvm.symm hK1
  obtain ⟨hP, hD⟩ := va_join (wr := [(a, .inr (3, [.int 0, .int 0, .ref aL, .ref aP, .ref aS])), (b, .inr (3, [.int 0, .int 0, .ref bL, .ref bP, .ref bS])), (aL, .inl (cC, 10, .inl (fun _ => 0))), (bL, .inl (cC, 10, .inl (fun _ => 0))), (aP, .inl (cP, 10, .inr (.inr (.inr (.inr (fch a0 a1 a2 a3 a4 a5 a6 a7 a8 a9)))))), (bP, .inl (cP, 10, .inr (.inr (.inr (.inr (fch b0 b1 b2 b3 b4 b5 b6 b7 b8 b9))))))]) (w1 := []) hP hD [6, 7, 8, 9] [0, 1, 2, 3, 4, 5] rfl rfl (by decide) (by decide) hk1 hFc hP1 hD1
  generalize H1 = H at hP hS ⊢
  have hP : va_P (dC, dI) vwCl [(a, .inr (3, [.int 0, .int 0, .ref aL, .ref aP, .ref aS])), (b, .inr (3, [.int 0, .int 0, .ref bL, .ref bP, .ref bS])), (aL, .inl (cC, 10, .inl (fun _ => 0))), (bL, .inl (cC, 10, .inl (fun _ => 0))), (aP, .inl (cP, 10, .inr (.inr (.inr (.inr (fch a0 a1 a2 a3 a4 a5 a6 a7 a8 a9)))))), (bP, .inl (cP, 10, .inr (.inr (.inr (.inr (fch b0 b1 b2 b3 b4 b5 b6 b7 b8 b9))))))] _ := hP
  have hD : va_D A [(a, .inr (3, [.int 0, .int 0, .ref aL, .ref aP, .ref aS])), (b, .inr (3, [.int 0, .int 0, .ref bL, .ref bP, .ref bS])), (aL, .inl (cC, 10, .inl (fun _ => 0))), (bL, .inl (cC, 10, .inl (fun _ => 0))), (aP, .inl (cP, 10, .inr (.inr (.inr (.inr (fch a0 a1 a2 a3 a4 a5 a6 a7 a8 a9)))))), (bP, .inl (cP, 10, .inr (.inr (.inr (.inr (fch b0 b1 b2 b3 b4 b5 b6 b7 b8 b9))))))] := hD
  refine lv_iinc (v := 10) (lv' := [(2, .int 10), (0, .ref a), (1, .ref b)]) hx hb dX0_copyFrom_54 hl (k := 0) rfl (by decide) (Nat.le_of_ble_eq_true rfl) rfl (fun ls hl => ?_)
  refine lv_goto (tgt := 33) hx hb dX0_copyFrom_57 (by decide) ?_
  refine lv_iload_n hx hb dX0_copyFrom_33 rfl (lv_at hl 0 rfl) ?_
  refine lv_bipush (v := 10) hx hb dX0_copyFrom_34 (by decide) ?_
  refine lv_icmp_ge (tgt := 60) hx hb dX0_copyFrom_36 (by decide) (fun _ => ?_) (fun h9 => absurd (by decide) h9)
  exact ret () _ _ _ _ _ _ (trivial) (hP.sub [0] rfl) (hK.sub [] rfl) (hD.sub [0] (by decide) rfl) hS (Nat.le_of_ble_eq_true rfl) (Nat.le_of_ble_eq_true rfl) dX0_copyFrom_60

set_option maxHeartbeats 4000000 in
set_option maxRecDepth 100000 in
/-- addNet on a fresh object -/
theorem kX6_addNet (l : Launch) (hfl : l.stackTraces = false) (dC : Nat → ClassId) (dI : Nat → Nat → Nat) (h0 w d co un ma tm : Nat) (wL wP wS dL dP dS : Nat) (cC : ClassId) (p0 : Int32) (sz : Nat) : fXi l yX6_addNet wsX6_addNet ({ frames := 8, cells := 1, slots := 6, locals := 123 } : Room) dC dI [.ref h0, .int p0] [(h0, .inr (9, [.ref w, .ref d, .ref co, .ref un, .ref ma, .ref tm, .int 0, .int 0, .int 0])), (w, .inr (3, [.int 0, .int 0, .ref wL, .ref wP, .ref wS])), (d, .inr (3, [.int 0, .int 0, .ref dL, .ref dP, .ref dS])), (wL, .inl (cC, 10, .inl (fun _ => 0))), (dL, .inl (cC, 10, .inl (fun _ => 0)))] [(cC, .char)] sz (fun E : String => E = "java/lang/IllegalArgumentException" ∧ (¬ ((p0 = 0) ∨ (p0 = 1)))) (fun (r : Int32) (u : Unit) => r = 0 ∧ ((p0 = 0) ∨ (p0 = 1))) (fun u => []) (fun u => []) := by
  refine oX_i hfl (y := yX6_addNet) (cc := cX6_addNet) (maxL := 3) (by decide) rfl (Nat.le_of_ble_eq_true rfl) ?_
  intro p e s m args below meth c ls A Q hx hb hr hml hown hts hN hZ hA hin hlk hP hK hD hl ret thr thn
  have hS : va_S A s.heap s.heap [] := va_S.rf
  have hl : lv_has ls 3 [(0, .ref h0), (1, .int p0)] := hl
  have hP : va_P (dC, dI) vwCl [(h0, .inr (9, [.ref w, .ref d, .ref co, .ref un, .ref ma, .ref tm, .int 0, .int 0, .int 0])), (w, .inr (3, [.int 0, .int 0, .ref wL, .ref wP, .ref wS])), (d, .inr (3, [.int 0, .int 0, .ref dL, .ref dP, .ref dS])), (wL, .inl (cC, 10, .inl (fun _ => 0))), (dL, .inl (cC, 10, .inl (fun _ => 0)))] _ := hP
  have hD : va_D A [(h0, .inr (9, [.ref w, .ref d, .ref co, .ref un, .ref ma, .ref tm, .int 0, .int 0, .int 0])), (w, .inr (3, [.int 0, .int 0, .ref wL, .ref wP, .ref wS])), (d, .inr (3, [.int 0, .int 0, .ref dL, .ref dP, .ref dS])), (wL, .inl (cC, 10, .inl (fun _ => 0))), (dL, .inl (cC, 10, .inl (fun _ => 0)))] := hD
  refine lv_aload_n hx hb dX6_addNet_0 rfl (lv_at hl 0 rfl) ?_
  refine lv_iload_n hx hb dX6_addNet_1 rfl (lv_at hl 1 rfl) ?_
  have hPc := hP.sub (ws' := [(h0, .inr (9, [.ref w, .ref d, .ref co, .ref un, .ref ma, .ref tm, .int 0, .int 0, .int 0]))]) [0] rfl
  have hDc := hD.sub (ws' := [(h0, .inr (9, [.ref w, .ref d, .ref co, .ref un, .ref ma, .ref tm, .int 0, .int 0, .int 0]))]) [0] (by decide) rfl
  have hKc := hK.sub (tys' := []) [] rfl
  have hFc := va_free (wc := [(h0, .inr (9, [.ref w, .ref d, .ref co, .ref un, .ref ma, .ref tm, .int 0, .int 0, .int 0]))]) hD hS hA [0] rfl
  refine vx_callq (vx_runV (As := [.int p0]) (rest := []) ⟨hx, hb, hml, hown, hts⟩ (kX6_circuitAt l hfl dC dI h0 w d co un ma tm p0 s.heap.size) (cwV 1 hts gX6_addNet_X6_circuitAt rfl rfl rfl (by decide +kernel) ⟨Nat.le_of_ble_eq_true rfl, Nat.le_of_ble_eq_true rfl⟩) (fPreV hN hZ hS (fun q h => hFc q h) hPc hKc hDc (ci := 9) (q0 := 0) rfl rfl) rfl rfl hl.1 rfl (lv_room (Nat.le_of_ble_eq_true rfl)) dX6_addNet_2 ⟨Nat.le_of_ble_eq_true rfl, Nat.le_of_ble_eq_true rfl⟩) hS (fun q _ h => hFc q h) hFc (fun q _ h => hFc q h) (fun E ce q9 u t H locs ht hvm hpx hE hz1 hk1 hS hq9 hv9 hc9 => ?_) (fun r u t H1 locs ht hvm hw hB hz1 hk1 hS => ?_)
  · skip
    exact thr E ce q9 _ _ _ _ _ _ _ (⟨hE.1, hE.2⟩) hq9 hv9 hc9 hS (Nat.le_of_ble_eq_true rfl) (Nat.le_of_ble_eq_true rfl)
  · skip
    obtain ⟨hP1, hK1, hD1⟩ := hB
    rw [ht] at hP1
    have hK1 := va_K.moved hvm.symm hK1
    obtain ⟨hP, hD⟩ := va_join (wr := [(w, .inr (3, [.int 0, .int 0, .ref wL, .ref wP, .ref wS])), (d, .inr (3, [.int 0, .int 0, .ref dL, .ref dP, .ref dS])), (wL, .inl (cC, 10, .inl (fun _ => 0))), (dL, .inl (cC, 10, .inl (fun _ => 0)))]) (w1 := [(h0, .inr (9, [.ref w, .ref d, .ref co, .ref un, .ref ma, .ref tm, .int 0, .int 0, .int 0]))]) hP hD [0] [1, 2, 3, 4] rfl rfl (by decide) (by decide) hk1 hFc hP1 hD1
    generalize H1 = H at hP hS ⊢
    have hP : va_P (dC, dI) vwCl [(w, .inr (3, [.int 0, .int 0, .ref wL, .ref wP, .ref wS])), (d, .inr (3, [.int 0, .int 0, .ref dL, .ref dP, .ref dS])), (wL, .inl (cC, 10, .inl (fun _ => 0))), (dL, .inl (cC, 10, .inl (fun _ => 0))), (h0, .inr (9, [.ref w, .ref d, .ref co, .ref un, .ref ma, .ref tm, .int 0, .int 0, .int 0]))] _ := hP
    have hD : va_D A [(w, .inr (3, [.int 0, .int 0, .ref wL, .ref wP, .ref wS])), (d, .inr (3, [.int 0, .int 0, .ref dL, .ref dP, .ref dS])), (wL, .inl (cC, 10, .inl (fun _ => 0))), (dL, .inl (cC, 10, .inl (fun _ => 0))), (h0, .inr (9, [.ref w, .ref d, .ref co, .ref un, .ref ma, .ref tm, .int 0, .int 0, .int 0]))] := hD
    refine W.widen (k := 1) (n := 6) (Nat.le_of_ble_eq_true rfl) (Nat.le_of_ble_eq_true rfl) ?_
    rcases hw with ⟨hc0, rfl⟩ | ⟨hc1, rfl⟩
    · skip
      refine W.eq (g2 := F0 m 5 ls [.ref w]) rfl ?_
      refine lv_astore_n (lv' := [(2, .ref w), (0, .ref h0), (1, .int p0)]) hx hb dX6_addNet_5 rfl hl (Nat.le_of_ble_eq_true rfl) rfl (fun ls hl => ?_)
      refine lv_aload_n hx hb dX6_addNet_6 rfl (lv_at hl 0 rfl) ?_
      refine va_getN (D := (dC, dI)) (ci := 3) (v := .int 0) (C := RX0) (T := TX0) (N := 5) hx hb hts (fun w h => List.mem_cons_of_mem _ (List.mem_append_left _ (List.mem_append_left _ (List.mem_append_left _ (List.mem_append_left _ (List.mem_append_right _ (h))))))) hown hK hP 0 rfl rfl 0 (by decide) (va_Nw.use rfl (hN.1 _ (List.mem_of_getElem? (i := 18) rfl))) (fun _ h9 => h9) rfl dX6_addNet_7 ?_
      refine lv_bipush (v := 10) hx hb dX6_addNet_10 (by decide) ?_
      refine lv_icmp_lt (tgt := 25) hx hb dX6_addNet_12 (by decide) (fun _ => ?_) (fun h9 => absurd (by decide) h9)
      refine lv_aload_n hx hb dX6_addNet_25 rfl (lv_at hl 1 rfl) ?_
      have hPc := hP.sub (ws' := [(h0, .inr (9, [.ref w, .ref d, .ref co, .ref un, .ref ma, .ref tm, .int 0, .int 0, .int 0]))]) [4] rfl
      have hDc := hD.sub (ws' := [(h0, .inr (9, [.ref w, .ref d, .ref co, .ref un, .ref ma, .ref tm, .int 0, .int 0, .int 0]))]) [4] (by decide) rfl
      have hKc := hK.sub (tys' := []) [] rfl
      have hFc := va_free (wc := [(h0, .inr (9, [.ref w, .ref d, .ref co, .ref un, .ref ma, .ref tm, .int 0, .int 0, .int 0]))]) hD hS hA [4] rfl
      refine va_callv (va_runV (As := []) (rest := []) ⟨hx, hb, hml, hown, hts⟩ (kX6_forget l dC dI h0 w d co un ma tm H.size) (cwV 0 hts gX6_addNet_X6_forget rfl rfl rfl (by decide +kernel) ⟨Nat.le_of_ble_eq_true rfl, Nat.le_of_ble_eq_true rfl⟩) (fPreV hN hZ hS (fun q h => hFc q h) hPc hKc hDc (ci := 9) (q0 := 0) rfl rfl) rfl rfl hl.1 rfl (lv_room (Nat.le_of_ble_eq_true rfl)) dX6_addNet_26 ⟨Nat.le_of_ble_eq_true rfl, Nat.le_of_ble_eq_true rfl⟩) hS (fun q _ h => hFc q h) hFc (fun u t H1 locs ht hvm hw hB hz1 hk1 hS => ?_)
      obtain ⟨hP1, hK1, hD1⟩ := hB
      rw [ht] at hP1
      have hK1 := va_K.moved hvm.symm hK1
      obtain ⟨hP, hD⟩ := va_join (wr := [(w, .inr (3, [.int 0, .int 0, .ref wL, .ref wP, .ref wS])), (d, .inr (3, [.int 0, .int 0, .ref dL, .ref dP, .ref dS])), (wL, .inl (cC, 10, .inl (fun _ => 0))), (dL, .inl (cC, 10, .inl (fun _ => 0)))]) (w1 := [(h0, .inr (9, [.ref w, .ref d, .ref co, .ref un, .ref ma, .ref tm, .int 0, .int 0, .int 0]))]) hP hD [4] [0, 1, 2, 3] rfl rfl (by decide) (by decide) hk1 hFc hP1 hD1
      generalize H1 = H at hP hS ⊢
      have hP : va_P (dC, dI) vwCl [(w, .inr (3, [.int 0, .int 0, .ref wL, .ref wP, .ref wS])), (d, .inr (3, [.int 0, .int 0, .ref dL, .ref dP, .ref dS])), (wL, .inl (cC, 10, .inl (fun _ => 0))), (dL, .inl (cC, 10, .inl (fun _ => 0))), (h0, .inr (9, [.ref w, .ref d, .ref co, .ref un, .ref ma, .ref tm, .int 0, .int 0, .int 0]))] _ := hP
      have hD : va_D A [(w, .inr (3, [.int 0, .int 0, .ref wL, .ref wP, .ref wS])), (d, .inr (3, [.int 0, .int 0, .ref dL, .ref dP, .ref dS])), (wL, .inl (cC, 10, .inl (fun _ => 0))), (dL, .inl (cC, 10, .inl (fun _ => 0))), (h0, .inr (9, [.ref w, .ref d, .ref co, .ref un, .ref ma, .ref tm, .int 0, .int 0, .int 0]))] := hD
      refine lv_aload_n hx hb dX6_addNet_29 rfl (lv_at hl 0 rfl) ?_
      have hPc := hP.sub (ws' := [(w, .inr (3, [.int 0, .int 0, .ref wL, .ref wP, .ref wS])), (wL, .inl (cC, 10, .inl (fun _ => 0)))]) [0, 2] rfl
      have hDc := hD.sub (ws' := [(w, .inr (3, [.int 0, .int 0, .ref wL, .ref wP, .ref wS])), (wL, .inl (cC, 10, .inl (fun _ => 0)))]) [0, 2] (by decide) rfl
      have hKc := hK.sub (tys' := [(cC, .char)]) [0] rfl
      have hFc := va_free (wc := [(w, .inr (3, [.int 0, .int 0, .ref wL, .ref wP, .ref wS])), (wL, .inl (cC, 10, .inl (fun _ => 0)))]) hD hS hA [0, 2] rfl
      refine va_calli (va_runV (As := []) (rest := []) ⟨hx, hb, hml, hown, hts⟩ (kX0_newNet l dC dI w wL wP wS cC H.size) (cwV 0 hts gX6_addNet_X0_newNet rfl rfl rfl (by decide +kernel) ⟨Nat.le_of_ble_eq_true rfl, Nat.le_of_ble_eq_true rfl⟩) (fPreV hN hZ hS (fun q h => hFc q h) hPc hKc hDc (ci := 3) (q0 := 0) rfl rfl) rfl rfl hl.1 rfl (lv_room (Nat.le_of_ble_eq_true rfl)) dX6_addNet_30 ⟨Nat.le_of_ble_eq_true rfl, Nat.le_of_ble_eq_true rfl⟩) hS (fun q _ h => hFc q h) hFc (fun r u t H1 locs ht hvm hw hB hz1 hk1 hS => ?_)
      obtain ⟨hP1, hK1, hD1⟩ := hB
      rw [ht] at hP1
      have hK1 := va_K.moved hvm.symm hK1
      obtain ⟨hP, hD⟩ := va_join (wr := [(d, .inr (3, [.int 0, .int 0, .ref dL, .ref dP, .ref dS])), (dL, .inl (cC, 10, .inl (fun _ => 0))), (h0, .inr (9, [.ref w, .ref d, .ref co, .ref un, .ref ma, .ref tm, .int 0, .int 0, .int 0]))]) (w1 := []) hP hD [0, 2] [1, 3, 4] rfl rfl (by decide) (by decide) hk1 hFc hP1 hD1
      generalize H1 = H at hP hS ⊢
      have hP : va_P (dC, dI) vwCl [(d, .inr (3, [.int 0, .int 0, .ref dL, .ref dP, .ref dS])), (dL, .inl (cC, 10, .inl (fun _ => 0))), (h0, .inr (9, [.ref w, .ref d, .ref co, .ref un, .ref ma, .ref tm, .int 0, .int 0, .int 0]))] _ := hP
      have hD : va_D A [(d, .inr (3, [.int 0, .int 0, .ref dL, .ref dP, .ref dS])), (dL, .inl (cC, 10, .inl (fun _ => 0))), (h0, .inr (9, [.ref w, .ref d, .ref co, .ref un, .ref ma, .ref tm, .int 0, .int 0, .int 0]))] := hD
      subst hw
      exact ret _ () _ _ _ _ _ _ (⟨rfl, Or.inl (hc0)⟩) (hP.sub [] rfl) (hK.sub [] rfl) (hD.sub [] (by decide) rfl) hS (Nat.le_of_ble_eq_true rfl) (Nat.le_of_ble_eq_true rfl) dX6_addNet_33
    · skip
      refine W.eq (g2 := F0 m 5 ls [.ref d]) rfl ?_
      refine lv_astore_n (lv' := [(2, .ref d), (0, .ref h0), (1, .int p0)]) hx hb dX6_addNet_5 rfl hl (Nat.le_of_ble_eq_true rfl) rfl (fun ls hl => ?_)
      refine lv_aload_n hx hb dX6_addNet_6 rfl (lv_at hl 0 rfl) ?_
      refine va_getN (D := (dC, dI)) (ci := 3) (v := .int 0) (C := RX0) (T := TX0) (N := 5) hx hb hts (fun w h => List.mem_cons_of_mem _ (List.mem_append_left _ (List.mem_append_left _ (List.mem_append_left _ (List.mem_append_left _ (List.mem_append_right _ (h))))))) hown hK hP 1 rfl rfl 0 (by decide) (va_Nw.use rfl (hN.1 _ (List.mem_of_getElem? (i := 18) rfl))) (fun _ h9 => h9) rfl dX6_addNet_7 ?_
      refine lv_bipush (v := 10) hx hb dX6_addNet_10 (by decide) ?_
      refine lv_icmp_lt (tgt := 25) hx hb dX6_addNet_12 (by decide) (fun _ => ?_) (fun h9 => absurd (by decide) h9)
      refine lv_aload_n hx hb dX6_addNet_25 rfl (lv_at hl 1 rfl) ?_
      have hPc := hP.sub (ws' := [(h0, .inr (9, [.ref w, .ref d, .ref co, .ref un, .ref ma, .ref tm, .int 0, .int 0, .int 0]))]) [4] rfl
      have hDc := hD.sub (ws' := [(h0, .inr (9, [.ref w, .ref d, .ref co, .ref un, .ref ma, .ref tm, .int 0, .int 0, .int 0]))]) [4] (by decide) rfl
      have hKc := hK.sub (tys' := []) [] rfl
      have hFc := va_free (wc := [(h0, .inr (9, [.ref w, .ref d, .ref co, .ref un, .ref ma, .ref tm, .int 0, .int 0, .int 0]))]) hD hS hA [4] rfl
      refine va_callv (va_runV (As := []) (rest := []) ⟨hx, hb, hml, hown, hts⟩ (kX6_forget l dC dI h0 w d co un ma tm H.size) (cwV 0 hts gX6_addNet_X6_forget rfl rfl rfl (by decide +kernel) ⟨Nat.le_of_ble_eq_true rfl, Nat.le_of_ble_eq_true rfl⟩) (fPreV hN hZ hS (fun q h => hFc q h) hPc hKc hDc (ci := 9) (q0 := 0) rfl rfl) rfl rfl hl.1 rfl (lv_room (Nat.le_of_ble_eq_true rfl)) dX6_addNet_26 ⟨Nat.le_of_ble_eq_true rfl, Nat.le_of_ble_eq_true rfl⟩) hS (fun q _ h => hFc q h) hFc (fun u t H1 locs ht hvm hw hB hz1 hk1 hS => ?_)
      obtain ⟨hP1, hK1, hD1⟩ := hB
      rw [ht] at hP1
      have hK1 := va_K.moved hvm.symm hK1
      obtain ⟨hP, hD⟩ := va_join (wr := [(w, .inr (3, [.int 0, .int 0, .ref wL, .ref wP, .ref wS])), (d, .inr (3, [.int 0, .int 0, .ref dL, .ref dP, .ref dS])), (wL, .inl (cC, 10, .inl (fun _ => 0))), (dL, .inl (cC, 10, .inl (fun _ => 0)))]) (w1 := [(h0, .inr (9, [.ref w, .ref d, .ref co, .ref un, .ref ma, .ref tm, .int 0, .int 0, .int 0]))]) hP hD [4] [0, 1, 2, 3] rfl rfl (by decide) (by decide) hk1 hFc hP1 hD1
      generalize H1 = H at hP hS ⊢
      have hP : va_P (dC, dI) vwCl [(w, .inr (3, [.int 0, .int 0, .ref wL, .ref wP, .ref wS])), (d, .inr (3, [.int 0, .int 0, .ref dL, .ref dP, .ref dS])), (wL, .inl (cC, 10, .inl (fun _ => 0))), (dL, .inl (cC, 10, .inl (fun _ => 0))), (h0, .inr (9, [.ref w, .ref d, .ref co, .ref un, .ref ma, .ref tm, .int 0, .int 0, .int 0]))] _ := hP
      have hD : va_D A [(w, .inr (3, [.int 0, .int 0, .ref wL, .ref wP, .ref wS])), (d, .inr (3, [.int 0, .int 0, .ref dL, .ref dP, .ref dS])), (wL, .inl (cC, 10, .inl (fun _ => 0))), (dL, .inl (cC, 10, .inl (fun _ => 0))), (h0, .inr (9, [.ref w, .ref d, .ref co, .ref un, .ref ma, .ref tm, .int 0, .int 0, .int 0]))] := hD
      refine lv_aload_n hx hb dX6_addNet_29 rfl (lv_at hl 0 rfl) ?_
      have hPc := hP.sub (ws' := [(d, .inr (3, [.int 0, .int 0, .ref dL, .ref dP, .ref dS])), (dL, .inl (cC, 10, .inl (fun _ => 0)))]) [1, 3] rfl
      have hDc := hD.sub (ws' := [(d, .inr (3, [.int 0, .int 0, .ref dL, .ref dP, .ref dS])), (dL, .inl (cC, 10, .inl (fun _ => 0)))]) [1, 3] (by decide) rfl
      have hKc := hK.sub (tys' := [(cC, .char)]) [0] rfl
      have hFc := va_free (wc := [(d, .inr (3, [.int 0, .int 0, .ref dL, .ref dP, .ref dS])), (dL, .inl (cC, 10, .inl (fun _ => 0)))]) hD hS hA [1, 3] rfl
      refine va_calli (va_runV (As := []) (rest := []) ⟨hx, hb, hml, hown, hts⟩ (kX0_newNet l dC dI d dL dP dS cC H.size) (cwV 0 hts gX6_addNet_X0_newNet rfl rfl rfl (by decide +kernel) ⟨Nat.le_of_ble_eq_true rfl, Nat.le_of_ble_eq_true rfl⟩) (fPreV hN hZ hS (fun q h => hFc q h) hPc hKc hDc (ci := 3) (q0 := 0) rfl rfl) rfl rfl hl.1 rfl (lv_room (Nat.le_of_ble_eq_true rfl)) dX6_addNet_30 ⟨Nat.le_of_ble_eq_true rfl, Nat.le_of_ble_eq_true rfl⟩) hS (fun q _ h => hFc q h) hFc (fun r u t H1 locs ht hvm hw hB hz1 hk1 hS => ?_)
      obtain ⟨hP1, hK1, hD1⟩ := hB
      rw [ht] at hP1
      have hK1 := va_K.moved hvm.symm hK1
      obtain ⟨hP, hD⟩ := va_join (wr := [(w, .inr (3, [.int 0, .int 0, .ref wL, .ref wP, .ref wS])), (wL, .inl (cC, 10, .inl (fun _ => 0))), (h0, .inr (9, [.ref w, .ref d, .ref co, .ref un, .ref ma, .ref tm, .int 0, .int 0, .int 0]))]) (w1 := []) hP hD [1, 3] [0, 2, 4] rfl rfl (by decide) (by decide) hk1 hFc hP1 hD1
      generalize H1 = H at hP hS ⊢
      have hP : va_P (dC, dI) vwCl [(w, .inr (3, [.int 0, .int 0, .ref wL, .ref wP, .ref wS])), (wL, .inl (cC, 10, .inl (fun _ => 0))), (h0, .inr (9, [.ref w, .ref d, .ref co, .ref un, .ref ma, .ref tm, .int 0, .int 0, .int 0]))] _ := hP
      have hD : va_D A [(w, .inr (3, [.int 0, .int 0, .ref wL, .ref wP, .ref wS])), (wL, .inl (cC, 10, .inl (fun _ => 0))), (h0, .inr (9, [.ref w, .ref d, .ref co, .ref un, .ref ma, .ref tm, .int 0, .int 0, .int 0]))] := hD
      subst hw
      exact ret _ () _ _ _ _ _ _ (⟨rfl, Or.inr (hc1)⟩) (hP.sub [] rfl) (hK.sub [] rfl) (hD.sub [] (by decide) rfl) hS (Nat.le_of_ble_eq_true rfl) (Nat.le_of_ble_eq_true rfl) dX6_addNet_33

set_option maxHeartbeats 4000000 in
set_option maxRecDepth 100000 in
/-- setPort on a fresh object -/
theorem kX6_setPort (l : Launch) (hfl : l.stackTraces = false) (dC : Nat → ClassId) (dI : Nat → Nat → Nat) (h0 w d co un ma tm : Nat) (wL wP wS dL dP dS : Nat) (p0 p1 p2 : Int32) (sz : Nat) : fXi l yX6_setPort wsX6_setPort ({ frames := 8, cells := 2, slots := 12, locals := 123 } : Room) dC dI [.ref h0, .int p0, .int p1, .int p2] [(h0, .inr (9, [.ref w, .ref d, .ref co, .ref un, .ref ma, .ref tm, .int 0, .int 0, .int 0])), (w, .inr (3, [.int 0, .int 0, .ref wL, .ref wP, .ref wS])), (d, .inr (3, [.int 0, .int 0, .ref dL, .ref dP, .ref dS]))] [] sz (fun E : String => E = "java/lang/IllegalArgumentException" ∧ ((¬ ((p0 = 0) ∨ (p0 = 1))) ∨ (¬ ((p2 = 45) ∨ ((¬ (p2 < 97)) ∧ (¬ (102 < p2)))))) ∨ E = "java/util/NoSuchElementException" ∧ (¬ ((¬ ((p0 = 0) ∨ (p0 = 1))) ∨ (¬ ((p2 = 45) ∨ ((¬ (p2 < 97)) ∧ (¬ (102 < p2)))))))) (fun (r : Int32) (u : Unit) => False) (fun u => []) (fun u => []) := by
  refine oX_z hfl (y := yX6_setPort) (cc := cX6_setPort) (maxL := 6) (by decide) rfl (Nat.le_of_ble_eq_true rfl) ?_
  intro p e s m args below meth c ls A Q hx hb hr hml hown hts hN hZ hA hin hlk hP hK hD hl ret thr thn
  have hS : va_S A s.heap s.heap [] := va_S.rf
  have hl : lv_has ls 6 [(0, .ref h0), (1, .int p0), (2, .int p1), (3, .int p2)] := hl
  have hP : va_P (dC, dI) vwCl [(h0, .inr (9, [.ref w, .ref d, .ref co, .ref un, .ref ma, .ref tm, .int 0, .int 0, .int 0])), (w, .inr (3, [.int 0, .int 0, .ref wL, .ref wP, .ref wS])), (d, .inr (3, [.int 0, .int 0, .ref dL, .ref dP, .ref dS]))] _ := hP
  have hD : va_D A [(h0, .inr (9, [.ref w, .ref d, .ref co, .ref un, .ref ma, .ref tm, .int 0, .int 0, .int 0])), (w, .inr (3, [.int 0, .int 0, .ref wL, .ref wP, .ref wS])), (d, .inr (3, [.int 0, .int 0, .ref dL, .ref dP, .ref dS]))] := hD
  refine lv_aload_n hx hb dX6_setPort_0 rfl (lv_at hl 0 rfl) ?_
  refine lv_iload_n hx hb dX6_setPort_1 rfl (lv_at hl 1 rfl) ?_
  have hPc := hP.sub (ws' := [(h0, .inr (9, [.ref w, .ref d, .ref co, .ref un, .ref ma, .ref tm, .int 0, .int 0, .int 0]))]) [0] rfl
  have hDc := hD.sub (ws' := [(h0, .inr (9, [.ref w, .ref d, .ref co, .ref un, .ref ma, .ref tm, .int 0, .int 0, .int 0]))]) [0] (by decide) rfl
  have hKc := hK.sub (tys' := []) [] rfl
  have hFc := va_free (wc := [(h0, .inr (9, [.ref w, .ref d, .ref co, .ref un, .ref ma, .ref tm, .int 0, .int 0, .int 0]))]) hD hS hA [0] rfl
  refine vx_callq (vx_runV (As := [.int p0]) (rest := []) ⟨hx, hb, hml, hown, hts⟩ (kX6_circuitAt l hfl dC dI h0 w d co un ma tm p0 s.heap.size) (cwV 1 hts gX6_setPort_X6_circuitAt rfl rfl rfl (by decide +kernel) ⟨Nat.le_of_ble_eq_true rfl, Nat.le_of_ble_eq_true rfl⟩) (fPreV hN hZ hS (fun q h => hFc q h) hPc hKc hDc (ci := 9) (q0 := 0) rfl rfl) rfl rfl hl.1 rfl (lv_room (Nat.le_of_ble_eq_true rfl)) dX6_setPort_2 ⟨Nat.le_of_ble_eq_true rfl, Nat.le_of_ble_eq_true rfl⟩) hS (fun q _ h => hFc q h) hFc (fun q _ h => hFc q h) (fun E ce q9 u t H locs ht hvm hpx hE hz1 hk1 hS hq9 hv9 hc9 => ?_) (fun r u t H1 locs ht hvm hw hB hz1 hk1 hS => ?_)
  · skip
    exact thr E ce q9 _ _ _ _ _ _ _ (Or.inl (⟨hE.1, Or.inl (hE.2)⟩)) hq9 hv9 hc9 hS (Nat.le_of_ble_eq_true rfl) (Nat.le_of_ble_eq_true rfl)
  · skip
    obtain ⟨hP1, hK1, hD1⟩ := hB
    rw [ht] at hP1
    have hK1 := va_K.moved hvm.symm hK1
    obtain ⟨hP, hD⟩ := va_join (wr := [(w, .inr (3, [.int 0, .int 0, .ref wL, .ref wP, .ref wS])), (d, .inr (3, [.int 0, .int 0, .ref dL, .ref dP, .ref dS]))]) (w1 := [(h0, .inr (9, [.ref w, .ref d, .ref co, .ref un, .ref ma, .ref tm, .int 0, .int 0, .int 0]))]) hP hD [0] [1, 2] rfl rfl (by decide) (by decide) hk1 hFc hP1 hD1
    generalize H1 = H at hP hS ⊢
    have hP : va_P (dC, dI) vwCl [(w, .inr (3, [.int 0, .int 0, .ref wL, .ref wP, .ref wS])), (d, .inr (3, [.int 0, .int 0, .ref dL, .ref dP, .ref dS])), (h0, .inr (9, [.ref w, .ref d, .ref co, .ref un, .ref ma, .ref tm, .int 0, .int 0, .int 0]))] _ := hP
    have hD : va_D A [(w, .inr (3, [.int 0, .int 0, .ref wL, .ref wP, .ref wS])), (d, .inr (3, [.int 0, .int 0, .ref dL, .ref dP, .ref dS])), (h0, .inr (9, [.ref w, .ref d, .ref co, .ref un, .ref ma, .ref tm, .int 0, .int 0, .int 0]))] := hD
    refine W.widen (k := 1) (n := 6) (Nat.le_of_ble_eq_true rfl) (Nat.le_of_ble_eq_true rfl) ?_
    rcases hw with ⟨hc0, rfl⟩ | ⟨hc1, rfl⟩
    · skip
      refine W.eq (g2 := F0 m 5 ls [.ref w]) rfl ?_
      refine lv_astore (lv' := [(4, .ref w), (0, .ref h0), (1, .int p0), (2, .int p1), (3, .int p2)]) hx hb dX6_setPort_5 hl (Nat.le_of_ble_eq_true rfl) rfl (fun ls hl => ?_)
      refine lv_iload_n hx hb dX6_setPort_7 rfl (lv_at hl 4 rfl) ?_
      refine lv_bipush (v := 45) hx hb dX6_setPort_8 (by decide) ?_
      refine lv_icmp_eq (tgt := 35) hx hb dX6_setPort_10 (by decide) (fun h1 => ?_) (fun h1 => ?_)
      · skip
        refine lv_aload hx hb dX6_setPort_35 (lv_at hl 0 rfl) ?_
        refine lv_iload_n hx hb dX6_setPort_37 rfl (lv_at hl 3 rfl) ?_
        have hPc := hP.sub (ws' := [(w, .inr (3, [.int 0, .int 0, .ref wL, .ref wP, .ref wS]))]) [0] rfl
        have hDc := hD.sub (ws' := [(w, .inr (3, [.int 0, .int 0, .ref wL, .ref wP, .ref wS]))]) [0] (by decide) rfl
        have hKc := hK.sub (tys' := []) [] rfl
        have hFc := va_free (wc := [(w, .inr (3, [.int 0, .int 0, .ref wL, .ref wP, .ref wS]))]) hD hS hA [0] rfl
        refine vx_callv (vx_runS (As := [.ref w, .int p1]) (rest := []) ⟨hx, hb, hml, hown, hts⟩ (kX6_requireNet l hfl dC dI w wL wP wS p1 H.size) (va_cwS 2 hts gX6_setPort_X6_requireNet rfl rfl rfl (by decide +kernel) ⟨Nat.le_of_ble_eq_true rfl, Nat.le_of_ble_eq_true rfl⟩) (fPreS hN hZ hS (fun q h => hFc q h) hPc hKc hDc) rfl rfl hl.1 rfl (lv_room (Nat.le_of_ble_eq_true rfl)) dX6_setPort_38 ⟨Nat.le_of_ble_eq_true rfl, Nat.le_of_ble_eq_true rfl⟩) hS (fun q _ h => hFc q h) hFc (fun q _ h => hFc q h) (fun E ce q9 u t H locs ht hvm hpx hE hz1 hk1 hS hq9 hv9 hc9 => ?_) (fun u t H1 locs ht hvm hw hB hz1 hk1 hS => ?_)
        · skip
          exact thr E ce q9 _ _ _ _ _ _ _ (Or.inr (⟨hE, (fun h9 => h9.elim ((fun h9 => h9 (Or.inl (hc0)))) ((fun h9 => h9 (Or.inl (h1)))))⟩)) hq9 hv9 hc9 hS (Nat.le_of_ble_eq_true rfl) (Nat.le_of_ble_eq_true rfl)
        · skip
          exact hw.elim
      · skip
        refine lv_iload_n hx hb dX6_setPort_13 rfl (lv_at hl 4 rfl) ?_
        refine lv_bipush (v := 97) hx hb dX6_setPort_14 (by decide) ?_
        refine lv_icmp_lt (tgt := 25) hx hb dX6_setPort_16 (by decide) (fun h2 => ?_) (fun h2 => ?_)
        · skip
          exact thn "java/lang/IllegalArgumentException" _ ["java/lang/RuntimeException", "java/lang/Exception"] 67 69 71 _ _ _ _ 25 _ (Or.inl (⟨rfl, Or.inr ((fun h9 => h9.elim (h1) ((fun h9 => ((fun h9 => h9 (h2))) h9.1))))⟩)) (by decide +kernel) (by decide +kernel) (hts (.classLink RX6 67 "java/lang/IllegalArgumentException") (List.mem_cons_of_mem _ (List.mem_append_left _ (List.mem_append_left _ (List.mem_append_left _ (List.mem_append_left _ (List.mem_append_left _ (List.mem_append_left _ (List.mem_append_left _ (List.mem_of_getElem? (i := 0) rfl)))))))))) (hts (.initialized "java/lang/IllegalArgumentException") (List.mem_cons_of_mem _ (List.mem_append_left _ (List.mem_append_left _ (List.mem_append_left _ (List.mem_append_left _ (List.mem_append_left _ (List.mem_append_left _ (List.mem_append_left _ (List.mem_of_getElem? (i := 1) rfl)))))))))) (hN.2 _ (List.mem_of_getElem? (i := 2) rfl)) (vx_hat (fun w h => hts w ((fun w h => List.mem_cons_of_mem _ (List.mem_append_left _ (List.mem_append_left _ (List.mem_append_left _ (List.mem_append_right _ (h)))))) w h)) (B := [.castable "java/lang/IllegalArgumentException" "java/lang/IllegalArgumentException", .declares ⟨"java/lang/RuntimeException", "<init>", "(Ljava/lang/String;)V"⟩, .declares ⟨"java/lang/Exception", "<init>", "(Ljava/lang/String;)V"⟩, .declares ⟨"java/lang/Throwable", "<init>", "(Ljava/lang/String;)V"⟩]) (by decide +kernel) (vx_c (va_Nw.use rfl (hN.1 _ (List.mem_of_getElem? (i := 50) rfl))) (vx_c (va_Nw.use rfl (hN.1 _ (List.mem_of_getElem? (i := 51) rfl))) (vx_c (va_Nw.use rfl (hN.1 _ (List.mem_of_getElem? (i := 52) rfl))) (vx_c (va_Nw.use rfl (hN.1 _ (List.mem_of_getElem? (i := 53) rfl))) vx_n))))) (by decide +kernel) hS hl.1 (Nat.le_of_ble_eq_true rfl) (Nat.le_of_ble_eq_true rfl) (Nat.le_of_ble_eq_true rfl) (Nat.le_of_ble_eq_true rfl) dX6_setPort_25 dX6_setPort_28 (Or.inl ⟨dX6_setPort_29, dX6_setPort_31, dX6_setPort_34⟩)
        · skip
          refine lv_iload_n hx hb dX6_setPort_19 rfl (lv_at hl 4 rfl) ?_
          refine lv_bipush (v := 102) hx hb dX6_setPort_20 (by decide) ?_
          refine lv_icmp_le (tgt := 35) hx hb dX6_setPort_22 (by decide) (fun h3 => ?_) (fun h3 => ?_)
          · skip
            refine lv_aload hx hb dX6_setPort_35 (lv_at hl 0 rfl) ?_
            refine lv_iload_n hx hb dX6_setPort_37 rfl (lv_at hl 3 rfl) ?_
            have hPc := hP.sub (ws' := [(w, .inr (3, [.int 0, .int 0, .ref wL, .ref wP, .ref wS]))]) [0] rfl
            have hDc := hD.sub (ws' := [(w, .inr (3, [.int 0, .int 0, .ref wL, .ref wP, .ref wS]))]) [0] (by decide) rfl
            have hKc := hK.sub (tys' := []) [] rfl
            have hFc := va_free (wc := [(w, .inr (3, [.int 0, .int 0, .ref wL, .ref wP, .ref wS]))]) hD hS hA [0] rfl
            refine vx_callv (vx_runS (As := [.ref w, .int p1]) (rest := []) ⟨hx, hb, hml, hown, hts⟩ (kX6_requireNet l hfl dC dI w wL wP wS p1 H.size) (va_cwS 2 hts gX6_setPort_X6_requireNet rfl rfl rfl (by decide +kernel) ⟨Nat.le_of_ble_eq_true rfl, Nat.le_of_ble_eq_true rfl⟩) (fPreS hN hZ hS (fun q h => hFc q h) hPc hKc hDc) rfl rfl hl.1 rfl (lv_room (Nat.le_of_ble_eq_true rfl)) dX6_setPort_38 ⟨Nat.le_of_ble_eq_true rfl, Nat.le_of_ble_eq_true rfl⟩) hS (fun q _ h => hFc q h) hFc (fun q _ h => hFc q h) (fun E ce q9 u t H locs ht hvm hpx hE hz1 hk1 hS hq9 hv9 hc9 => ?_) (fun u t H1 locs ht hvm hw hB hz1 hk1 hS => ?_)
            · skip
              exact thr E ce q9 _ _ _ _ _ _ _ (Or.inr (⟨hE, (fun h9 => h9.elim ((fun h9 => h9 (Or.inl (hc0)))) ((fun h9 => h9 (Or.inr (⟨h2, Int32.not_lt.mpr h3⟩)))))⟩)) hq9 hv9 hc9 hS (Nat.le_of_ble_eq_true rfl) (Nat.le_of_ble_eq_true rfl)
            · skip
              exact hw.elim
          · skip
            exact thn "java/lang/IllegalArgumentException" _ ["java/lang/RuntimeException", "java/lang/Exception"] 67 69 71 _ _ _ _ 25 _ (Or.inl (⟨rfl, Or.inr ((fun h9 => h9.elim (h1) ((fun h9 => ((fun h9 => h9 (Int32.not_le.mp h3))) h9.2))))⟩)) (by decide +kernel) (by decide +kernel) (hts (.classLink RX6 67 "java/lang/IllegalArgumentException") (List.mem_cons_of_mem _ (List.mem_append_left _ (List.mem_append_left _ (List.mem_append_left _ (List.mem_append_left _ (List.mem_append_left _ (List.mem_append_left _ (List.mem_append_left _ (List.mem_of_getElem? (i := 0) rfl)))))))))) (hts (.initialized "java/lang/IllegalArgumentException") (List.mem_cons_of_mem _ (List.mem_append_left _ (List.mem_append_left _ (List.mem_append_left _ (List.mem_append_left _ (List.mem_append_left _ (List.mem_append_left _ (List.mem_append_left _ (List.mem_of_getElem? (i := 1) rfl)))))))))) (hN.2 _ (List.mem_of_getElem? (i := 2) rfl)) (vx_hat (fun w h => hts w ((fun w h => List.mem_cons_of_mem _ (List.mem_append_left _ (List.mem_append_left _ (List.mem_append_left _ (List.mem_append_right _ (h)))))) w h)) (B := [.castable "java/lang/IllegalArgumentException" "java/lang/IllegalArgumentException", .declares ⟨"java/lang/RuntimeException", "<init>", "(Ljava/lang/String;)V"⟩, .declares ⟨"java/lang/Exception", "<init>", "(Ljava/lang/String;)V"⟩, .declares ⟨"java/lang/Throwable", "<init>", "(Ljava/lang/String;)V"⟩]) (by decide +kernel) (vx_c (va_Nw.use rfl (hN.1 _ (List.mem_of_getElem? (i := 50) rfl))) (vx_c (va_Nw.use rfl (hN.1 _ (List.mem_of_getElem? (i := 51) rfl))) (vx_c (va_Nw.use rfl (hN.1 _ (List.mem_of_getElem? (i := 52) rfl))) (vx_c (va_Nw.use rfl (hN.1 _ (List.mem_of_getElem? (i := 53) rfl))) vx_n))))) (by decide +kernel) hS hl.1 (Nat.le_of_ble_eq_true rfl) (Nat.le_of_ble_eq_true rfl) (Nat.le_of_ble_eq_true rfl) (Nat.le_of_ble_eq_true rfl) dX6_setPort_25 dX6_setPort_28 (Or.inl ⟨dX6_setPort_29, dX6_setPort_31, dX6_setPort_34⟩)
    · skip
      refine W.eq (g2 := F0 m 5 ls [.ref d]) rfl ?_
      refine lv_astore (lv' := [(4, .ref d), (0, .ref h0), (1, .int p0), (2, .int p1), (3, .int p2)]) hx hb dX6_setPort_5 hl (Nat.le_of_ble_eq_true rfl) rfl (fun ls hl => ?_)
      refine lv_iload_n hx hb dX6_setPort_7 rfl (lv_at hl 4 rfl) ?_
      refine lv_bipush (v := 45) hx hb dX6_setPort_8 (by decide) ?_
      refine lv_icmp_eq (tgt := 35) hx hb dX6_setPort_10 (by decide) (fun h4 => ?_) (fun h4 => ?_)
      · skip
        refine lv_aload hx hb dX6_setPort_35 (lv_at hl 0 rfl) ?_
        refine lv_iload_n hx hb dX6_setPort_37 rfl (lv_at hl 3 rfl) ?_
        have hPc := hP.sub (ws' := [(d, .inr (3, [.int 0, .int 0, .ref dL, .ref dP, .ref dS]))]) [1] rfl
        have hDc := hD.sub (ws' := [(d, .inr (3, [.int 0, .int 0, .ref dL, .ref dP, .ref dS]))]) [1] (by decide) rfl
        have hKc := hK.sub (tys' := []) [] rfl
        have hFc := va_free (wc := [(d, .inr (3, [.int 0, .int 0, .ref dL, .ref dP, .ref dS]))]) hD hS hA [1] rfl
        refine vx_callv (vx_runS (As := [.ref d, .int p1]) (rest := []) ⟨hx, hb, hml, hown, hts⟩ (kX6_requireNet l hfl dC dI d dL dP dS p1 H.size) (va_cwS 2 hts gX6_setPort_X6_requireNet rfl rfl rfl (by decide +kernel) ⟨Nat.le_of_ble_eq_true rfl, Nat.le_of_ble_eq_true rfl⟩) (fPreS hN hZ hS (fun q h => hFc q h) hPc hKc hDc) rfl rfl hl.1 rfl (lv_room (Nat.le_of_ble_eq_true rfl)) dX6_setPort_38 ⟨Nat.le_of_ble_eq_true rfl, Nat.le_of_ble_eq_true rfl⟩) hS (fun q _ h => hFc q h) hFc (fun q _ h => hFc q h) (fun E ce q9 u t H locs ht hvm hpx hE hz1 hk1 hS hq9 hv9 hc9 => ?_) (fun u t H1 locs ht hvm hw hB hz1 hk1 hS => ?_)
        · skip
          exact thr E ce q9 _ _ _ _ _ _ _ (Or.inr (⟨hE, (fun h9 => h9.elim ((fun h9 => h9 (Or.inr (hc1)))) ((fun h9 => h9 (Or.inl (h4)))))⟩)) hq9 hv9 hc9 hS (Nat.le_of_ble_eq_true rfl) (Nat.le_of_ble_eq_true rfl)
        · skip
          exact hw.elim
      · skip
        refine lv_iload_n hx hb dX6_setPort_13 rfl (lv_at hl 4 rfl) ?_
        refine lv_bipush (v := 97) hx hb dX6_setPort_14 (by decide) ?_
        refine lv_icmp_lt (tgt := 25) hx hb dX6_setPort_16 (by decide) (fun h5 => ?_) (fun h5 => ?_)
        · skip
          exact thn "java/lang/IllegalArgumentException" _ ["java/lang/RuntimeException", "java/lang/Exception"] 67 69 71 _ _ _ _ 25 _ (Or.inl (⟨rfl, Or.inr ((fun h9 => h9.elim (h4) ((fun h9 => ((fun h9 => h9 (h5))) h9.1))))⟩)) (by decide +kernel) (by decide +kernel) (hts (.classLink RX6 67 "java/lang/IllegalArgumentException") (List.mem_cons_of_mem _ (List.mem_append_left _ (List.mem_append_left _ (List.mem_append_left _ (List.mem_append_left _ (List.mem_append_left _ (List.mem_append_left _ (List.mem_append_left _ (List.mem_of_getElem? (i := 0) rfl)))))))))) (hts (.initialized "java/lang/IllegalArgumentException") (List.mem_cons_of_mem _ (List.mem_append_left _ (List.mem_append_left _ (List.mem_append_left _ (List.mem_append_left _ (List.mem_append_left _ (List.mem_append_left _ (List.mem_append_left _ (List.mem_of_getElem? (i := 1) rfl)))))))))) (hN.2 _ (List.mem_of_getElem? (i := 2) rfl)) (vx_hat (fun w h => hts w ((fun w h => List.mem_cons_of_mem _ (List.mem_append_left _ (List.mem_append_left _ (List.mem_append_left _ (List.mem_append_right _ (h)))))) w h)) (B := [.castable "java/lang/IllegalArgumentException" "java/lang/IllegalArgumentException", .declares ⟨"java/lang/RuntimeException", "<init>", "(Ljava/lang/String;)V"⟩, .declares ⟨"java/lang/Exception", "<init>", "(Ljava/lang/String;)V"⟩, .declares ⟨"java/lang/Throwable", "<init>", "(Ljava/lang/String;)V"⟩]) (by decide +kernel) (vx_c (va_Nw.use rfl (hN.1 _ (List.mem_of_getElem? (i := 50) rfl))) (vx_c (va_Nw.use rfl (hN.1 _ (List.mem_of_getElem? (i := 51) rfl))) (vx_c (va_Nw.use rfl (hN.1 _ (List.mem_of_getElem? (i := 52) rfl))) (vx_c (va_Nw.use rfl (hN.1 _ (List.mem_of_getElem? (i := 53) rfl))) vx_n))))) (by decide +kernel) hS hl.1 (Nat.le_of_ble_eq_true rfl) (Nat.le_of_ble_eq_true rfl) (Nat.le_of_ble_eq_true rfl) (Nat.le_of_ble_eq_true rfl) dX6_setPort_25 dX6_setPort_28 (Or.inl ⟨dX6_setPort_29, dX6_setPort_31, dX6_setPort_34⟩)
        · skip
          refine lv_iload_n hx hb dX6_setPort_19 rfl (lv_at hl 4 rfl) ?_
          refine lv_bipush (v := 102) hx hb dX6_setPort_20 (by decide) ?_
          refine lv_icmp_le (tgt := 35) hx hb dX6_setPort_22 (by decide) (fun h6 => ?_) (fun h6 => ?_)
          · skip
            refine lv_aload hx hb dX6_setPort_35 (lv_at hl 0 rfl) ?_
            refine lv_iload_n hx hb dX6_setPort_37 rfl (lv_at hl 3 rfl) ?_
            have hPc := hP.sub (ws' := [(d, .inr (3, [.int 0, .int 0, .ref dL, .ref dP, .ref dS]))]) [1] rfl
            have hDc := hD.sub (ws' := [(d, .inr (3, [.int 0, .int 0, .ref dL, .ref dP, .ref dS]))]) [1] (by decide) rfl
            have hKc := hK.sub (tys' := []) [] rfl
            have hFc := va_free (wc := [(d, .inr (3, [.int 0, .int 0, .ref dL, .ref dP, .ref dS]))]) hD hS hA [1] rfl
            refine vx_callv (vx_runS (As := [.ref d, .int p1]) (rest := []) ⟨hx, hb, hml, hown, hts⟩ (kX6_requireNet l hfl dC dI d dL dP dS p1 H.size) (va_cwS 2 hts gX6_setPort_X6_requireNet rfl rfl rfl (by decide +kernel) ⟨Nat.le_of_ble_eq_true rfl, Nat.le_of_ble_eq_true rfl⟩) (fPreS hN hZ hS (fun q h => hFc q h) hPc hKc hDc) rfl rfl hl.1 rfl (lv_room (Nat.le_of_ble_eq_true rfl)) dX6_setPort_38 ⟨Nat.le_of_ble_eq_true rfl, Nat.le_of_ble_eq_true rfl⟩) hS (fun q _ h => hFc q h) hFc (fun q _ h => hFc q h) (fun E ce q9 u t H locs ht hvm hpx hE hz1 hk1 hS hq9 hv9 hc9 => ?_) (fun u t H1 locs ht hvm hw hB hz1 hk1 hS => ?_)
            · skip
              exact thr E ce q9 _ _ _ _ _ _ _ (Or.inr (⟨hE, (fun h9 => h9.elim ((fun h9 => h9 (Or.inr (hc1)))) ((fun h9 => h9 (Or.inr (⟨h5, Int32.not_lt.mpr h6⟩)))))⟩)) hq9 hv9 hc9 hS (Nat.le_of_ble_eq_true rfl) (Nat.le_of_ble_eq_true rfl)
            · skip
              exact hw.elim
          · skip
            exact thn "java/lang/IllegalArgumentException" _ ["java/lang/RuntimeException", "java/lang/Exception"] 67 69 71 _ _ _ _ 25 _ (Or.inl (⟨rfl, Or.inr ((fun h9 => h9.elim (h4) ((fun h9 => ((fun h9 => h9 (Int32.not_le.mp h6))) h9.2))))⟩)) (by decide +kernel) (by decide +kernel) (hts (.classLink RX6 67 "java/lang/IllegalArgumentException") (List.mem_cons_of_mem _ (List.mem_append_left _ (List.mem_append_left _ (List.mem_append_left _ (List.mem_append_left _ (List.mem_append_left _ (List.mem_append_left _ (List.mem_append_left _ (List.mem_of_getElem? (i := 0) rfl)))))))))) (hts (.initialized "java/lang/IllegalArgumentException") (List.mem_cons_of_mem _ (List.mem_append_left _ (List.mem_append_left _ (List.mem_append_left _ (List.mem_append_left _ (List.mem_append_left _ (List.mem_append_left _ (List.mem_append_left _ (List.mem_of_getElem? (i := 1) rfl)))))))))) (hN.2 _ (List.mem_of_getElem? (i := 2) rfl)) (vx_hat (fun w h => hts w ((fun w h => List.mem_cons_of_mem _ (List.mem_append_left _ (List.mem_append_left _ (List.mem_append_left _ (List.mem_append_right _ (h)))))) w h)) (B := [.castable "java/lang/IllegalArgumentException" "java/lang/IllegalArgumentException", .declares ⟨"java/lang/RuntimeException", "<init>", "(Ljava/lang/String;)V"⟩, .declares ⟨"java/lang/Exception", "<init>", "(Ljava/lang/String;)V"⟩, .declares ⟨"java/lang/Throwable", "<init>", "(Ljava/lang/String;)V"⟩]) (by decide +kernel) (vx_c (va_Nw.use rfl (hN.1 _ (List.mem_of_getElem? (i := 50) rfl))) (vx_c (va_Nw.use rfl (hN.1 _ (List.mem_of_getElem? (i := 51) rfl))) (vx_c (va_Nw.use rfl (hN.1 _ (List.mem_of_getElem? (i := 52) rfl))) (vx_c (va_Nw.use rfl (hN.1 _ (List.mem_of_getElem? (i := 53) rfl))) vx_n))))) (by decide +kernel) hS hl.1 (Nat.le_of_ble_eq_true rfl) (Nat.le_of_ble_eq_true rfl) (Nat.le_of_ble_eq_true rfl) (Nat.le_of_ble_eq_true rfl) dX6_setPort_25 dX6_setPort_28 (Or.inl ⟨dX6_setPort_29, dX6_setPort_31, dX6_setPort_34⟩)

set_option maxHeartbeats 4000000 in
set_option maxRecDepth 100000 in
/-- addPart on a fresh object -/
theorem kX6_addPart (l : Launch) (hfl : l.stackTraces = false) (dC : Nat → ClassId) (dI : Nat → Nat → Nat) (h0 w d co un ma tm : Nat) (wL wP wS dL dP dS : Nat) (p0 p1 p2 p3 p4 p5 : Int32) (sz : Nat) : fXi l yX6_addPart wsX6_addPart ({ frames := 8, cells := 4, slots := 24, locals := 123 } : Room) dC dI [.ref h0, .int p0, .int p1, .int p2, .int p3, .int p4, .int p5] [(h0, .inr (9, [.ref w, .ref d, .ref co, .ref un, .ref ma, .ref tm, .int 0, .int 0, .int 0])), (w, .inr (3, [.int 0, .int 0, .ref wL, .ref wP, .ref wS])), (d, .inr (3, [.int 0, .int 0, .ref dL, .ref dP, .ref dS]))] [] sz (fun E : String => E = "java/lang/IllegalArgumentException" ∧ ((¬ ((p0 = 0) ∨ (p0 = 1))) ∨ ((¬ ((p1 = 114) ∨ ((p1 = 99) ∨ ((p1 = 100) ∨ (p1 = 116))))) ∨ ((¬ ((¬ (p2 < 1)) ∧ (¬ (999 < p2)))) ∨ ((¬ (p1 = 116)) ∧ (¬ (p5 = (-1))))))) ∨ E = "java/util/NoSuchElementException" ∧ (¬ ((¬ ((p0 = 0) ∨ (p0 = 1))) ∨ ((¬ ((p1 = 114) ∨ ((p1 = 99) ∨ ((p1 = 100) ∨ (p1 = 116))))) ∨ ((¬ ((¬ (p2 < 1)) ∧ (¬ (999 < p2)))) ∨ ((¬ (p1 = 116)) ∧ (¬ (p5 = (-1))))))))) (fun (r : Int32) (u : Unit) => False) (fun u => []) (fun u => []) := by
  refine oX_i hfl (y := yX6_addPart) (cc := cX6_addPart) (maxL := 10) (by decide) rfl (Nat.le_of_ble_eq_true rfl) ?_
  intro p e s m args below meth c ls A Q hx hb hr hml hown hts hN hZ hA hin hlk hP hK hD hl ret thr thn
  have hS : va_S A s.heap s.heap [] := va_S.rf
  have hl : lv_has ls 10 [(0, .ref h0), (1, .int p0), (2, .int p1), (3, .int p2), (4, .int p3), (5, .int p4), (6, .int p5)] := hl
  have hP : va_P (dC, dI) vwCl [(h0, .inr (9, [.ref w, .ref d, .ref co, .ref un, .ref ma, .ref tm, .int 0, .int 0, .int 0])), (w, .inr (3, [.int 0, .int 0, .ref wL, .ref wP, .ref wS])), (d, .inr (3, [.int 0, .int 0, .ref dL, .ref dP, .ref dS]))] _ := hP
  have hD : va_D A [(h0, .inr (9, [.ref w, .ref d, .ref co, .ref un, .ref ma, .ref tm, .int 0, .int 0, .int 0])), (w, .inr (3, [.int 0, .int 0, .ref wL, .ref wP, .ref wS])), (d, .inr (3, [.int 0, .int 0, .ref dL, .ref dP, .ref dS]))] := hD
  refine lv_aload_n hx hb dX6_addPart_0 rfl (lv_at hl 0 rfl) ?_
  refine lv_iload_n hx hb dX6_addPart_1 rfl (lv_at hl 1 rfl) ?_
  have hPc := hP.sub (ws' := [(h0, .inr (9, [.ref w, .ref d, .ref co, .ref un, .ref ma, .ref tm, .int 0, .int 0, .int 0]))]) [0] rfl
  have hDc := hD.sub (ws' := [(h0, .inr (9, [.ref w, .ref d, .ref co, .ref un, .ref ma, .ref tm, .int 0, .int 0, .int 0]))]) [0] (by decide) rfl
  have hKc := hK.sub (tys' := []) [] rfl
  have hFc := va_free (wc := [(h0, .inr (9, [.ref w, .ref d, .ref co, .ref un, .ref ma, .ref tm, .int 0, .int 0, .int 0]))]) hD hS hA [0] rfl
  refine vx_callq (vx_runV (As := [.int p0]) (rest := []) ⟨hx, hb, hml, hown, hts⟩ (kX6_circuitAt l hfl dC dI h0 w d co un ma tm p0 s.heap.size) (cwV 1 hts gX6_addPart_X6_circuitAt rfl rfl rfl (by decide +kernel) ⟨Nat.le_of_ble_eq_true rfl, Nat.le_of_ble_eq_true rfl⟩) (fPreV hN hZ hS (fun q h => hFc q h) hPc hKc hDc (ci := 9) (q0 := 0) rfl rfl) rfl rfl hl.1 rfl (lv_room (Nat.le_of_ble_eq_true rfl)) dX6_addPart_2 ⟨Nat.le_of_ble_eq_true rfl, Nat.le_of_ble_eq_true rfl⟩) hS (fun q _ h => hFc q h) hFc (fun q _ h => hFc q h) (fun E ce q9 u t H locs ht hvm hpx hE hz1 hk1 hS hq9 hv9 hc9 => ?_) (fun r u t H1 locs ht hvm hw hB hz1 hk1 hS => ?_)
  · skip
    exact thr E ce q9 _ _ _ _ _ _ _ (Or.inl (⟨hE.1, Or.inl (hE.2)⟩)) hq9 hv9 hc9 hS (Nat.le_of_ble_eq_true rfl) (Nat.le_of_ble_eq_true rfl)
  · skip
    obtain ⟨hP1, hK1, hD1⟩ := hB
    rw [ht] at hP1
    have hK1 := va_K.moved hvm.symm hK1
    obtain ⟨hP, hD⟩ := va_join (wr := [(w, .inr (3, [.int 0, .int 0, .ref wL, .ref wP, .ref wS])), (d, .inr (3, [.int 0, .int 0, .ref dL, .ref dP, .ref dS]))]) (w1 := [(h0, .inr (9, [.ref w, .ref d, .ref co, .ref un, .ref ma, .ref tm, .int 0, .int 0, .int 0]))]) hP hD [0] [1, 2] rfl rfl (by decide) (by decide) hk1 hFc hP1 hD1
    generalize H1 = H at hP hS ⊢
    have hP : va_P (dC, dI) vwCl [(w, .inr (3, [.int 0, .int 0, .ref wL, .ref wP, .ref wS])), (d, .inr (3, [.int 0, .int 0, .ref dL, .ref dP, .ref dS])), (h0, .inr (9, [.ref w, .ref d, .ref co, .ref un, .ref ma, .ref tm, .int 0, .int 0, .int 0]))] _ := hP
    have hD : va_D A [(w, .inr (3, [.int 0, .int 0, .ref wL, .ref wP, .ref wS])), (d, .inr (3, [.int 0, .int 0, .ref dL, .ref dP, .ref dS])), (h0, .inr (9, [.ref w, .ref d, .ref co, .ref un, .ref ma, .ref tm, .int 0, .int 0, .int 0]))] := hD
    refine W.widen (k := 1) (n := 6) (Nat.le_of_ble_eq_true rfl) (Nat.le_of_ble_eq_true rfl) ?_
    rcases hw with ⟨hc0, rfl⟩ | ⟨hc1, rfl⟩
    · skip
      refine W.eq (g2 := F0 m 5 ls [.ref w]) rfl ?_
      refine lv_astore (lv' := [(7, .ref w), (0, .ref h0), (1, .int p0), (2, .int p1), (3, .int p2), (4, .int p3), (5, .int p4), (6, .int p5)]) hx hb dX6_addPart_5 hl (Nat.le_of_ble_eq_true rfl) rfl (fun ls hl => ?_)
      refine lv_iload_n hx hb dX6_addPart_7 rfl (lv_at hl 3 rfl) ?_
      have hPc := hP.sub (ws' := []) [] rfl
      have hDc := hD.sub (ws' := []) [] (by decide) rfl
      have hKc := hK.sub (tys' := []) [] rfl
      have hFc := va_free (wc := []) hD hS hA [] rfl
      refine vx_callv (vx_runS (As := [.int p1]) (rest := []) ⟨hx, hb, hml, hown, hts⟩ (kX6_requireKind l hfl dC dI p1 H.size) (va_cwS 1 hts gX6_addPart_X6_requireKind rfl rfl rfl (by decide +kernel) ⟨Nat.le_of_ble_eq_true rfl, Nat.le_of_ble_eq_true rfl⟩) (fPreS hN hZ hS (fun q h => hFc q h) hPc hKc hDc) rfl rfl hl.1 rfl (lv_room (Nat.le_of_ble_eq_true rfl)) dX6_addPart_8 ⟨Nat.le_of_ble_eq_true rfl, Nat.le_of_ble_eq_true rfl⟩) hS (fun q _ h => hFc q h) hFc (fun q _ h => hFc q h) (fun E ce q9 u t H locs ht hvm hpx hE hz1 hk1 hS hq9 hv9 hc9 => ?_) (fun u t H1 locs ht hvm hw hB hz1 hk1 hS => ?_)
      · skip
        exact thr E ce q9 _ _ _ _ _ _ _ (Or.inl (⟨hE.1, Or.inr (Or.inl (hE.2))⟩)) hq9 hv9 hc9 hS (Nat.le_of_ble_eq_true rfl) (Nat.le_of_ble_eq_true rfl)
      · skip
        obtain ⟨hP1, hK1, hD1⟩ := hB
        rw [ht] at hP1
        have hK1 := va_K.moved hvm.symm hK1
        obtain ⟨hP, hD⟩ := va_join (wr := [(w, .inr (3, [.int 0, .int 0, .ref wL, .ref wP, .ref wS])), (d, .inr (3, [.int 0, .int 0, .ref dL, .ref dP, .ref dS])), (h0, .inr (9, [.ref w, .ref d, .ref co, .ref un, .ref ma, .ref tm, .int 0, .int 0, .int 0]))]) (w1 := []) hP hD [] [0, 1, 2] rfl rfl (by decide) (by decide) hk1 hFc hP1 hD1
        generalize H1 = H at hP hS ⊢
        have hP : va_P (dC, dI) vwCl [(w, .inr (3, [.int 0, .int 0, .ref wL, .ref wP, .ref wS])), (d, .inr (3, [.int 0, .int 0, .ref dL, .ref dP, .ref dS])), (h0, .inr (9, [.ref w, .ref d, .ref co, .ref un, .ref ma, .ref tm, .int 0, .int 0, .int 0]))] _ := hP
        have hD : va_D A [(w, .inr (3, [.int 0, .int 0, .ref wL, .ref wP, .ref wS])), (d, .inr (3, [.int 0, .int 0, .ref dL, .ref dP, .ref dS])), (h0, .inr (9, [.ref w, .ref d, .ref co, .ref un, .ref ma, .ref tm, .int 0, .int 0, .int 0]))] := hD
        refine W.widen (k := 2) (n := 12) (Nat.le_of_ble_eq_true rfl) (Nat.le_of_ble_eq_true rfl) ?_
        have hr1 := hw
        refine lv_iload_n hx hb dX6_addPart_11 rfl (lv_at hl 4 rfl) ?_
        have hPc := hP.sub (ws' := []) [] rfl
        have hDc := hD.sub (ws' := []) [] (by decide) rfl
        have hKc := hK.sub (tys' := []) [] rfl
        have hFc := va_free (wc := []) hD hS hA [] rfl
        refine vx_callv (vx_runS (As := [.int p2]) (rest := []) ⟨hx, hb, hml, hown, hts⟩ (kX6_requireValue l hfl dC dI p2 H.size) (va_cwS 1 hts gX6_addPart_X6_requireValue rfl rfl rfl (by decide +kernel) ⟨Nat.le_of_ble_eq_true rfl, Nat.le_of_ble_eq_true rfl⟩) (fPreS hN hZ hS (fun q h => hFc q h) hPc hKc hDc) rfl rfl hl.1 rfl (lv_room (Nat.le_of_ble_eq_true rfl)) dX6_addPart_12 ⟨Nat.le_of_ble_eq_true rfl, Nat.le_of_ble_eq_true rfl⟩) hS (fun q _ h => hFc q h) hFc (fun q _ h => hFc q h) (fun E ce q9 u t H locs ht hvm hpx hE hz1 hk1 hS hq9 hv9 hc9 => ?_) (fun u t H1 locs ht hvm hw hB hz1 hk1 hS => ?_)
        · skip
          exact thr E ce q9 _ _ _ _ _ _ _ (Or.inl (⟨hE.1, Or.inr (Or.inr (Or.inl (hE.2)))⟩)) hq9 hv9 hc9 hS (Nat.le_of_ble_eq_true rfl) (Nat.le_of_ble_eq_true rfl)
        · skip
          obtain ⟨hP1, hK1, hD1⟩ := hB
          rw [ht] at hP1
          have hK1 := va_K.moved hvm.symm hK1
          obtain ⟨hP, hD⟩ := va_join (wr := [(w, .inr (3, [.int 0, .int 0, .ref wL, .ref wP, .ref wS])), (d, .inr (3, [.int 0, .int 0, .ref dL, .ref dP, .ref dS])), (h0, .inr (9, [.ref w, .ref d, .ref co, .ref un, .ref ma, .ref tm, .int 0, .int 0, .int 0]))]) (w1 := []) hP hD [] [0, 1, 2] rfl rfl (by decide) (by decide) hk1 hFc hP1 hD1
          generalize H1 = H at hP hS ⊢
          have hP : va_P (dC, dI) vwCl [(w, .inr (3, [.int 0, .int 0, .ref wL, .ref wP, .ref wS])), (d, .inr (3, [.int 0, .int 0, .ref dL, .ref dP, .ref dS])), (h0, .inr (9, [.ref w, .ref d, .ref co, .ref un, .ref ma, .ref tm, .int 0, .int 0, .int 0]))] _ := hP
          have hD : va_D A [(w, .inr (3, [.int 0, .int 0, .ref wL, .ref wP, .ref wS])), (d, .inr (3, [.int 0, .int 0, .ref dL, .ref dP, .ref dS])), (h0, .inr (9, [.ref w, .ref d, .ref co, .ref un, .ref ma, .ref tm, .int 0, .int 0, .int 0]))] := hD
          refine W.widen (k := 3) (n := 18) (Nat.le_of_ble_eq_true rfl) (Nat.le_of_ble_eq_true rfl) ?_
          have hr2 := hw
          refine lv_iload_n hx hb dX6_addPart_15 rfl (lv_at hl 3 rfl) ?_
          refine lv_bipush (v := 116) hx hb dX6_addPart_16 (by decide) ?_
          refine lv_icmp_eq (tgt := 37) hx hb dX6_addPart_18 (by decide) (fun h3 => ?_) (fun h3 => ?_)
          · skip
            refine lv_aload hx hb dX6_addPart_37 (lv_at hl 0 rfl) ?_
            refine lv_iload hx hb dX6_addPart_39 (lv_at hl 5 rfl) ?_
            have hPc := hP.sub (ws' := [(w, .inr (3, [.int 0, .int 0, .ref wL, .ref wP, .ref wS]))]) [0] rfl
            have hDc := hD.sub (ws' := [(w, .inr (3, [.int 0, .int 0, .ref wL, .ref wP, .ref wS]))]) [0] (by decide) rfl
            have hKc := hK.sub (tys' := []) [] rfl
            have hFc := va_free (wc := [(w, .inr (3, [.int 0, .int 0, .ref wL, .ref wP, .ref wS]))]) hD hS hA [0] rfl
            refine vx_callv (vx_runS (As := [.ref w, .int p3]) (rest := []) ⟨hx, hb, hml, hown, hts⟩ (kX6_requireNet l hfl dC dI w wL wP wS p3 H.size) (va_cwS 2 hts gX6_addPart_X6_requireNet rfl rfl rfl (by decide +kernel) ⟨Nat.le_of_ble_eq_true rfl, Nat.le_of_ble_eq_true rfl⟩) (fPreS hN hZ hS (fun q h => hFc q h) hPc hKc hDc) rfl rfl hl.1 rfl (lv_room (Nat.le_of_ble_eq_true rfl)) dX6_addPart_41 ⟨Nat.le_of_ble_eq_true rfl, Nat.le_of_ble_eq_true rfl⟩) hS (fun q _ h => hFc q h) hFc (fun q _ h => hFc q h) (fun E ce q9 u t H locs ht hvm hpx hE hz1 hk1 hS hq9 hv9 hc9 => ?_) (fun u t H1 locs ht hvm hw hB hz1 hk1 hS => ?_)
            · skip
              exact thr E ce q9 _ _ _ _ _ _ _ (Or.inr (⟨hE, (fun h9 => h9.elim ((fun h9 => h9 (Or.inl (hc0)))) ((fun h9 => h9.elim ((fun h9 => h9 (hr1))) ((fun h9 => h9.elim ((fun h9 => h9 (hr2))) ((fun h9 => ((fun h9 => h9 (h3))) h9.1)))))))⟩)) hq9 hv9 hc9 hS (Nat.le_of_ble_eq_true rfl) (Nat.le_of_ble_eq_true rfl)
            · skip
              exact hw.elim
          · skip
            refine lv_iload hx hb dX6_addPart_21 (lv_at hl 7 rfl) ?_
            refine lv_iconst (v := (-1)) hx hb dX6_addPart_23 (by decide) ?_
            refine lv_icmp_eq (tgt := 37) hx hb dX6_addPart_24 (by decide) (fun h4 => ?_) (fun h4 => ?_)
            · skip
              refine lv_aload hx hb dX6_addPart_37 (lv_at hl 0 rfl) ?_
              refine lv_iload hx hb dX6_addPart_39 (lv_at hl 5 rfl) ?_
              have hPc := hP.sub (ws' := [(w, .inr (3, [.int 0, .int 0, .ref wL, .ref wP, .ref wS]))]) [0] rfl
              have hDc := hD.sub (ws' := [(w, .inr (3, [.int 0, .int 0, .ref wL, .ref wP, .ref wS]))]) [0] (by decide) rfl
              have hKc := hK.sub (tys' := []) [] rfl
              have hFc := va_free (wc := [(w, .inr (3, [.int 0, .int 0, .ref wL, .ref wP, .ref wS]))]) hD hS hA [0] rfl
              refine vx_callv (vx_runS (As := [.ref w, .int p3]) (rest := []) ⟨hx, hb, hml, hown, hts⟩ (kX6_requireNet l hfl dC dI w wL wP wS p3 H.size) (va_cwS 2 hts gX6_addPart_X6_requireNet rfl rfl rfl (by decide +kernel) ⟨Nat.le_of_ble_eq_true rfl, Nat.le_of_ble_eq_true rfl⟩) (fPreS hN hZ hS (fun q h => hFc q h) hPc hKc hDc) rfl rfl hl.1 rfl (lv_room (Nat.le_of_ble_eq_true rfl)) dX6_addPart_41 ⟨Nat.le_of_ble_eq_true rfl, Nat.le_of_ble_eq_true rfl⟩) hS (fun q _ h => hFc q h) hFc (fun q _ h => hFc q h) (fun E ce q9 u t H locs ht hvm hpx hE hz1 hk1 hS hq9 hv9 hc9 => ?_) (fun u t H1 locs ht hvm hw hB hz1 hk1 hS => ?_)
              · skip
                exact thr E ce q9 _ _ _ _ _ _ _ (Or.inr (⟨hE, (fun h9 => h9.elim ((fun h9 => h9 (Or.inl (hc0)))) ((fun h9 => h9.elim ((fun h9 => h9 (hr1))) ((fun h9 => h9.elim ((fun h9 => h9 (hr2))) ((fun h9 => ((fun h9 => h9 (h4))) h9.2)))))))⟩)) hq9 hv9 hc9 hS (Nat.le_of_ble_eq_true rfl) (Nat.le_of_ble_eq_true rfl)
              · skip
                exact hw.elim
            · skip
              exact thn "java/lang/IllegalArgumentException" _ ["java/lang/RuntimeException", "java/lang/Exception"] 67 94 71 _ _ _ _ 27 _ (Or.inl (⟨rfl, Or.inr (Or.inr (Or.inr (⟨h3, h4⟩)))⟩)) (by decide +kernel) (by decide +kernel) (hts (.classLink RX6 67 "java/lang/IllegalArgumentException") (List.mem_cons_of_mem _ (List.mem_append_left _ (List.mem_append_left _ (List.mem_append_left _ (List.mem_append_left _ (List.mem_append_left _ (List.mem_append_left _ (List.mem_append_left _ (List.mem_append_left _ (List.mem_of_getElem? (i := 0) rfl))))))))))) (hts (.initialized "java/lang/IllegalArgumentException") (List.mem_cons_of_mem _ (List.mem_append_left _ (List.mem_append_left _ (List.mem_append_left _ (List.mem_append_left _ (List.mem_append_left _ (List.mem_append_left _ (List.mem_append_left _ (List.mem_append_left _ (List.mem_of_getElem? (i := 1) rfl))))))))))) (hN.2 _ (List.mem_of_getElem? (i := 7) rfl)) (vx_hat (fun w h => hts w ((fun w h => List.mem_cons_of_mem _ (List.mem_append_left _ (List.mem_append_left _ (List.mem_append_left _ (List.mem_append_right _ (h)))))) w h)) (B := [.castable "java/lang/IllegalArgumentException" "java/lang/IllegalArgumentException", .declares ⟨"java/lang/RuntimeException", "<init>", "(Ljava/lang/String;)V"⟩, .declares ⟨"java/lang/Exception", "<init>", "(Ljava/lang/String;)V"⟩, .declares ⟨"java/lang/Throwable", "<init>", "(Ljava/lang/String;)V"⟩]) (by decide +kernel) (vx_c (va_Nw.use rfl (hN.1 _ (List.mem_of_getElem? (i := 50) rfl))) (vx_c (va_Nw.use rfl (hN.1 _ (List.mem_of_getElem? (i := 51) rfl))) (vx_c (va_Nw.use rfl (hN.1 _ (List.mem_of_getElem? (i := 52) rfl))) (vx_c (va_Nw.use rfl (hN.1 _ (List.mem_of_getElem? (i := 53) rfl))) vx_n))))) (by decide +kernel) hS hl.1 (Nat.le_of_ble_eq_true rfl) (Nat.le_of_ble_eq_true rfl) (Nat.le_of_ble_eq_true rfl) (Nat.le_of_ble_eq_true rfl) dX6_addPart_27 dX6_addPart_30 (Or.inl ⟨dX6_addPart_31, dX6_addPart_33, dX6_addPart_36⟩)
    · skip
      refine W.eq (g2 := F0 m 5 ls [.ref d]) rfl ?_
      refine lv_astore (lv' := [(7, .ref d), (0, .ref h0), (1, .int p0), (2, .int p1), (3, .int p2), (4, .int p3), (5, .int p4), (6, .int p5)]) hx hb dX6_addPart_5 hl (Nat.le_of_ble_eq_true rfl) rfl (fun ls hl => ?_)
      refine lv_iload_n hx hb dX6_addPart_7 rfl (lv_at hl 3 rfl) ?_
      have hPc := hP.sub (ws' := []) [] rfl
      have hDc := hD.sub (ws' := []) [] (by decide) rfl
      have hKc := hK.sub (tys' := []) [] rfl
      have hFc := va_free (wc := []) hD hS hA [] rfl
      refine vx_callv (vx_runS (As := [.int p1]) (rest := []) ⟨hx, hb, hml, hown, hts⟩ (kX6_requireKind l hfl dC dI p1 H.size) (va_cwS 1 hts gX6_addPart_X6_requireKind rfl rfl rfl (by decide +kernel) ⟨Nat.le_of_ble_eq_true rfl, Nat.le_of_ble_eq_true rfl⟩) (fPreS hN hZ hS (fun q h => hFc q h) hPc hKc hDc) rfl rfl hl.1 rfl (lv_room (Nat.le_of_ble_eq_true rfl)) dX6_addPart_8 ⟨Nat.le_of_ble_eq_true rfl, Nat.le_of_ble_eq_true rfl⟩) hS (fun q _ h => hFc q h) hFc (fun q _ h => hFc q h) (fun E ce q9 u t H locs ht hvm hpx hE hz1 hk1 hS hq9 hv9 hc9 => ?_) (fun u t H1 locs ht hvm hw hB hz1 hk1 hS => ?_)
      · skip
        exact thr E ce q9 _ _ _ _ _ _ _ (Or.inl (⟨hE.1, Or.inr (Or.inl (hE.2))⟩)) hq9 hv9 hc9 hS (Nat.le_of_ble_eq_true rfl) (Nat.le_of_ble_eq_true rfl)
      · skip
        obtain ⟨hP1, hK1, hD1⟩ := hB
        rw [ht] at hP1
        have hK1 := va_K.moved hvm.symm hK1
        obtain ⟨hP, hD⟩ := va_join (wr := [(w, .inr (3, [.int 0, .int 0, .ref wL, .ref wP, .ref wS])), (d, .inr (3, [.int 0, .int 0, .ref dL, .ref dP, .ref dS])), (h0, .inr (9, [.ref w, .ref d, .ref co, .ref un, .ref ma, .ref tm, .int 0, .int 0, .int 0]))]) (w1 := []) hP hD [] [0, 1, 2] rfl rfl (by decide) (by decide) hk1 hFc hP1 hD1
        generalize H1 = H at hP hS ⊢
        have hP : va_P (dC, dI) vwCl [(w, .inr (3, [.int 0, .int 0, .ref wL, .ref wP, .ref wS])), (d, .inr (3, [.int 0, .int 0, .ref dL, .ref dP, .ref dS])), (h0, .inr (9, [.ref w, .ref d, .ref co, .ref un, .ref ma, .ref tm, .int 0, .int 0, .int 0]))] _ := hP
        have hD : va_D A [(w, .inr (3, [.int 0, .int 0, .ref wL, .ref wP, .ref wS])), (d, .inr (3, [.int 0, .int 0, .ref dL, .ref dP, .ref dS])), (h0, .inr (9, [.ref w, .ref d, .ref co, .ref un, .ref ma, .ref tm, .int 0, .int 0, .int 0]))] := hD
        refine W.widen (k := 2) (n := 12) (Nat.le_of_ble_eq_true rfl) (Nat.le_of_ble_eq_true rfl) ?_
        have hr5 := hw
        refine lv_iload_n hx hb dX6_addPart_11 rfl (lv_at hl 4 rfl) ?_
        have hPc := hP.sub (ws' := []) [] rfl
        have hDc := hD.sub (ws' := []) [] (by decide) rfl
        have hKc := hK.sub (tys' := []) [] rfl
        have hFc := va_free (wc := []) hD hS hA [] rfl
        refine vx_callv (vx_runS (As := [.int p2]) (rest := []) ⟨hx, hb, hml, hown, hts⟩ (kX6_requireValue l hfl dC dI p2 H.size) (va_cwS 1 hts gX6_addPart_X6_requireValue rfl rfl rfl (by decide +kernel) ⟨Nat.le_of_ble_eq_true rfl, Nat.le_of_ble_eq_true rfl⟩) (fPreS hN hZ hS (fun q h => hFc q h) hPc hKc hDc) rfl rfl hl.1 rfl (lv_room (Nat.le_of_ble_eq_true rfl)) dX6_addPart_12 ⟨Nat.le_of_ble_eq_true rfl, Nat.le_of_ble_eq_true rfl⟩) hS (fun q _ h => hFc q h) hFc (fun q _ h => hFc q h) (fun E ce q9 u t H locs ht hvm hpx hE hz1 hk1 hS hq9 hv9 hc9 => ?_) (fun u t H1 locs ht hvm hw hB hz1 hk1 hS => ?_)
        · skip
          exact thr E ce q9 _ _ _ _ _ _ _ (Or.inl (⟨hE.1, Or.inr (Or.inr (Or.inl (hE.2)))⟩)) hq9 hv9 hc9 hS (Nat.le_of_ble_eq_true rfl) (Nat.le_of_ble_eq_true rfl)
        · skip
          obtain ⟨hP1, hK1, hD1⟩ := hB
          rw [ht] at hP1
          have hK1 := va_K.moved hvm.symm hK1
          obtain ⟨hP, hD⟩ := va_join (wr := [(w, .inr (3, [.int 0, .int 0, .ref wL, .ref wP, .ref wS])), (d, .inr (3, [.int 0, .int 0, .ref dL, .ref dP, .ref dS])), (h0, .inr (9, [.ref w, .ref d, .ref co, .ref un, .ref ma, .ref tm, .int 0, .int 0, .int 0]))]) (w1 := []) hP hD [] [0, 1, 2] rfl rfl (by decide) (by decide) hk1 hFc hP1 hD1
          generalize H1 = H at hP hS ⊢
          have hP : va_P (dC, dI) vwCl [(w, .inr (3, [.int 0, .int 0, .ref wL, .ref wP, .ref wS])), (d, .inr (3, [.int 0, .int 0, .ref dL, .ref dP, .ref dS])), (h0, .inr (9, [.ref w, .ref d, .ref co, .ref un, .ref ma, .ref tm, .int 0, .int 0, .int 0]))] _ := hP
          have hD : va_D A [(w, .inr (3, [.int 0, .int 0, .ref wL, .ref wP, .ref wS])), (d, .inr (3, [.int 0, .int 0, .ref dL, .ref dP, .ref dS])), (h0, .inr (9, [.ref w, .ref d, .ref co, .ref un, .ref ma, .ref tm, .int 0, .int 0, .int 0]))] := hD
          refine W.widen (k := 3) (n := 18) (Nat.le_of_ble_eq_true rfl) (Nat.le_of_ble_eq_true rfl) ?_
          have hr6 := hw
          refine lv_iload_n hx hb dX6_addPart_15 rfl (lv_at hl 3 rfl) ?_
          refine lv_bipush (v := 116) hx hb dX6_addPart_16 (by decide) ?_
          refine lv_icmp_eq (tgt := 37) hx hb dX6_addPart_18 (by decide) (fun h7 => ?_) (fun h7 => ?_)
          · skip
            refine lv_aload hx hb dX6_addPart_37 (lv_at hl 0 rfl) ?_
            refine lv_iload hx hb dX6_addPart_39 (lv_at hl 5 rfl) ?_
            have hPc := hP.sub (ws' := [(d, .inr (3, [.int 0, .int 0, .ref dL, .ref dP, .ref dS]))]) [1] rfl
            have hDc := hD.sub (ws' := [(d, .inr (3, [.int 0, .int 0, .ref dL, .ref dP, .ref dS]))]) [1] (by decide) rfl
            have hKc := hK.sub (tys' := []) [] rfl
            have hFc := va_free (wc := [(d, .inr (3, [.int 0, .int 0, .ref dL, .ref dP, .ref dS]))]) hD hS hA [1] rfl
            refine vx_callv (vx_runS (As := [.ref d, .int p3]) (rest := []) ⟨hx, hb, hml, hown, hts⟩ (kX6_requireNet l hfl dC dI d dL dP dS p3 H.size) (va_cwS 2 hts gX6_addPart_X6_requireNet rfl rfl rfl (by decide +kernel) ⟨Nat.le_of_ble_eq_true rfl, Nat.le_of_ble_eq_true rfl⟩) (fPreS hN hZ hS (fun q h => hFc q h) hPc hKc hDc) rfl rfl hl.1 rfl (lv_room (Nat.le_of_ble_eq_true rfl)) dX6_addPart_41 ⟨Nat.le_of_ble_eq_true rfl, Nat.le_of_ble_eq_true rfl⟩) hS (fun q _ h => hFc q h) hFc (fun q _ h => hFc q h) (fun E ce q9 u t H locs ht hvm hpx hE hz1 hk1 hS hq9 hv9 hc9 => ?_) (fun u t H1 locs ht hvm hw hB hz1 hk1 hS => ?_)
            · skip
              exact thr E ce q9 _ _ _ _ _ _ _ (Or.inr (⟨hE, (fun h9 => h9.elim ((fun h9 => h9 (Or.inr (hc1)))) ((fun h9 => h9.elim ((fun h9 => h9 (hr5))) ((fun h9 => h9.elim ((fun h9 => h9 (hr6))) ((fun h9 => ((fun h9 => h9 (h7))) h9.1)))))))⟩)) hq9 hv9 hc9 hS (Nat.le_of_ble_eq_true rfl) (Nat.le_of_ble_eq_true rfl)
            · skip
              exact hw.elim
          · skip
            refine lv_iload hx hb dX6_addPart_21 (lv_at hl 7 rfl) ?_
            refine lv_iconst (v := (-1)) hx hb dX6_addPart_23 (by decide) ?_
            refine lv_icmp_eq (tgt := 37) hx hb dX6_addPart_24 (by decide) (fun h8 => ?_) (fun h8 => ?_)
            · skip
              refine lv_aload hx hb dX6_addPart_37 (lv_at hl 0 rfl) ?_
              refine lv_iload hx hb dX6_addPart_39 (lv_at hl 5 rfl) ?_
              have hPc := hP.sub (ws' := [(d, .inr (3, [.int 0, .int 0, .ref dL, .ref dP, .ref dS]))]) [1] rfl
              have hDc := hD.sub (ws' := [(d, .inr (3, [.int 0, .int 0, .ref dL, .ref dP, .ref dS]))]) [1] (by decide) rfl
              have hKc := hK.sub (tys' := []) [] rfl
              have hFc := va_free (wc := [(d, .inr (3, [.int 0, .int 0, .ref dL, .ref dP, .ref dS]))]) hD hS hA [1] rfl
              refine vx_callv (vx_runS (As := [.ref d, .int p3]) (rest := []) ⟨hx, hb, hml, hown, hts⟩ (kX6_requireNet l hfl dC dI d dL dP dS p3 H.size) (va_cwS 2 hts gX6_addPart_X6_requireNet rfl rfl rfl (by decide +kernel) ⟨Nat.le_of_ble_eq_true rfl, Nat.le_of_ble_eq_true rfl⟩) (fPreS hN hZ hS (fun q h => hFc q h) hPc hKc hDc) rfl rfl hl.1 rfl (lv_room (Nat.le_of_ble_eq_true rfl)) dX6_addPart_41 ⟨Nat.le_of_ble_eq_true rfl, Nat.le_of_ble_eq_true rfl⟩) hS (fun q _ h => hFc q h) hFc (fun q _ h => hFc q h) (fun E ce q9 u t H locs ht hvm hpx hE hz1 hk1 hS hq9 hv9 hc9 => ?_) (fun u t H1 locs ht hvm hw hB hz1 hk1 hS => ?_)
              · skip
                exact thr E ce q9 _ _ _ _ _ _ _ (Or.inr (⟨hE, (fun h9 => h9.elim ((fun h9 => h9 (Or.inr (hc1)))) ((fun h9 => h9.elim ((fun h9 => h9 (hr5))) ((fun h9 => h9.elim ((fun h9 => h9 (hr6))) ((fun h9 => ((fun h9 => h9 (h8))) h9.2)))))))⟩)) hq9 hv9 hc9 hS (Nat.le_of_ble_eq_true rfl) (Nat.le_of_ble_eq_true rfl)
              · skip
                exact hw.elim
            · skip
              exact thn "java/lang/IllegalArgumentException" _ ["java/lang/RuntimeException", "java/lang/Exception"] 67 94 71 _ _ _ _ 27 _ (Or.inl (⟨rfl, Or.inr (Or.inr (Or.inr (⟨h7, h8⟩)))⟩)) (by decide +kernel) (by decide +kernel) (hts (.classLink RX6 67 "java/lang/IllegalArgumentException") (List.mem_cons_of_mem _ (List.mem_append_left _ (List.mem_append_left _ (List.mem_append_left _ (List.mem_append_left _ (List.mem_append_left _ (List.mem_append_left _ (List.mem_append_left _ (List.mem_append_left _ (List.mem_of_getElem? (i := 0) rfl))))))))))) (hts (.initialized "java/lang/IllegalArgumentException") (List.mem_cons_of_mem _ (List.mem_append_left _ (List.mem_append_left _ (List.mem_append_left _ (List.mem_append_left _ (List.mem_append_left _ (List.mem_append_left _ (List.mem_append_left _ (List.mem_append_left _ (List.mem_of_getElem? (i := 1) rfl))))))))))) (hN.2 _ (List.mem_of_getElem? (i := 7) rfl)) (vx_hat (fun w h => hts w ((fun w h => List.mem_cons_of_mem _ (List.mem_append_left _ (List.mem_append_left _ (List.mem_append_left _ (List.mem_append_right _ (h)))))) w h)) (B := [.castable "java/lang/IllegalArgumentException" "java/lang/IllegalArgumentException", .declares ⟨"java/lang/RuntimeException", "<init>", "(Ljava/lang/String;)V"⟩, .declares ⟨"java/lang/Exception", "<init>", "(Ljava/lang/String;)V"⟩, .declares ⟨"java/lang/Throwable", "<init>", "(Ljava/lang/String;)V"⟩]) (by decide +kernel) (vx_c (va_Nw.use rfl (hN.1 _ (List.mem_of_getElem? (i := 50) rfl))) (vx_c (va_Nw.use rfl (hN.1 _ (List.mem_of_getElem? (i := 51) rfl))) (vx_c (va_Nw.use rfl (hN.1 _ (List.mem_of_getElem? (i := 52) rfl))) (vx_c (va_Nw.use rfl (hN.1 _ (List.mem_of_getElem? (i := 53) rfl))) vx_n))))) (by decide +kernel) hS hl.1 (Nat.le_of_ble_eq_true rfl) (Nat.le_of_ble_eq_true rfl) (Nat.le_of_ble_eq_true rfl) (Nat.le_of_ble_eq_true rfl) dX6_addPart_27 dX6_addPart_30 (Or.inl ⟨dX6_addPart_31, dX6_addPart_33, dX6_addPart_36⟩)

set_option maxHeartbeats 4000000 in
set_option maxRecDepth 100000 in
/-- removePart on a fresh object -/
theorem kX6_removePart (l : Launch) (hfl : l.stackTraces = false) (dC : Nat → ClassId) (dI : Nat → Nat → Nat) (h0 w d co un ma tm : Nat) (wL wP wS dL dP dS : Nat) (p0 p1 : Int32) (sz : Nat) : fXi l yX6_removePart wsX6_removePart ({ frames := 8, cells := 2, slots := 12, locals := 123 } : Room) dC dI [.ref h0, .int p0, .int p1] [(h0, .inr (9, [.ref w, .ref d, .ref co, .ref un, .ref ma, .ref tm, .int 0, .int 0, .int 0])), (w, .inr (3, [.int 0, .int 0, .ref wL, .ref wP, .ref wS])), (d, .inr (3, [.int 0, .int 0, .ref dL, .ref dP, .ref dS]))] [] sz (fun E : String => E = "java/lang/IllegalArgumentException" ∧ (¬ ((p0 = 0) ∨ (p0 = 1))) ∨ E = "java/util/NoSuchElementException" ∧ (¬ (¬ ((p0 = 0) ∨ (p0 = 1))))) (fun (r : Int32) (u : Unit) => False) (fun u => []) (fun u => []) := by
  refine oX_i hfl (y := yX6_removePart) (cc := cX6_removePart) (maxL := 4) (by decide) rfl (Nat.le_of_ble_eq_true rfl) ?_
  intro p e s m args below meth c ls A Q hx hb hr hml hown hts hN hZ hA hin hlk hP hK hD hl ret thr thn
  have hS : va_S A s.heap s.heap [] := va_S.rf
  have hl : lv_has ls 4 [(0, .ref h0), (1, .int p0), (2, .int p1)] := hl
  have hP : va_P (dC, dI) vwCl [(h0, .inr (9, [.ref w, .ref d, .ref co, .ref un, .ref ma, .ref tm, .int 0, .int 0, .int 0])), (w, .inr (3, [.int 0, .int 0, .ref wL, .ref wP, .ref wS])), (d, .inr (3, [.int 0, .int 0, .ref dL, .ref dP, .ref dS]))] _ := hP
  have hD : va_D A [(h0, .inr (9, [.ref w, .ref d, .ref co, .ref un, .ref ma, .ref tm, .int 0, .int 0, .int 0])), (w, .inr (3, [.int 0, .int 0, .ref wL, .ref wP, .ref wS])), (d, .inr (3, [.int 0, .int 0, .ref dL, .ref dP, .ref dS]))] := hD
  refine lv_aload_n hx hb dX6_removePart_0 rfl (lv_at hl 0 rfl) ?_
  refine lv_iload_n hx hb dX6_removePart_1 rfl (lv_at hl 1 rfl) ?_
  have hPc := hP.sub (ws' := [(h0, .inr (9, [.ref w, .ref d, .ref co, .ref un, .ref ma, .ref tm, .int 0, .int 0, .int 0]))]) [0] rfl
  have hDc := hD.sub (ws' := [(h0, .inr (9, [.ref w, .ref d, .ref co, .ref un, .ref ma, .ref tm, .int 0, .int 0, .int 0]))]) [0] (by decide) rfl
  have hKc := hK.sub (tys' := []) [] rfl
  have hFc := va_free (wc := [(h0, .inr (9, [.ref w, .ref d, .ref co, .ref un, .ref ma, .ref tm, .int 0, .int 0, .int 0]))]) hD hS hA [0] rfl
  refine vx_callq (vx_runV (As := [.int p0]) (rest := []) ⟨hx, hb, hml, hown, hts⟩ (kX6_circuitAt l hfl dC dI h0 w d co un ma tm p0 s.heap.size) (cwV 1 hts gX6_removePart_X6_circuitAt rfl rfl rfl (by decide +kernel) ⟨Nat.le_of_ble_eq_true rfl, Nat.le_of_ble_eq_true rfl⟩) (fPreV hN hZ hS (fun q h => hFc q h) hPc hKc hDc (ci := 9) (q0 := 0) rfl rfl) rfl rfl hl.1 rfl (lv_room (Nat.le_of_ble_eq_true rfl)) dX6_removePart_2 ⟨Nat.le_of_ble_eq_true rfl, Nat.le_of_ble_eq_true rfl⟩) hS (fun q _ h => hFc q h) hFc (fun q _ h => hFc q h) (fun E ce q9 u t H locs ht hvm hpx hE hz1 hk1 hS hq9 hv9 hc9 => ?_) (fun r u t H1 locs ht hvm hw hB hz1 hk1 hS => ?_)
  · skip
    exact thr E ce q9 _ _ _ _ _ _ _ (Or.inl (⟨hE.1, hE.2⟩)) hq9 hv9 hc9 hS (Nat.le_of_ble_eq_true rfl) (Nat.le_of_ble_eq_true rfl)
  · skip
    obtain ⟨hP1, hK1, hD1⟩ := hB
    rw [ht] at hP1
    have hK1 := va_K.moved hvm.symm hK1
    obtain ⟨hP, hD⟩ := va_join (wr := [(w, .inr (3, [.int 0, .int 0, .ref wL, .ref wP, .ref wS])), (d, .inr (3, [.int 0, .int 0, .ref dL, .ref dP, .ref dS]))]) (w1 := [(h0, .inr (9, [.ref w, .ref d, .ref co, .ref un, .ref ma, .ref tm, .int 0, .int 0, .int 0]))]) hP hD [0] [1, 2] rfl rfl (by decide) (by decide) hk1 hFc hP1 hD1
    generalize H1 = H at hP hS ⊢
    have hP : va_P (dC, dI) vwCl [(w, .inr (3, [.int 0, .int 0, .ref wL, .ref wP, .ref wS])), (d, .inr (3, [.int 0, .int 0, .ref dL, .ref dP, .ref dS])), (h0, .inr (9, [.ref w, .ref d, .ref co, .ref un, .ref ma, .ref tm, .int 0, .int 0, .int 0]))] _ := hP
    have hD : va_D A [(w, .inr (3, [.int 0, .int 0, .ref wL, .ref wP, .ref wS])), (d, .inr (3, [.int 0, .int 0, .ref dL, .ref dP, .ref dS])), (h0, .inr (9, [.ref w, .ref d, .ref co, .ref un, .ref ma, .ref tm, .int 0, .int 0, .int 0]))] := hD
    refine W.widen (k := 1) (n := 6) (Nat.le_of_ble_eq_true rfl) (Nat.le_of_ble_eq_true rfl) ?_
    rcases hw with ⟨hc0, rfl⟩ | ⟨hc1, rfl⟩
    · skip
      refine W.eq (g2 := F0 m 5 ls [.ref w]) rfl ?_
      refine lv_astore_n (lv' := [(3, .ref w), (0, .ref h0), (1, .int p0), (2, .int p1)]) hx hb dX6_removePart_5 rfl hl (Nat.le_of_ble_eq_true rfl) rfl (fun ls hl => ?_)
      refine lv_aload_n hx hb dX6_removePart_6 rfl (lv_at hl 0 rfl) ?_
      refine lv_iload_n hx hb dX6_removePart_7 rfl (lv_at hl 3 rfl) ?_
      have hPc := hP.sub (ws' := [(w, .inr (3, [.int 0, .int 0, .ref wL, .ref wP, .ref wS]))]) [0] rfl
      have hDc := hD.sub (ws' := [(w, .inr (3, [.int 0, .int 0, .ref wL, .ref wP, .ref wS]))]) [0] (by decide) rfl
      have hKc := hK.sub (tys' := []) [] rfl
      have hFc := va_free (wc := [(w, .inr (3, [.int 0, .int 0, .ref wL, .ref wP, .ref wS]))]) hD hS hA [0] rfl
      refine vx_callv (vx_runS (As := [.ref w, .int p1]) (rest := []) ⟨hx, hb, hml, hown, hts⟩ (kX6_requirePart l hfl dC dI w wL wP wS p1 H.size) (va_cwS 2 hts gX6_removePart_X6_requirePart rfl rfl rfl (by decide +kernel) ⟨Nat.le_of_ble_eq_true rfl, Nat.le_of_ble_eq_true rfl⟩) (fPreS hN hZ hS (fun q h => hFc q h) hPc hKc hDc) rfl rfl hl.1 rfl (lv_room (Nat.le_of_ble_eq_true rfl)) dX6_removePart_8 ⟨Nat.le_of_ble_eq_true rfl, Nat.le_of_ble_eq_true rfl⟩) hS (fun q _ h => hFc q h) hFc (fun q _ h => hFc q h) (fun E ce q9 u t H locs ht hvm hpx hE hz1 hk1 hS hq9 hv9 hc9 => ?_) (fun u t H1 locs ht hvm hw hB hz1 hk1 hS => ?_)
      · skip
        exact thr E ce q9 _ _ _ _ _ _ _ (Or.inr (⟨hE, (fun h9 => h9 (Or.inl (hc0)))⟩)) hq9 hv9 hc9 hS (Nat.le_of_ble_eq_true rfl) (Nat.le_of_ble_eq_true rfl)
      · skip
        exact hw.elim
    · skip
      refine W.eq (g2 := F0 m 5 ls [.ref d]) rfl ?_
      refine lv_astore_n (lv' := [(3, .ref d), (0, .ref h0), (1, .int p0), (2, .int p1)]) hx hb dX6_removePart_5 rfl hl (Nat.le_of_ble_eq_true rfl) rfl (fun ls hl => ?_)
      refine lv_aload_n hx hb dX6_removePart_6 rfl (lv_at hl 0 rfl) ?_
      refine lv_iload_n hx hb dX6_removePart_7 rfl (lv_at hl 3 rfl) ?_
      have hPc := hP.sub (ws' := [(d, .inr (3, [.int 0, .int 0, .ref dL, .ref dP, .ref dS]))]) [1] rfl
      have hDc := hD.sub (ws' := [(d, .inr (3, [.int 0, .int 0, .ref dL, .ref dP, .ref dS]))]) [1] (by decide) rfl
      have hKc := hK.sub (tys' := []) [] rfl
      have hFc := va_free (wc := [(d, .inr (3, [.int 0, .int 0, .ref dL, .ref dP, .ref dS]))]) hD hS hA [1] rfl
      refine vx_callv (vx_runS (As := [.ref d, .int p1]) (rest := []) ⟨hx, hb, hml, hown, hts⟩ (kX6_requirePart l hfl dC dI d dL dP dS p1 H.size) (va_cwS 2 hts gX6_removePart_X6_requirePart rfl rfl rfl (by decide +kernel) ⟨Nat.le_of_ble_eq_true rfl, Nat.le_of_ble_eq_true rfl⟩) (fPreS hN hZ hS (fun q h => hFc q h) hPc hKc hDc) rfl rfl hl.1 rfl (lv_room (Nat.le_of_ble_eq_true rfl)) dX6_removePart_8 ⟨Nat.le_of_ble_eq_true rfl, Nat.le_of_ble_eq_true rfl⟩) hS (fun q _ h => hFc q h) hFc (fun q _ h => hFc q h) (fun E ce q9 u t H locs ht hvm hpx hE hz1 hk1 hS hq9 hv9 hc9 => ?_) (fun u t H1 locs ht hvm hw hB hz1 hk1 hS => ?_)
      · skip
        exact thr E ce q9 _ _ _ _ _ _ _ (Or.inr (⟨hE, (fun h9 => h9 (Or.inr (hc1)))⟩)) hq9 hv9 hc9 hS (Nat.le_of_ble_eq_true rfl) (Nat.le_of_ble_eq_true rfl)
      · skip
        exact hw.elim

set_option maxHeartbeats 4000000 in
set_option maxRecDepth 100000 in
/-- rewire on a fresh object -/
theorem kX6_rewire (l : Launch) (hfl : l.stackTraces = false) (dC : Nat → ClassId) (dI : Nat → Nat → Nat) (h0 w d co un ma tm : Nat) (wL wP wS dL dP dS : Nat) (p0 p1 p2 p3 : Int32) (sz : Nat) : fXi l yX6_rewire wsX6_rewire ({ frames := 8, cells := 2, slots := 12, locals := 123 } : Room) dC dI [.ref h0, .int p0, .int p1, .int p2, .int p3] [(h0, .inr (9, [.ref w, .ref d, .ref co, .ref un, .ref ma, .ref tm, .int 0, .int 0, .int 0])), (w, .inr (3, [.int 0, .int 0, .ref wL, .ref wP, .ref wS])), (d, .inr (3, [.int 0, .int 0, .ref dL, .ref dP, .ref dS]))] [] sz (fun E : String => E = "java/lang/IllegalArgumentException" ∧ (¬ ((p0 = 0) ∨ (p0 = 1))) ∨ E = "java/util/NoSuchElementException" ∧ (¬ (¬ ((p0 = 0) ∨ (p0 = 1))))) (fun (r : Int32) (u : Unit) => False) (fun u => []) (fun u => []) := by
  refine oX_i hfl (y := yX6_rewire) (cc := cX6_rewire) (maxL := 7) (by decide) rfl (Nat.le_of_ble_eq_true rfl) ?_
  intro p e s m args below meth c ls A Q hx hb hr hml hown hts hN hZ hA hin hlk hP hK hD hl ret thr thn
  have hS : va_S A s.heap s.heap [] := va_S.rf
  have hl : lv_has ls 7 [(0, .ref h0), (1, .int p0), (2, .int p1), (3, .int p2), (4, .int p3)] := hl
  have hP : va_P (dC, dI) vwCl [(h0, .inr (9, [.ref w, .ref d, .ref co, .ref un, .ref ma, .ref tm, .int 0, .int 0, .int 0])), (w, .inr (3, [.int 0, .int 0, .ref wL, .ref wP, .ref wS])), (d, .inr (3, [.int 0, .int 0, .ref dL, .ref dP, .ref dS]))] _ := hP
  have hD : va_D A [(h0, .inr (9, [.ref w, .ref d, .ref co, .ref un, .ref ma, .ref tm, .int 0, .int 0, .int 0])), (w, .inr (3, [.int 0, .int 0, .ref wL, .ref wP, .ref wS])), (d, .inr (3, [.int 0, .int 0, .ref dL, .ref dP, .ref dS]))] := hD
  refine lv_aload_n hx hb dX6_rewire_0 rfl (lv_at hl 0 rfl) ?_
  refine lv_iload_n hx hb dX6_rewire_1 rfl (lv_at hl 1 rfl) ?_
  have hPc := hP.sub (ws' := [(h0, .inr (9, [.ref w, .ref d, .ref co, .ref un, .ref ma, .ref tm, .int 0, .int 0, .int 0]))]) [0] rfl
  have hDc := hD.sub (ws' := [(h0, .inr (9, [.ref w, .ref d, .ref co, .ref un, .ref ma, .ref tm, .int 0, .int 0, .int 0]))]) [0] (by decide) rfl
  have hKc := hK.sub (tys' := []) [] rfl
  have hFc := va_free (wc := [(h0, .inr (9, [.ref w, .ref d, .ref co, .ref un, .ref ma, .ref tm, .int 0, .int 0, .int 0]))]) hD hS hA [0] rfl
  refine vx_callq (vx_runV (As := [.int p0]) (rest := []) ⟨hx, hb, hml, hown, hts⟩ (kX6_circuitAt l hfl dC dI h0 w d co un ma tm p0 s.heap.size) (cwV 1 hts gX6_rewire_X6_circuitAt rfl rfl rfl (by decide +kernel) ⟨Nat.le_of_ble_eq_true rfl, Nat.le_of_ble_eq_true rfl⟩) (fPreV hN hZ hS (fun q h => hFc q h) hPc hKc hDc (ci := 9) (q0 := 0) rfl rfl) rfl rfl hl.1 rfl (lv_room (Nat.le_of_ble_eq_true rfl)) dX6_rewire_2 ⟨Nat.le_of_ble_eq_true rfl, Nat.le_of_ble_eq_true rfl⟩) hS (fun q _ h => hFc q h) hFc (fun q _ h => hFc q h) (fun E ce q9 u t H locs ht hvm hpx hE hz1 hk1 hS hq9 hv9 hc9 => ?_) (fun r u t H1 locs ht hvm hw hB hz1 hk1 hS => ?_)
  · skip
    exact thr E ce q9 _ _ _ _ _ _ _ (Or.inl (⟨hE.1, hE.2⟩)) hq9 hv9 hc9 hS (Nat.le_of_ble_eq_true rfl) (Nat.le_of_ble_eq_true rfl)
  · skip
    obtain ⟨hP1, hK1, hD1⟩ := hB
    rw [ht] at hP1
    have hK1 := va_K.moved hvm.symm hK1
    obtain ⟨hP, hD⟩ := va_join (wr := [(w, .inr (3, [.int 0, .int 0, .ref wL, .ref wP, .ref wS])), (d, .inr (3, [.int 0, .int 0, .ref dL, .ref dP, .ref dS]))]) (w1 := [(h0, .inr (9, [.ref w, .ref d, .ref co, .ref un, .ref ma, .ref tm, .int 0, .int 0, .int 0]))]) hP hD [0] [1, 2] rfl rfl (by decide) (by decide) hk1 hFc hP1 hD1
    generalize H1 = H at hP hS ⊢
    have hP : va_P (dC, dI) vwCl [(w, .inr (3, [.int 0, .int 0, .ref wL, .ref wP, .ref wS])), (d, .inr (3, [.int 0, .int 0, .ref dL, .ref dP, .ref dS])), (h0, .inr (9, [.ref w, .ref d, .ref co, .ref un, .ref ma, .ref tm, .int 0, .int 0, .int 0]))] _ := hP
    have hD : va_D A [(w, .inr (3, [.int 0, .int 0, .ref wL, .ref wP, .ref wS])), (d, .inr (3, [.int 0, .int 0, .ref dL, .ref dP, .ref dS])), (h0, .inr (9, [.ref w, .ref d, .ref co, .ref un, .ref ma, .ref tm, .int 0, .int 0, .int 0]))] := hD
    refine W.widen (k := 1) (n := 6) (Nat.le_of_ble_eq_true rfl) (Nat.le_of_ble_eq_true rfl) ?_
    rcases hw with ⟨hc0, rfl⟩ | ⟨hc1, rfl⟩
    · skip
      refine W.eq (g2 := F0 m 5 ls [.ref w]) rfl ?_
      refine lv_astore (lv' := [(5, .ref w), (0, .ref h0), (1, .int p0), (2, .int p1), (3, .int p2), (4, .int p3)]) hx hb dX6_rewire_5 hl (Nat.le_of_ble_eq_true rfl) rfl (fun ls hl => ?_)
      refine lv_aload hx hb dX6_rewire_7 (lv_at hl 0 rfl) ?_
      refine lv_iload_n hx hb dX6_rewire_9 rfl (lv_at hl 3 rfl) ?_
      have hPc := hP.sub (ws' := [(w, .inr (3, [.int 0, .int 0, .ref wL, .ref wP, .ref wS]))]) [0] rfl
      have hDc := hD.sub (ws' := [(w, .inr (3, [.int 0, .int 0, .ref wL, .ref wP, .ref wS]))]) [0] (by decide) rfl
      have hKc := hK.sub (tys' := []) [] rfl
      have hFc := va_free (wc := [(w, .inr (3, [.int 0, .int 0, .ref wL, .ref wP, .ref wS]))]) hD hS hA [0] rfl
      refine vx_callv (vx_runS (As := [.ref w, .int p1]) (rest := []) ⟨hx, hb, hml, hown, hts⟩ (kX6_requirePart l hfl dC dI w wL wP wS p1 H.size) (va_cwS 2 hts gX6_rewire_X6_requirePart rfl rfl rfl (by decide +kernel) ⟨Nat.le_of_ble_eq_true rfl, Nat.le_of_ble_eq_true rfl⟩) (fPreS hN hZ hS (fun q h => hFc q h) hPc hKc hDc) rfl rfl hl.1 rfl (lv_room (Nat.le_of_ble_eq_true rfl)) dX6_rewire_10 ⟨Nat.le_of_ble_eq_true rfl, Nat.le_of_ble_eq_true rfl⟩) hS (fun q _ h => hFc q h) hFc (fun q _ h => hFc q h) (fun E ce q9 u t H locs ht hvm hpx hE hz1 hk1 hS hq9 hv9 hc9 => ?_) (fun u t H1 locs ht hvm hw hB hz1 hk1 hS => ?_)
      · skip
        exact thr E ce q9 _ _ _ _ _ _ _ (Or.inr (⟨hE, (fun h9 => h9 (Or.inl (hc0)))⟩)) hq9 hv9 hc9 hS (Nat.le_of_ble_eq_true rfl) (Nat.le_of_ble_eq_true rfl)
      · skip
        exact hw.elim
    · skip
      refine W.eq (g2 := F0 m 5 ls [.ref d]) rfl ?_
      refine lv_astore (lv' := [(5, .ref d), (0, .ref h0), (1, .int p0), (2, .int p1), (3, .int p2), (4, .int p3)]) hx hb dX6_rewire_5 hl (Nat.le_of_ble_eq_true rfl) rfl (fun ls hl => ?_)
      refine lv_aload hx hb dX6_rewire_7 (lv_at hl 0 rfl) ?_
      refine lv_iload_n hx hb dX6_rewire_9 rfl (lv_at hl 3 rfl) ?_
      have hPc := hP.sub (ws' := [(d, .inr (3, [.int 0, .int 0, .ref dL, .ref dP, .ref dS]))]) [1] rfl
      have hDc := hD.sub (ws' := [(d, .inr (3, [.int 0, .int 0, .ref dL, .ref dP, .ref dS]))]) [1] (by decide) rfl
      have hKc := hK.sub (tys' := []) [] rfl
      have hFc := va_free (wc := [(d, .inr (3, [.int 0, .int 0, .ref dL, .ref dP, .ref dS]))]) hD hS hA [1] rfl
      refine vx_callv (vx_runS (As := [.ref d, .int p1]) (rest := []) ⟨hx, hb, hml, hown, hts⟩ (kX6_requirePart l hfl dC dI d dL dP dS p1 H.size) (va_cwS 2 hts gX6_rewire_X6_requirePart rfl rfl rfl (by decide +kernel) ⟨Nat.le_of_ble_eq_true rfl, Nat.le_of_ble_eq_true rfl⟩) (fPreS hN hZ hS (fun q h => hFc q h) hPc hKc hDc) rfl rfl hl.1 rfl (lv_room (Nat.le_of_ble_eq_true rfl)) dX6_rewire_10 ⟨Nat.le_of_ble_eq_true rfl, Nat.le_of_ble_eq_true rfl⟩) hS (fun q _ h => hFc q h) hFc (fun q _ h => hFc q h) (fun E ce q9 u t H locs ht hvm hpx hE hz1 hk1 hS hq9 hv9 hc9 => ?_) (fun u t H1 locs ht hvm hw hB hz1 hk1 hS => ?_)
      · skip
        exact thr E ce q9 _ _ _ _ _ _ _ (Or.inr (⟨hE, (fun h9 => h9 (Or.inr (hc1)))⟩)) hq9 hv9 hc9 hS (Nat.le_of_ble_eq_true rfl) (Nat.le_of_ble_eq_true rfl)
      · skip
        exact hw.elim

set_option maxHeartbeats 4000000 in
set_option maxRecDepth 100000 in
/-- swapPins on a fresh object -/
theorem kX6_swapPins (l : Launch) (hfl : l.stackTraces = false) (dC : Nat → ClassId) (dI : Nat → Nat → Nat) (h0 w d co un ma tm : Nat) (wL wP wS dL dP dS : Nat) (p0 p1 : Int32) (sz : Nat) : fXi l yX6_swapPins wsX6_swapPins ({ frames := 8, cells := 2, slots := 12, locals := 123 } : Room) dC dI [.ref h0, .int p0, .int p1] [(h0, .inr (9, [.ref w, .ref d, .ref co, .ref un, .ref ma, .ref tm, .int 0, .int 0, .int 0])), (w, .inr (3, [.int 0, .int 0, .ref wL, .ref wP, .ref wS])), (d, .inr (3, [.int 0, .int 0, .ref dL, .ref dP, .ref dS]))] [] sz (fun E : String => E = "java/lang/IllegalArgumentException" ∧ (¬ ((p0 = 0) ∨ (p0 = 1))) ∨ E = "java/util/NoSuchElementException" ∧ (¬ (¬ ((p0 = 0) ∨ (p0 = 1))))) (fun (r : Int32) (u : Unit) => False) (fun u => []) (fun u => []) := by
  refine oX_i hfl (y := yX6_swapPins) (cc := cX6_swapPins) (maxL := 4) (by decide) rfl (Nat.le_of_ble_eq_true rfl) ?_
  intro p e s m args below meth c ls A Q hx hb hr hml hown hts hN hZ hA hin hlk hP hK hD hl ret thr thn
  have hS : va_S A s.heap s.heap [] := va_S.rf
  have hl : lv_has ls 4 [(0, .ref h0), (1, .int p0), (2, .int p1)] := hl
  have hP : va_P (dC, dI) vwCl [(h0, .inr (9, [.ref w, .ref d, .ref co, .ref un, .ref ma, .ref tm, .int 0, .int 0, .int 0])), (w, .inr (3, [.int 0, .int 0, .ref wL, .ref wP, .ref wS])), (d, .inr (3, [.int 0, .int 0, .ref dL, .ref dP, .ref dS]))] _ := hP
  have hD : va_D A [(h0, .inr (9, [.ref w, .ref d, .ref co, .ref un, .ref ma, .ref tm, .int 0, .int 0, .int 0])), (w, .inr (3, [.int 0, .int 0, .ref wL, .ref wP, .ref wS])), (d, .inr (3, [.int 0, .int 0, .ref dL, .ref dP, .ref dS]))] := hD
  refine lv_aload_n hx hb dX6_swapPins_0 rfl (lv_at hl 0 rfl) ?_
  refine lv_iload_n hx hb dX6_swapPins_1 rfl (lv_at hl 1 rfl) ?_
  have hPc := hP.sub (ws' := [(h0, .inr (9, [.ref w, .ref d, .ref co, .ref un, .ref ma, .ref tm, .int 0, .int 0, .int 0]))]) [0] rfl
  have hDc := hD.sub (ws' := [(h0, .inr (9, [.ref w, .ref d, .ref co, .ref un, .ref ma, .ref tm, .int 0, .int 0, .int 0]))]) [0] (by decide) rfl
  have hKc := hK.sub (tys' := []) [] rfl
  have hFc := va_free (wc := [(h0, .inr (9, [.ref w, .ref d, .ref co, .ref un, .ref ma, .ref tm, .int 0, .int 0, .int 0]))]) hD hS hA [0] rfl
  refine vx_callq (vx_runV (As := [.int p0]) (rest := []) ⟨hx, hb, hml, hown, hts⟩ (kX6_circuitAt l hfl dC dI h0 w d co un ma tm p0 s.heap.size) (cwV 1 hts gX6_swapPins_X6_circuitAt rfl rfl rfl (by decide +kernel) ⟨Nat.le_of_ble_eq_true rfl, Nat.le_of_ble_eq_true rfl⟩) (fPreV hN hZ hS (fun q h => hFc q h) hPc hKc hDc (ci := 9) (q0 := 0) rfl rfl) rfl rfl hl.1 rfl (lv_room (Nat.le_of_ble_eq_true rfl)) dX6_swapPins_2 ⟨Nat.le_of_ble_eq_true rfl, Nat.le_of_ble_eq_true rfl⟩) hS (fun q _ h => hFc q h) hFc (fun q _ h => hFc q h) (fun E ce q9 u t H locs ht hvm hpx hE hz1 hk1 hS hq9 hv9 hc9 => ?_) (fun r u t H1 locs ht hvm hw hB hz1 hk1 hS => ?_)
  · skip
    exact thr E ce q9 _ _ _ _ _ _ _ (Or.inl (⟨hE.1, hE.2⟩)) hq9 hv9 hc9 hS (Nat.le_of_ble_eq_true rfl) (Nat.le_of_ble_eq_true rfl)
  · skip
    obtain ⟨hP1, hK1, hD1⟩ := hB
    rw [ht] at hP1
    have hK1 := va_K.moved hvm.symm hK1
    obtain ⟨hP, hD⟩ := va_join (wr := [(w, .inr (3, [.int 0, .int 0, .ref wL, .ref wP, .ref wS])), (d, .inr (3, [.int 0, .int 0, .ref dL, .ref dP, .ref dS]))]) (w1 := [(h0, .inr (9, [.ref w, .ref d, .ref co, .ref un, .ref ma, .ref tm, .int 0, .int 0, .int 0]))]) hP hD [0] [1, 2] rfl rfl (by decide) (by decide) hk1 hFc hP1 hD1
    generalize H1 = H at hP hS ⊢
    have hP : va_P (dC, dI) vwCl [(w, .inr (3, [.int 0, .int 0, .ref wL, .ref wP, .ref wS])), (d, .inr (3, [.int 0, .int 0, .ref dL, .ref dP, .ref dS])), (h0, .inr (9, [.ref w, .ref d, .ref co, .ref un, .ref ma, .ref tm, .int 0, .int 0, .int 0]))] _ := hP
    have hD : va_D A [(w, .inr (3, [.int 0, .int 0, .ref wL, .ref wP, .ref wS])), (d, .inr (3, [.int 0, .int 0, .ref dL, .ref dP, .ref dS])), (h0, .inr (9, [.ref w, .ref d, .ref co, .ref un, .ref ma, .ref tm, .int 0, .int 0, .int 0]))] := hD
    refine W.widen (k := 1) (n := 6) (Nat.le_of_ble_eq_true rfl) (Nat.le_of_ble_eq_true rfl) ?_
    rcases hw with ⟨hc0, rfl⟩ | ⟨hc1, rfl⟩
    · skip
      refine W.eq (g2 := F0 m 5 ls [.ref w]) rfl ?_
      refine lv_astore_n (lv' := [(3, .ref w), (0, .ref h0), (1, .int p0), (2, .int p1)]) hx hb dX6_swapPins_5 rfl hl (Nat.le_of_ble_eq_true rfl) rfl (fun ls hl => ?_)
      refine lv_aload_n hx hb dX6_swapPins_6 rfl (lv_at hl 0 rfl) ?_
      refine lv_iload_n hx hb dX6_swapPins_7 rfl (lv_at hl 3 rfl) ?_
      have hPc := hP.sub (ws' := [(w, .inr (3, [.int 0, .int 0, .ref wL, .ref wP, .ref wS]))]) [0] rfl
      have hDc := hD.sub (ws' := [(w, .inr (3, [.int 0, .int 0, .ref wL, .ref wP, .ref wS]))]) [0] (by decide) rfl
      have hKc := hK.sub (tys' := []) [] rfl
      have hFc := va_free (wc := [(w, .inr (3, [.int 0, .int 0, .ref wL, .ref wP, .ref wS]))]) hD hS hA [0] rfl
      refine vx_callv (vx_runS (As := [.ref w, .int p1]) (rest := []) ⟨hx, hb, hml, hown, hts⟩ (kX6_requirePart l hfl dC dI w wL wP wS p1 H.size) (va_cwS 2 hts gX6_swapPins_X6_requirePart rfl rfl rfl (by decide +kernel) ⟨Nat.le_of_ble_eq_true rfl, Nat.le_of_ble_eq_true rfl⟩) (fPreS hN hZ hS (fun q h => hFc q h) hPc hKc hDc) rfl rfl hl.1 rfl (lv_room (Nat.le_of_ble_eq_true rfl)) dX6_swapPins_8 ⟨Nat.le_of_ble_eq_true rfl, Nat.le_of_ble_eq_true rfl⟩) hS (fun q _ h => hFc q h) hFc (fun q _ h => hFc q h) (fun E ce q9 u t H locs ht hvm hpx hE hz1 hk1 hS hq9 hv9 hc9 => ?_) (fun u t H1 locs ht hvm hw hB hz1 hk1 hS => ?_)
      · skip
        exact thr E ce q9 _ _ _ _ _ _ _ (Or.inr (⟨hE, (fun h9 => h9 (Or.inl (hc0)))⟩)) hq9 hv9 hc9 hS (Nat.le_of_ble_eq_true rfl) (Nat.le_of_ble_eq_true rfl)
      · skip
        exact hw.elim
    · skip
      refine W.eq (g2 := F0 m 5 ls [.ref d]) rfl ?_
      refine lv_astore_n (lv' := [(3, .ref d), (0, .ref h0), (1, .int p0), (2, .int p1)]) hx hb dX6_swapPins_5 rfl hl (Nat.le_of_ble_eq_true rfl) rfl (fun ls hl => ?_)
      refine lv_aload_n hx hb dX6_swapPins_6 rfl (lv_at hl 0 rfl) ?_
      refine lv_iload_n hx hb dX6_swapPins_7 rfl (lv_at hl 3 rfl) ?_
      have hPc := hP.sub (ws' := [(d, .inr (3, [.int 0, .int 0, .ref dL, .ref dP, .ref dS]))]) [1] rfl
      have hDc := hD.sub (ws' := [(d, .inr (3, [.int 0, .int 0, .ref dL, .ref dP, .ref dS]))]) [1] (by decide) rfl
      have hKc := hK.sub (tys' := []) [] rfl
      have hFc := va_free (wc := [(d, .inr (3, [.int 0, .int 0, .ref dL, .ref dP, .ref dS]))]) hD hS hA [1] rfl
      refine vx_callv (vx_runS (As := [.ref d, .int p1]) (rest := []) ⟨hx, hb, hml, hown, hts⟩ (kX6_requirePart l hfl dC dI d dL dP dS p1 H.size) (va_cwS 2 hts gX6_swapPins_X6_requirePart rfl rfl rfl (by decide +kernel) ⟨Nat.le_of_ble_eq_true rfl, Nat.le_of_ble_eq_true rfl⟩) (fPreS hN hZ hS (fun q h => hFc q h) hPc hKc hDc) rfl rfl hl.1 rfl (lv_room (Nat.le_of_ble_eq_true rfl)) dX6_swapPins_8 ⟨Nat.le_of_ble_eq_true rfl, Nat.le_of_ble_eq_true rfl⟩) hS (fun q _ h => hFc q h) hFc (fun q _ h => hFc q h) (fun E ce q9 u t H locs ht hvm hpx hE hz1 hk1 hS hq9 hv9 hc9 => ?_) (fun u t H1 locs ht hvm hw hB hz1 hk1 hS => ?_)
      · skip
        exact thr E ce q9 _ _ _ _ _ _ _ (Or.inr (⟨hE, (fun h9 => h9 (Or.inr (hc1)))⟩)) hq9 hv9 hc9 hS (Nat.le_of_ble_eq_true rfl) (Nat.le_of_ble_eq_true rfl)
      · skip
        exact hw.elim

set_option maxHeartbeats 4000000 in
set_option maxRecDepth 100000 in
/-- join on a fresh object -/
theorem kX6_join (l : Launch) (hfl : l.stackTraces = false) (dC : Nat → ClassId) (dI : Nat → Nat → Nat) (h0 w d co un ma tm : Nat) (wL wP wS dL dP dS : Nat) (p0 p1 p2 : Int32) (sz : Nat) : fXi l yX6_join wsX6_join ({ frames := 8, cells := 2, slots := 12, locals := 123 } : Room) dC dI [.ref h0, .int p0, .int p1, .int p2] [(h0, .inr (9, [.ref w, .ref d, .ref co, .ref un, .ref ma, .ref tm, .int 0, .int 0, .int 0])), (w, .inr (3, [.int 0, .int 0, .ref wL, .ref wP, .ref wS])), (d, .inr (3, [.int 0, .int 0, .ref dL, .ref dP, .ref dS]))] [] sz (fun E : String => E = "java/lang/IllegalArgumentException" ∧ (¬ ((p0 = 0) ∨ (p0 = 1))) ∨ E = "java/util/NoSuchElementException" ∧ (¬ (¬ ((p0 = 0) ∨ (p0 = 1))))) (fun (r : Int32) (u : Unit) => False) (fun u => []) (fun u => []) := by
  refine oX_i hfl (y := yX6_join) (cc := cX6_join) (maxL := 5) (by decide) rfl (Nat.le_of_ble_eq_true rfl) ?_
  intro p e s m args below meth c ls A Q hx hb hr hml hown hts hN hZ hA hin hlk hP hK hD hl ret thr thn
  have hS : va_S A s.heap s.heap [] := va_S.rf
  have hl : lv_has ls 5 [(0, .ref h0), (1, .int p0), (2, .int p1), (3, .int p2)] := hl
  have hP : va_P (dC, dI) vwCl [(h0, .inr (9, [.ref w, .ref d, .ref co, .ref un, .ref ma, .ref tm, .int 0, .int 0, .int 0])), (w, .inr (3, [.int 0, .int 0, .ref wL, .ref wP, .ref wS])), (d, .inr (3, [.int 0, .int 0, .ref dL, .ref dP, .ref dS]))] _ := hP
  have hD : va_D A [(h0, .inr (9, [.ref w, .ref d, .ref co, .ref un, .ref ma, .ref tm, .int 0, .int 0, .int 0])), (w, .inr (3, [.int 0, .int 0, .ref wL, .ref wP, .ref wS])), (d, .inr (3, [.int 0, .int 0, .ref dL, .ref dP, .ref dS]))] := hD
  refine lv_aload_n hx hb dX6_join_0 rfl (lv_at hl 0 rfl) ?_
  refine lv_iload_n hx hb dX6_join_1 rfl (lv_at hl 1 rfl) ?_
  have hPc := hP.sub (ws' := [(h0, .inr (9, [.ref w, .ref d, .ref co, .ref un, .ref ma, .ref tm, .int 0, .int 0, .int 0]))]) [0] rfl
  have hDc := hD.sub (ws' := [(h0, .inr (9, [.ref w, .ref d, .ref co, .ref un, .ref ma, .ref tm, .int 0, .int 0, .int 0]))]) [0] (by decide) rfl
  have hKc := hK.sub (tys' := []) [] rfl
  have hFc := va_free (wc := [(h0, .inr (9, [.ref w, .ref d, .ref co, .ref un, .ref ma, .ref tm, .int 0, .int 0, .int 0]))]) hD hS hA [0] rfl
  refine vx_callq (vx_runV (As := [.int p0]) (rest := []) ⟨hx, hb, hml, hown, hts⟩ (kX6_circuitAt l hfl dC dI h0 w d co un ma tm p0 s.heap.size) (cwV 1 hts gX6_join_X6_circuitAt rfl rfl rfl (by decide +kernel) ⟨Nat.le_of_ble_eq_true rfl, Nat.le_of_ble_eq_true rfl⟩) (fPreV hN hZ hS (fun q h => hFc q h) hPc hKc hDc (ci := 9) (q0 := 0) rfl rfl) rfl rfl hl.1 rfl (lv_room (Nat.le_of_ble_eq_true rfl)) dX6_join_2 ⟨Nat.le_of_ble_eq_true rfl, Nat.le_of_ble_eq_true rfl⟩) hS (fun q _ h => hFc q h) hFc (fun q _ h => hFc q h) (fun E ce q9 u t H locs ht hvm hpx hE hz1 hk1 hS hq9 hv9 hc9 => ?_) (fun r u t H1 locs ht hvm hw hB hz1 hk1 hS => ?_)
  · skip
    exact thr E ce q9 _ _ _ _ _ _ _ (Or.inl (⟨hE.1, hE.2⟩)) hq9 hv9 hc9 hS (Nat.le_of_ble_eq_true rfl) (Nat.le_of_ble_eq_true rfl)
  · skip
    obtain ⟨hP1, hK1, hD1⟩ := hB
    rw [ht] at hP1
    have hK1 := va_K.moved hvm.symm hK1
    obtain ⟨hP, hD⟩ := va_join (wr := [(w, .inr (3, [.int 0, .int 0, .ref wL, .ref wP, .ref wS])), (d, .inr (3, [.int 0, .int 0, .ref dL, .ref dP, .ref dS]))]) (w1 := [(h0, .inr (9, [.ref w, .ref d, .ref co, .ref un, .ref ma, .ref tm, .int 0, .int 0, .int 0]))]) hP hD [0] [1, 2] rfl rfl (by decide) (by decide) hk1 hFc hP1 hD1
    generalize H1 = H at hP hS ⊢
    have hP : va_P (dC, dI) vwCl [(w, .inr (3, [.int 0, .int 0, .ref wL, .ref wP, .ref wS])), (d, .inr (3, [.int 0, .int 0, .ref dL, .ref dP, .ref dS])), (h0, .inr (9, [.ref w, .ref d, .ref co, .ref un, .ref ma, .ref tm, .int 0, .int 0, .int 0]))] _ := hP
    have hD : va_D A [(w, .inr (3, [.int 0, .int 0, .ref wL, .ref wP, .ref wS])), (d, .inr (3, [.int 0, .int 0, .ref dL, .ref dP, .ref dS])), (h0, .inr (9, [.ref w, .ref d, .ref co, .ref un, .ref ma, .ref tm, .int 0, .int 0, .int 0]))] := hD
    refine W.widen (k := 1) (n := 6) (Nat.le_of_ble_eq_true rfl) (Nat.le_of_ble_eq_true rfl) ?_
    rcases hw with ⟨hc0, rfl⟩ | ⟨hc1, rfl⟩
    · skip
      refine W.eq (g2 := F0 m 5 ls [.ref w]) rfl ?_
      refine lv_astore (lv' := [(4, .ref w), (0, .ref h0), (1, .int p0), (2, .int p1), (3, .int p2)]) hx hb dX6_join_5 hl (Nat.le_of_ble_eq_true rfl) rfl (fun ls hl => ?_)
      refine lv_aload hx hb dX6_join_7 (lv_at hl 0 rfl) ?_
      refine lv_iload_n hx hb dX6_join_9 rfl (lv_at hl 3 rfl) ?_
      have hPc := hP.sub (ws' := [(w, .inr (3, [.int 0, .int 0, .ref wL, .ref wP, .ref wS]))]) [0] rfl
      have hDc := hD.sub (ws' := [(w, .inr (3, [.int 0, .int 0, .ref wL, .ref wP, .ref wS]))]) [0] (by decide) rfl
      have hKc := hK.sub (tys' := []) [] rfl
      have hFc := va_free (wc := [(w, .inr (3, [.int 0, .int 0, .ref wL, .ref wP, .ref wS]))]) hD hS hA [0] rfl
      refine vx_callv (vx_runS (As := [.ref w, .int p1]) (rest := []) ⟨hx, hb, hml, hown, hts⟩ (kX6_requirePart l hfl dC dI w wL wP wS p1 H.size) (va_cwS 2 hts gX6_join_X6_requirePart rfl rfl rfl (by decide +kernel) ⟨Nat.le_of_ble_eq_true rfl, Nat.le_of_ble_eq_true rfl⟩) (fPreS hN hZ hS (fun q h => hFc q h) hPc hKc hDc) rfl rfl hl.1 rfl (lv_room (Nat.le_of_ble_eq_true rfl)) dX6_join_10 ⟨Nat.le_of_ble_eq_true rfl, Nat.le_of_ble_eq_true rfl⟩) hS (fun q _ h => hFc q h) hFc (fun q _ h => hFc q h) (fun E ce q9 u t H locs ht hvm hpx hE hz1 hk1 hS hq9 hv9 hc9 => ?_) (fun u t H1 locs ht hvm hw hB hz1 hk1 hS => ?_)
      · skip
        exact thr E ce q9 _ _ _ _ _ _ _ (Or.inr (⟨hE, (fun h9 => h9 (Or.inl (hc0)))⟩)) hq9 hv9 hc9 hS (Nat.le_of_ble_eq_true rfl) (Nat.le_of_ble_eq_true rfl)
      · skip
        exact hw.elim
    · skip
      refine W.eq (g2 := F0 m 5 ls [.ref d]) rfl ?_
      refine lv_astore (lv' := [(4, .ref d), (0, .ref h0), (1, .int p0), (2, .int p1), (3, .int p2)]) hx hb dX6_join_5 hl (Nat.le_of_ble_eq_true rfl) rfl (fun ls hl => ?_)
      refine lv_aload hx hb dX6_join_7 (lv_at hl 0 rfl) ?_
      refine lv_iload_n hx hb dX6_join_9 rfl (lv_at hl 3 rfl) ?_
      have hPc := hP.sub (ws' := [(d, .inr (3, [.int 0, .int 0, .ref dL, .ref dP, .ref dS]))]) [1] rfl
      have hDc := hD.sub (ws' := [(d, .inr (3, [.int 0, .int 0, .ref dL, .ref dP, .ref dS]))]) [1] (by decide) rfl
      have hKc := hK.sub (tys' := []) [] rfl
      have hFc := va_free (wc := [(d, .inr (3, [.int 0, .int 0, .ref dL, .ref dP, .ref dS]))]) hD hS hA [1] rfl
      refine vx_callv (vx_runS (As := [.ref d, .int p1]) (rest := []) ⟨hx, hb, hml, hown, hts⟩ (kX6_requirePart l hfl dC dI d dL dP dS p1 H.size) (va_cwS 2 hts gX6_join_X6_requirePart rfl rfl rfl (by decide +kernel) ⟨Nat.le_of_ble_eq_true rfl, Nat.le_of_ble_eq_true rfl⟩) (fPreS hN hZ hS (fun q h => hFc q h) hPc hKc hDc) rfl rfl hl.1 rfl (lv_room (Nat.le_of_ble_eq_true rfl)) dX6_join_10 ⟨Nat.le_of_ble_eq_true rfl, Nat.le_of_ble_eq_true rfl⟩) hS (fun q _ h => hFc q h) hFc (fun q _ h => hFc q h) (fun E ce q9 u t H locs ht hvm hpx hE hz1 hk1 hS hq9 hv9 hc9 => ?_) (fun u t H1 locs ht hvm hw hB hz1 hk1 hS => ?_)
      · skip
        exact thr E ce q9 _ _ _ _ _ _ _ (Or.inr (⟨hE, (fun h9 => h9 (Or.inr (hc1)))⟩)) hq9 hv9 hc9 hS (Nat.le_of_ble_eq_true rfl) (Nat.le_of_ble_eq_true rfl)
      · skip
        exact hw.elim

set_option maxHeartbeats 4000000 in
set_option maxRecDepth 100000 in
/-- valueOf on a fresh object -/
theorem kX6_valueOf (l : Launch) (hfl : l.stackTraces = false) (dC : Nat → ClassId) (dI : Nat → Nat → Nat) (h0 w d co un ma tm : Nat) (wL wP wS dL dP dS : Nat) (p0 p1 : Int32) (sz : Nat) : fXi l yX6_valueOf wsX6_valueOf ({ frames := 8, cells := 2, slots := 12, locals := 123 } : Room) dC dI [.ref h0, .int p0, .int p1] [(h0, .inr (9, [.ref w, .ref d, .ref co, .ref un, .ref ma, .ref tm, .int 0, .int 0, .int 0])), (w, .inr (3, [.int 0, .int 0, .ref wL, .ref wP, .ref wS])), (d, .inr (3, [.int 0, .int 0, .ref dL, .ref dP, .ref dS]))] [] sz (fun E : String => E = "java/lang/IllegalArgumentException" ∧ (¬ ((p0 = 0) ∨ (p0 = 1))) ∨ E = "java/util/NoSuchElementException" ∧ (¬ (¬ ((p0 = 0) ∨ (p0 = 1))))) (fun (r : Int32) (u : Unit) => False) (fun u => []) (fun u => []) := by
  refine oX_i hfl (y := yX6_valueOf) (cc := cX6_valueOf) (maxL := 4) (by decide) rfl (Nat.le_of_ble_eq_true rfl) ?_
  intro p e s m args below meth c ls A Q hx hb hr hml hown hts hN hZ hA hin hlk hP hK hD hl ret thr thn
  have hS : va_S A s.heap s.heap [] := va_S.rf
  have hl : lv_has ls 4 [(0, .ref h0), (1, .int p0), (2, .int p1)] := hl
  have hP : va_P (dC, dI) vwCl [(h0, .inr (9, [.ref w, .ref d, .ref co, .ref un, .ref ma, .ref tm, .int 0, .int 0, .int 0])), (w, .inr (3, [.int 0, .int 0, .ref wL, .ref wP, .ref wS])), (d, .inr (3, [.int 0, .int 0, .ref dL, .ref dP, .ref dS]))] _ := hP
  have hD : va_D A [(h0, .inr (9, [.ref w, .ref d, .ref co, .ref un, .ref ma, .ref tm, .int 0, .int 0, .int 0])), (w, .inr (3, [.int 0, .int 0, .ref wL, .ref wP, .ref wS])), (d, .inr (3, [.int 0, .int 0, .ref dL, .ref dP, .ref dS]))] := hD
  refine lv_aload_n hx hb dX6_valueOf_0 rfl (lv_at hl 0 rfl) ?_
  refine lv_iload_n hx hb dX6_valueOf_1 rfl (lv_at hl 1 rfl) ?_
  have hPc := hP.sub (ws' := [(h0, .inr (9, [.ref w, .ref d, .ref co, .ref un, .ref ma, .ref tm, .int 0, .int 0, .int 0]))]) [0] rfl
  have hDc := hD.sub (ws' := [(h0, .inr (9, [.ref w, .ref d, .ref co, .ref un, .ref ma, .ref tm, .int 0, .int 0, .int 0]))]) [0] (by decide) rfl
  have hKc := hK.sub (tys' := []) [] rfl
  have hFc := va_free (wc := [(h0, .inr (9, [.ref w, .ref d, .ref co, .ref un, .ref ma, .ref tm, .int 0, .int 0, .int 0]))]) hD hS hA [0] rfl
  refine vx_callq (vx_runV (As := [.int p0]) (rest := []) ⟨hx, hb, hml, hown, hts⟩ (kX6_circuitAt l hfl dC dI h0 w d co un ma tm p0 s.heap.size) (cwV 1 hts gX6_valueOf_X6_circuitAt rfl rfl rfl (by decide +kernel) ⟨Nat.le_of_ble_eq_true rfl, Nat.le_of_ble_eq_true rfl⟩) (fPreV hN hZ hS (fun q h => hFc q h) hPc hKc hDc (ci := 9) (q0 := 0) rfl rfl) rfl rfl hl.1 rfl (lv_room (Nat.le_of_ble_eq_true rfl)) dX6_valueOf_2 ⟨Nat.le_of_ble_eq_true rfl, Nat.le_of_ble_eq_true rfl⟩) hS (fun q _ h => hFc q h) hFc (fun q _ h => hFc q h) (fun E ce q9 u t H locs ht hvm hpx hE hz1 hk1 hS hq9 hv9 hc9 => ?_) (fun r u t H1 locs ht hvm hw hB hz1 hk1 hS => ?_)
  · skip
    exact thr E ce q9 _ _ _ _ _ _ _ (Or.inl (⟨hE.1, hE.2⟩)) hq9 hv9 hc9 hS (Nat.le_of_ble_eq_true rfl) (Nat.le_of_ble_eq_true rfl)
  · skip
    obtain ⟨hP1, hK1, hD1⟩ := hB
    rw [ht] at hP1
    have hK1 := va_K.moved hvm.symm hK1
    obtain ⟨hP, hD⟩ := va_join (wr := [(w, .inr (3, [.int 0, .int 0, .ref wL, .ref wP, .ref wS])), (d, .inr (3, [.int 0, .int 0, .ref dL, .ref dP, .ref dS]))]) (w1 := [(h0, .inr (9, [.ref w, .ref d, .ref co, .ref un, .ref ma, .ref tm, .int 0, .int 0, .int 0]))]) hP hD [0] [1, 2] rfl rfl (by decide) (by decide) hk1 hFc hP1 hD1
    generalize H1 = H at hP hS ⊢
    have hP : va_P (dC, dI) vwCl [(w, .inr (3, [.int 0, .int 0, .ref wL, .ref wP, .ref wS])), (d, .inr (3, [.int 0, .int 0, .ref dL, .ref dP, .ref dS])), (h0, .inr (9, [.ref w, .ref d, .ref co, .ref un, .ref ma, .ref tm, .int 0, .int 0, .int 0]))] _ := hP
    have hD : va_D A [(w, .inr (3, [.int 0, .int 0, .ref wL, .ref wP, .ref wS])), (d, .inr (3, [.int 0, .int 0, .ref dL, .ref dP, .ref dS])), (h0, .inr (9, [.ref w, .ref d, .ref co, .ref un, .ref ma, .ref tm, .int 0, .int 0, .int 0]))] := hD
    refine W.widen (k := 1) (n := 6) (Nat.le_of_ble_eq_true rfl) (Nat.le_of_ble_eq_true rfl) ?_
    rcases hw with ⟨hc0, rfl⟩ | ⟨hc1, rfl⟩
    · skip
      refine W.eq (g2 := F0 m 5 ls [.ref w]) rfl ?_
      refine lv_astore_n (lv' := [(3, .ref w), (0, .ref h0), (1, .int p0), (2, .int p1)]) hx hb dX6_valueOf_5 rfl hl (Nat.le_of_ble_eq_true rfl) rfl (fun ls hl => ?_)
      refine lv_aload_n hx hb dX6_valueOf_6 rfl (lv_at hl 0 rfl) ?_
      refine lv_iload_n hx hb dX6_valueOf_7 rfl (lv_at hl 3 rfl) ?_
      have hPc := hP.sub (ws' := [(w, .inr (3, [.int 0, .int 0, .ref wL, .ref wP, .ref wS]))]) [0] rfl
      have hDc := hD.sub (ws' := [(w, .inr (3, [.int 0, .int 0, .ref wL, .ref wP, .ref wS]))]) [0] (by decide) rfl
      have hKc := hK.sub (tys' := []) [] rfl
      have hFc := va_free (wc := [(w, .inr (3, [.int 0, .int 0, .ref wL, .ref wP, .ref wS]))]) hD hS hA [0] rfl
      refine vx_callv (vx_runS (As := [.ref w, .int p1]) (rest := []) ⟨hx, hb, hml, hown, hts⟩ (kX6_requirePart l hfl dC dI w wL wP wS p1 H.size) (va_cwS 2 hts gX6_valueOf_X6_requirePart rfl rfl rfl (by decide +kernel) ⟨Nat.le_of_ble_eq_true rfl, Nat.le_of_ble_eq_true rfl⟩) (fPreS hN hZ hS (fun q h => hFc q h) hPc hKc hDc) rfl rfl hl.1 rfl (lv_room (Nat.le_of_ble_eq_true rfl)) dX6_valueOf_8 ⟨Nat.le_of_ble_eq_true rfl, Nat.le_of_ble_eq_true rfl⟩) hS (fun q _ h => hFc q h) hFc (fun q _ h => hFc q h) (fun E ce q9 u t H locs ht hvm hpx hE hz1 hk1 hS hq9 hv9 hc9 => ?_) (fun u t H1 locs ht hvm hw hB hz1 hk1 hS => ?_)
      · skip
        exact thr E ce q9 _ _ _ _ _ _ _ (Or.inr (⟨hE, (fun h9 => h9 (Or.inl (hc0)))⟩)) hq9 hv9 hc9 hS (Nat.le_of_ble_eq_true rfl) (Nat.le_of_ble_eq_true rfl)
      · skip
        exact hw.elim
    · skip
      refine W.eq (g2 := F0 m 5 ls [.ref d]) rfl ?_
      refine lv_astore_n (lv' := [(3, .ref d), (0, .ref h0), (1, .int p0), (2, .int p1)]) hx hb dX6_valueOf_5 rfl hl (Nat.le_of_ble_eq_true rfl) rfl (fun ls hl => ?_)
      refine lv_aload_n hx hb dX6_valueOf_6 rfl (lv_at hl 0 rfl) ?_
      refine lv_iload_n hx hb dX6_valueOf_7 rfl (lv_at hl 3 rfl) ?_
      have hPc := hP.sub (ws' := [(d, .inr (3, [.int 0, .int 0, .ref dL, .ref dP, .ref dS]))]) [1] rfl
      have hDc := hD.sub (ws' := [(d, .inr (3, [.int 0, .int 0, .ref dL, .ref dP, .ref dS]))]) [1] (by decide) rfl
      have hKc := hK.sub (tys' := []) [] rfl
      have hFc := va_free (wc := [(d, .inr (3, [.int 0, .int 0, .ref dL, .ref dP, .ref dS]))]) hD hS hA [1] rfl
      refine vx_callv (vx_runS (As := [.ref d, .int p1]) (rest := []) ⟨hx, hb, hml, hown, hts⟩ (kX6_requirePart l hfl dC dI d dL dP dS p1 H.size) (va_cwS 2 hts gX6_valueOf_X6_requirePart rfl rfl rfl (by decide +kernel) ⟨Nat.le_of_ble_eq_true rfl, Nat.le_of_ble_eq_true rfl⟩) (fPreS hN hZ hS (fun q h => hFc q h) hPc hKc hDc) rfl rfl hl.1 rfl (lv_room (Nat.le_of_ble_eq_true rfl)) dX6_valueOf_8 ⟨Nat.le_of_ble_eq_true rfl, Nat.le_of_ble_eq_true rfl⟩) hS (fun q _ h => hFc q h) hFc (fun q _ h => hFc q h) (fun E ce q9 u t H locs ht hvm hpx hE hz1 hk1 hS hq9 hv9 hc9 => ?_) (fun u t H1 locs ht hvm hw hB hz1 hk1 hS => ?_)
      · skip
        exact thr E ce q9 _ _ _ _ _ _ _ (Or.inr (⟨hE, (fun h9 => h9 (Or.inr (hc1)))⟩)) hq9 hv9 hc9 hS (Nat.le_of_ble_eq_true rfl) (Nat.le_of_ble_eq_true rfl)
      · skip
        exact hw.elim

set_option maxHeartbeats 4000000 in
set_option maxRecDepth 100000 in
/-- netOf on a fresh object -/
theorem kX6_netOf (l : Launch) (hfl : l.stackTraces = false) (dC : Nat → ClassId) (dI : Nat → Nat → Nat) (h0 w d co un ma tm : Nat) (wL wP wS dL dP dS : Nat) (p0 p1 p2 : Int32) (sz : Nat) : fXi l yX6_netOf wsX6_netOf ({ frames := 8, cells := 2, slots := 12, locals := 123 } : Room) dC dI [.ref h0, .int p0, .int p1, .int p2] [(h0, .inr (9, [.ref w, .ref d, .ref co, .ref un, .ref ma, .ref tm, .int 0, .int 0, .int 0])), (w, .inr (3, [.int 0, .int 0, .ref wL, .ref wP, .ref wS])), (d, .inr (3, [.int 0, .int 0, .ref dL, .ref dP, .ref dS]))] [] sz (fun E : String => E = "java/lang/IllegalArgumentException" ∧ (¬ ((p0 = 0) ∨ (p0 = 1))) ∨ E = "java/util/NoSuchElementException" ∧ (¬ (¬ ((p0 = 0) ∨ (p0 = 1))))) (fun (r : Int32) (u : Unit) => False) (fun u => []) (fun u => []) := by
  refine oX_i hfl (y := yX6_netOf) (cc := cX6_netOf) (maxL := 5) (by decide) rfl (Nat.le_of_ble_eq_true rfl) ?_
  intro p e s m args below meth c ls A Q hx hb hr hml hown hts hN hZ hA hin hlk hP hK hD hl ret thr thn
  have hS : va_S A s.heap s.heap [] := va_S.rf
  have hl : lv_has ls 5 [(0, .ref h0), (1, .int p0), (2, .int p1), (3, .int p2)] := hl
  have hP : va_P (dC, dI) vwCl [(h0, .inr (9, [.ref w, .ref d, .ref co, .ref un, .ref ma, .ref tm, .int 0, .int 0, .int 0])), (w, .inr (3, [.int 0, .int 0, .ref wL, .ref wP, .ref wS])), (d, .inr (3, [.int 0, .int 0, .ref dL, .ref dP, .ref dS]))] _ := hP
  have hD : va_D A [(h0, .inr (9, [.ref w, .ref d, .ref co, .ref un, .ref ma, .ref tm, .int 0, .int 0, .int 0])), (w, .inr (3, [.int 0, .int 0, .ref wL, .ref wP, .ref wS])), (d, .inr (3, [.int 0, .int 0, .ref dL, .ref dP, .ref dS]))] := hD
  refine lv_aload_n hx hb dX6_netOf_0 rfl (lv_at hl 0 rfl) ?_
  refine lv_iload_n hx hb dX6_netOf_1 rfl (lv_at hl 1 rfl) ?_
  have hPc := hP.sub (ws' := [(h0, .inr (9, [.ref w, .ref d, .ref co, .ref un, .ref ma, .ref tm, .int 0, .int 0, .int 0]))]) [0] rfl
  have hDc := hD.sub (ws' := [(h0, .inr (9, [.ref w, .ref d, .ref co, .ref un, .ref ma, .ref tm, .int 0, .int 0, .int 0]))]) [0] (by decide) rfl
  have hKc := hK.sub (tys' := []) [] rfl
  have hFc := va_free (wc := [(h0, .inr (9, [.ref w, .ref d, .ref co, .ref un, .ref ma, .ref tm, .int 0, .int 0, .int 0]))]) hD hS hA [0] rfl
  refine vx_callq (vx_runV (As := [.int p0]) (rest := []) ⟨hx, hb, hml, hown, hts⟩ (kX6_circuitAt l hfl dC dI h0 w d co un ma tm p0 s.heap.size) (cwV 1 hts gX6_netOf_X6_circuitAt rfl rfl rfl (by decide +kernel) ⟨Nat.le_of_ble_eq_true rfl, Nat.le_of_ble_eq_true rfl⟩) (fPreV hN hZ hS (fun q h => hFc q h) hPc hKc hDc (ci := 9) (q0 := 0) rfl rfl) rfl rfl hl.1 rfl (lv_room (Nat.le_of_ble_eq_true rfl)) dX6_netOf_2 ⟨Nat.le_of_ble_eq_true rfl, Nat.le_of_ble_eq_true rfl⟩) hS (fun q _ h => hFc q h) hFc (fun q _ h => hFc q h) (fun E ce q9 u t H locs ht hvm hpx hE hz1 hk1 hS hq9 hv9 hc9 => ?_) (fun r u t H1 locs ht hvm hw hB hz1 hk1 hS => ?_)
  · skip
    exact thr E ce q9 _ _ _ _ _ _ _ (Or.inl (⟨hE.1, hE.2⟩)) hq9 hv9 hc9 hS (Nat.le_of_ble_eq_true rfl) (Nat.le_of_ble_eq_true rfl)
  · skip
    obtain ⟨hP1, hK1, hD1⟩ := hB
    rw [ht] at hP1
    have hK1 := va_K.moved hvm.symm hK1
    obtain ⟨hP, hD⟩ := va_join (wr := [(w, .inr (3, [.int 0, .int 0, .ref wL, .ref wP, .ref wS])), (d, .inr (3, [.int 0, .int 0, .ref dL, .ref dP, .ref dS]))]) (w1 := [(h0, .inr (9, [.ref w, .ref d, .ref co, .ref un, .ref ma, .ref tm, .int 0, .int 0, .int 0]))]) hP hD [0] [1, 2] rfl rfl (by decide) (by decide) hk1 hFc hP1 hD1
    generalize H1 = H at hP hS ⊢
    have hP : va_P (dC, dI) vwCl [(w, .inr (3, [.int 0, .int 0, .ref wL, .ref wP, .ref wS])), (d, .inr (3, [.int 0, .int 0, .ref dL, .ref dP, .ref dS])), (h0, .inr (9, [.ref w, .ref d, .ref co, .ref un, .ref ma, .ref tm, .int 0, .int 0, .int 0]))] _ := hP
    have hD : va_D A [(w, .inr (3, [.int 0, .int 0, .ref wL, .ref wP, .ref wS])), (d, .inr (3, [.int 0, .int 0, .ref dL, .ref dP, .ref dS])), (h0, .inr (9, [.ref w, .ref d, .ref co, .ref un, .ref ma, .ref tm, .int 0, .int 0, .int 0]))] := hD
    refine W.widen (k := 1) (n := 6) (Nat.le_of_ble_eq_true rfl) (Nat.le_of_ble_eq_true rfl) ?_
    rcases hw with ⟨hc0, rfl⟩ | ⟨hc1, rfl⟩
    · skip
      refine W.eq (g2 := F0 m 5 ls [.ref w]) rfl ?_
      refine lv_astore (lv' := [(4, .ref w), (0, .ref h0), (1, .int p0), (2, .int p1), (3, .int p2)]) hx hb dX6_netOf_5 hl (Nat.le_of_ble_eq_true rfl) rfl (fun ls hl => ?_)
      refine lv_aload hx hb dX6_netOf_7 (lv_at hl 0 rfl) ?_
      refine lv_iload_n hx hb dX6_netOf_9 rfl (lv_at hl 3 rfl) ?_
      have hPc := hP.sub (ws' := [(w, .inr (3, [.int 0, .int 0, .ref wL, .ref wP, .ref wS]))]) [0] rfl
      have hDc := hD.sub (ws' := [(w, .inr (3, [.int 0, .int 0, .ref wL, .ref wP, .ref wS]))]) [0] (by decide) rfl
      have hKc := hK.sub (tys' := []) [] rfl
      have hFc := va_free (wc := [(w, .inr (3, [.int 0, .int 0, .ref wL, .ref wP, .ref wS]))]) hD hS hA [0] rfl
      refine vx_callv (vx_runS (As := [.ref w, .int p1]) (rest := []) ⟨hx, hb, hml, hown, hts⟩ (kX6_requirePart l hfl dC dI w wL wP wS p1 H.size) (va_cwS 2 hts gX6_netOf_X6_requirePart rfl rfl rfl (by decide +kernel) ⟨Nat.le_of_ble_eq_true rfl, Nat.le_of_ble_eq_true rfl⟩) (fPreS hN hZ hS (fun q h => hFc q h) hPc hKc hDc) rfl rfl hl.1 rfl (lv_room (Nat.le_of_ble_eq_true rfl)) dX6_netOf_10 ⟨Nat.le_of_ble_eq_true rfl, Nat.le_of_ble_eq_true rfl⟩) hS (fun q _ h => hFc q h) hFc (fun q _ h => hFc q h) (fun E ce q9 u t H locs ht hvm hpx hE hz1 hk1 hS hq9 hv9 hc9 => ?_) (fun u t H1 locs ht hvm hw hB hz1 hk1 hS => ?_)
      · skip
        exact thr E ce q9 _ _ _ _ _ _ _ (Or.inr (⟨hE, (fun h9 => h9 (Or.inl (hc0)))⟩)) hq9 hv9 hc9 hS (Nat.le_of_ble_eq_true rfl) (Nat.le_of_ble_eq_true rfl)
      · skip
        exact hw.elim
    · skip
      refine W.eq (g2 := F0 m 5 ls [.ref d]) rfl ?_
      refine lv_astore (lv' := [(4, .ref d), (0, .ref h0), (1, .int p0), (2, .int p1), (3, .int p2)]) hx hb dX6_netOf_5 hl (Nat.le_of_ble_eq_true rfl) rfl (fun ls hl => ?_)
      refine lv_aload hx hb dX6_netOf_7 (lv_at hl 0 rfl) ?_
      refine lv_iload_n hx hb dX6_netOf_9 rfl (lv_at hl 3 rfl) ?_
      have hPc := hP.sub (ws' := [(d, .inr (3, [.int 0, .int 0, .ref dL, .ref dP, .ref dS]))]) [1] rfl
      have hDc := hD.sub (ws' := [(d, .inr (3, [.int 0, .int 0, .ref dL, .ref dP, .ref dS]))]) [1] (by decide) rfl
      have hKc := hK.sub (tys' := []) [] rfl
      have hFc := va_free (wc := [(d, .inr (3, [.int 0, .int 0, .ref dL, .ref dP, .ref dS]))]) hD hS hA [1] rfl
      refine vx_callv (vx_runS (As := [.ref d, .int p1]) (rest := []) ⟨hx, hb, hml, hown, hts⟩ (kX6_requirePart l hfl dC dI d dL dP dS p1 H.size) (va_cwS 2 hts gX6_netOf_X6_requirePart rfl rfl rfl (by decide +kernel) ⟨Nat.le_of_ble_eq_true rfl, Nat.le_of_ble_eq_true rfl⟩) (fPreS hN hZ hS (fun q h => hFc q h) hPc hKc hDc) rfl rfl hl.1 rfl (lv_room (Nat.le_of_ble_eq_true rfl)) dX6_netOf_10 ⟨Nat.le_of_ble_eq_true rfl, Nat.le_of_ble_eq_true rfl⟩) hS (fun q _ h => hFc q h) hFc (fun q _ h => hFc q h) (fun E ce q9 u t H locs ht hvm hpx hE hz1 hk1 hS hq9 hv9 hc9 => ?_) (fun u t H1 locs ht hvm hw hB hz1 hk1 hS => ?_)
      · skip
        exact thr E ce q9 _ _ _ _ _ _ _ (Or.inr (⟨hE, (fun h9 => h9 (Or.inr (hc1)))⟩)) hq9 hv9 hc9 hS (Nat.le_of_ble_eq_true rfl) (Nat.le_of_ble_eq_true rfl)
      · skip
        exact hw.elim

set_option maxHeartbeats 4000000 in
set_option maxRecDepth 100000 in
/-- pinsOn on a fresh object -/
theorem kX6_pinsOn (l : Launch) (hfl : l.stackTraces = false) (dC : Nat → ClassId) (dI : Nat → Nat → Nat) (h0 w d co un ma tm : Nat) (wL wP wS dL dP dS : Nat) (p0 p1 : Int32) (sz : Nat) : fXi l yX6_pinsOn wsX6_pinsOn ({ frames := 8, cells := 2, slots := 12, locals := 123 } : Room) dC dI [.ref h0, .int p0, .int p1] [(h0, .inr (9, [.ref w, .ref d, .ref co, .ref un, .ref ma, .ref tm, .int 0, .int 0, .int 0])), (w, .inr (3, [.int 0, .int 0, .ref wL, .ref wP, .ref wS])), (d, .inr (3, [.int 0, .int 0, .ref dL, .ref dP, .ref dS]))] [] sz (fun E : String => E = "java/lang/IllegalArgumentException" ∧ (¬ ((p0 = 0) ∨ (p0 = 1))) ∨ E = "java/util/NoSuchElementException" ∧ (¬ (¬ ((p0 = 0) ∨ (p0 = 1))))) (fun (r : Int32) (u : Unit) => False) (fun u => []) (fun u => []) := by
  refine oX_i hfl (y := yX6_pinsOn) (cc := cX6_pinsOn) (maxL := 4) (by decide) rfl (Nat.le_of_ble_eq_true rfl) ?_
  intro p e s m args below meth c ls A Q hx hb hr hml hown hts hN hZ hA hin hlk hP hK hD hl ret thr thn
  have hS : va_S A s.heap s.heap [] := va_S.rf
  have hl : lv_has ls 4 [(0, .ref h0), (1, .int p0), (2, .int p1)] := hl
  have hP : va_P (dC, dI) vwCl [(h0, .inr (9, [.ref w, .ref d, .ref co, .ref un, .ref ma, .ref tm, .int 0, .int 0, .int 0])), (w, .inr (3, [.int 0, .int 0, .ref wL, .ref wP, .ref wS])), (d, .inr (3, [.int 0, .int 0, .ref dL, .ref dP, .ref dS]))] _ := hP
  have hD : va_D A [(h0, .inr (9, [.ref w, .ref d, .ref co, .ref un, .ref ma, .ref tm, .int 0, .int 0, .int 0])), (w, .inr (3, [.int 0, .int 0, .ref wL, .ref wP, .ref wS])), (d, .inr (3, [.int 0, .int 0, .ref dL, .ref dP, .ref dS]))] := hD
  refine lv_aload_n hx hb dX6_pinsOn_0 rfl (lv_at hl 0 rfl) ?_
  refine lv_iload_n hx hb dX6_pinsOn_1 rfl (lv_at hl 1 rfl) ?_
  have hPc := hP.sub (ws' := [(h0, .inr (9, [.ref w, .ref d, .ref co, .ref un, .ref ma, .ref tm, .int 0, .int 0, .int 0]))]) [0] rfl
  have hDc := hD.sub (ws' := [(h0, .inr (9, [.ref w, .ref d, .ref co, .ref un, .ref ma, .ref tm, .int 0, .int 0, .int 0]))]) [0] (by decide) rfl
  have hKc := hK.sub (tys' := []) [] rfl
  have hFc := va_free (wc := [(h0, .inr (9, [.ref w, .ref d, .ref co, .ref un, .ref ma, .ref tm, .int 0, .int 0, .int 0]))]) hD hS hA [0] rfl
  refine vx_callq (vx_runV (As := [.int p0]) (rest := []) ⟨hx, hb, hml, hown, hts⟩ (kX6_circuitAt l hfl dC dI h0 w d co un ma tm p0 s.heap.size) (cwV 1 hts gX6_pinsOn_X6_circuitAt rfl rfl rfl (by decide +kernel) ⟨Nat.le_of_ble_eq_true rfl, Nat.le_of_ble_eq_true rfl⟩) (fPreV hN hZ hS (fun q h => hFc q h) hPc hKc hDc (ci := 9) (q0 := 0) rfl rfl) rfl rfl hl.1 rfl (lv_room (Nat.le_of_ble_eq_true rfl)) dX6_pinsOn_2 ⟨Nat.le_of_ble_eq_true rfl, Nat.le_of_ble_eq_true rfl⟩) hS (fun q _ h => hFc q h) hFc (fun q _ h => hFc q h) (fun E ce q9 u t H locs ht hvm hpx hE hz1 hk1 hS hq9 hv9 hc9 => ?_) (fun r u t H1 locs ht hvm hw hB hz1 hk1 hS => ?_)
  · skip
    exact thr E ce q9 _ _ _ _ _ _ _ (Or.inl (⟨hE.1, hE.2⟩)) hq9 hv9 hc9 hS (Nat.le_of_ble_eq_true rfl) (Nat.le_of_ble_eq_true rfl)
  · skip
    obtain ⟨hP1, hK1, hD1⟩ := hB
    rw [ht] at hP1
    have hK1 := va_K.moved hvm.symm hK1
    obtain ⟨hP, hD⟩ := va_join (wr := [(w, .inr (3, [.int 0, .int 0, .ref wL, .ref wP, .ref wS])), (d, .inr (3, [.int 0, .int 0, .ref dL, .ref dP, .ref dS]))]) (w1 := [(h0, .inr (9, [.ref w, .ref d, .ref co, .ref un, .ref ma, .ref tm, .int 0, .int 0, .int 0]))]) hP hD [0] [1, 2] rfl rfl (by decide) (by decide) hk1 hFc hP1 hD1
    generalize H1 = H at hP hS ⊢
    have hP : va_P (dC, dI) vwCl [(w, .inr (3, [.int 0, .int 0, .ref wL, .ref wP, .ref wS])), (d, .inr (3, [.int 0, .int 0, .ref dL, .ref dP, .ref dS])), (h0, .inr (9, [.ref w, .ref d, .ref co, .ref un, .ref ma, .ref tm, .int 0, .int 0, .int 0]))] _ := hP
    have hD : va_D A [(w, .inr (3, [.int 0, .int 0, .ref wL, .ref wP, .ref wS])), (d, .inr (3, [.int 0, .int 0, .ref dL, .ref dP, .ref dS])), (h0, .inr (9, [.ref w, .ref d, .ref co, .ref un, .ref ma, .ref tm, .int 0, .int 0, .int 0]))] := hD
    refine W.widen (k := 1) (n := 6) (Nat.le_of_ble_eq_true rfl) (Nat.le_of_ble_eq_true rfl) ?_
    rcases hw with ⟨hc0, rfl⟩ | ⟨hc1, rfl⟩
    · skip
      refine W.eq (g2 := F0 m 5 ls [.ref w]) rfl ?_
      refine lv_astore_n (lv' := [(3, .ref w), (0, .ref h0), (1, .int p0), (2, .int p1)]) hx hb dX6_pinsOn_5 rfl hl (Nat.le_of_ble_eq_true rfl) rfl (fun ls hl => ?_)
      refine lv_aload_n hx hb dX6_pinsOn_6 rfl (lv_at hl 0 rfl) ?_
      refine lv_iload_n hx hb dX6_pinsOn_7 rfl (lv_at hl 3 rfl) ?_
      have hPc := hP.sub (ws' := [(w, .inr (3, [.int 0, .int 0, .ref wL, .ref wP, .ref wS]))]) [0] rfl
      have hDc := hD.sub (ws' := [(w, .inr (3, [.int 0, .int 0, .ref wL, .ref wP, .ref wS]))]) [0] (by decide) rfl
      have hKc := hK.sub (tys' := []) [] rfl
      have hFc := va_free (wc := [(w, .inr (3, [.int 0, .int 0, .ref wL, .ref wP, .ref wS]))]) hD hS hA [0] rfl
      refine vx_callv (vx_runS (As := [.ref w, .int p1]) (rest := []) ⟨hx, hb, hml, hown, hts⟩ (kX6_requireNet l hfl dC dI w wL wP wS p1 H.size) (va_cwS 2 hts gX6_pinsOn_X6_requireNet rfl rfl rfl (by decide +kernel) ⟨Nat.le_of_ble_eq_true rfl, Nat.le_of_ble_eq_true rfl⟩) (fPreS hN hZ hS (fun q h => hFc q h) hPc hKc hDc) rfl rfl hl.1 rfl (lv_room (Nat.le_of_ble_eq_true rfl)) dX6_pinsOn_8 ⟨Nat.le_of_ble_eq_true rfl, Nat.le_of_ble_eq_true rfl⟩) hS (fun q _ h => hFc q h) hFc (fun q _ h => hFc q h) (fun E ce q9 u t H locs ht hvm hpx hE hz1 hk1 hS hq9 hv9 hc9 => ?_) (fun u t H1 locs ht hvm hw hB hz1 hk1 hS => ?_)
      · skip
        exact thr E ce q9 _ _ _ _ _ _ _ (Or.inr (⟨hE, (fun h9 => h9 (Or.inl (hc0)))⟩)) hq9 hv9 hc9 hS (Nat.le_of_ble_eq_true rfl) (Nat.le_of_ble_eq_true rfl)
      · skip
        exact hw.elim
    · skip
      refine W.eq (g2 := F0 m 5 ls [.ref d]) rfl ?_
      refine lv_astore_n (lv' := [(3, .ref d), (0, .ref h0), (1, .int p0), (2, .int p1)]) hx hb dX6_pinsOn_5 rfl hl (Nat.le_of_ble_eq_true rfl) rfl (fun ls hl => ?_)
      refine lv_aload_n hx hb dX6_pinsOn_6 rfl (lv_at hl 0 rfl) ?_
      refine lv_iload_n hx hb dX6_pinsOn_7 rfl (lv_at hl 3 rfl) ?_
      have hPc := hP.sub (ws' := [(d, .inr (3, [.int 0, .int 0, .ref dL, .ref dP, .ref dS]))]) [1] rfl
      have hDc := hD.sub (ws' := [(d, .inr (3, [.int 0, .int 0, .ref dL, .ref dP, .ref dS]))]) [1] (by decide) rfl
      have hKc := hK.sub (tys' := []) [] rfl
      have hFc := va_free (wc := [(d, .inr (3, [.int 0, .int 0, .ref dL, .ref dP, .ref dS]))]) hD hS hA [1] rfl
      refine vx_callv (vx_runS (As := [.ref d, .int p1]) (rest := []) ⟨hx, hb, hml, hown, hts⟩ (kX6_requireNet l hfl dC dI d dL dP dS p1 H.size) (va_cwS 2 hts gX6_pinsOn_X6_requireNet rfl rfl rfl (by decide +kernel) ⟨Nat.le_of_ble_eq_true rfl, Nat.le_of_ble_eq_true rfl⟩) (fPreS hN hZ hS (fun q h => hFc q h) hPc hKc hDc) rfl rfl hl.1 rfl (lv_room (Nat.le_of_ble_eq_true rfl)) dX6_pinsOn_8 ⟨Nat.le_of_ble_eq_true rfl, Nat.le_of_ble_eq_true rfl⟩) hS (fun q _ h => hFc q h) hFc (fun q _ h => hFc q h) (fun E ce q9 u t H locs ht hvm hpx hE hz1 hk1 hS hq9 hv9 hc9 => ?_) (fun u t H1 locs ht hvm hw hB hz1 hk1 hS => ?_)
      · skip
        exact thr E ce q9 _ _ _ _ _ _ _ (Or.inr (⟨hE, (fun h9 => h9 (Or.inr (hc1)))⟩)) hq9 hv9 hc9 hS (Nat.le_of_ble_eq_true rfl) (Nat.le_of_ble_eq_true rfl)
      · skip
        exact hw.elim

set_option maxHeartbeats 4000000 in
set_option maxRecDepth 100000 in
/-- distance on a fresh object -/
theorem kX6_distance (l : Launch) (hfl : l.stackTraces = false) (dC : Nat → ClassId) (dI : Nat → Nat → Nat) (h0 w d co un ma tm : Nat) (wL wP wS dL dP dS : Nat) (p0 p1 : Int32) (sz : Nat) : fXi l yX6_distance wsX6_distance ({ frames := 8, cells := 2, slots := 12, locals := 123 } : Room) dC dI [.ref h0, .int p0, .int p1] [(h0, .inr (9, [.ref w, .ref d, .ref co, .ref un, .ref ma, .ref tm, .int 0, .int 0, .int 0])), (w, .inr (3, [.int 0, .int 0, .ref wL, .ref wP, .ref wS])), (d, .inr (3, [.int 0, .int 0, .ref dL, .ref dP, .ref dS]))] [] sz (fun E : String => E = "java/lang/IllegalArgumentException" ∧ (¬ ((p0 = 0) ∨ (p0 = 1))) ∨ E = "java/util/NoSuchElementException" ∧ (¬ (¬ ((p0 = 0) ∨ (p0 = 1))))) (fun (r : Int32) (u : Unit) => False) (fun u => []) (fun u => []) := by
  refine oX_i hfl (y := yX6_distance) (cc := cX6_distance) (maxL := 4) (by decide) rfl (Nat.le_of_ble_eq_true rfl) ?_
  intro p e s m args below meth c ls A Q hx hb hr hml hown hts hN hZ hA hin hlk hP hK hD hl ret thr thn
  have hS : va_S A s.heap s.heap [] := va_S.rf
  have hl : lv_has ls 4 [(0, .ref h0), (1, .int p0), (2, .int p1)] := hl
  have hP : va_P (dC, dI) vwCl [(h0, .inr (9, [.ref w, .ref d, .ref co, .ref un, .ref ma, .ref tm, .int 0, .int 0, .int 0])), (w, .inr (3, [.int 0, .int 0, .ref wL, .ref wP, .ref wS])), (d, .inr (3, [.int 0, .int 0, .ref dL, .ref dP, .ref dS]))] _ := hP
  have hD : va_D A [(h0, .inr (9, [.ref w, .ref d, .ref co, .ref un, .ref ma, .ref tm, .int 0, .int 0, .int 0])), (w, .inr (3, [.int 0, .int 0, .ref wL, .ref wP, .ref wS])), (d, .inr (3, [.int 0, .int 0, .ref dL, .ref dP, .ref dS]))] := hD
  refine lv_aload_n hx hb dX6_distance_0 rfl (lv_at hl 0 rfl) ?_
  refine lv_iload_n hx hb dX6_distance_1 rfl (lv_at hl 1 rfl) ?_
  have hPc := hP.sub (ws' := [(h0, .inr (9, [.ref w, .ref d, .ref co, .ref un, .ref ma, .ref tm, .int 0, .int 0, .int 0]))]) [0] rfl
  have hDc := hD.sub (ws' := [(h0, .inr (9, [.ref w, .ref d, .ref co, .ref un, .ref ma, .ref tm, .int 0, .int 0, .int 0]))]) [0] (by decide) rfl
  have hKc := hK.sub (tys' := []) [] rfl
  have hFc := va_free (wc := [(h0, .inr (9, [.ref w, .ref d, .ref co, .ref un, .ref ma, .ref tm, .int 0, .int 0, .int 0]))]) hD hS hA [0] rfl
  refine vx_callq (vx_runV (As := [.int p0]) (rest := []) ⟨hx, hb, hml, hown, hts⟩ (kX6_circuitAt l hfl dC dI h0 w d co un ma tm p0 s.heap.size) (cwV 1 hts gX6_distance_X6_circuitAt rfl rfl rfl (by decide +kernel) ⟨Nat.le_of_ble_eq_true rfl, Nat.le_of_ble_eq_true rfl⟩) (fPreV hN hZ hS (fun q h => hFc q h) hPc hKc hDc (ci := 9) (q0 := 0) rfl rfl) rfl rfl hl.1 rfl (lv_room (Nat.le_of_ble_eq_true rfl)) dX6_distance_2 ⟨Nat.le_of_ble_eq_true rfl, Nat.le_of_ble_eq_true rfl⟩) hS (fun q _ h => hFc q h) hFc (fun q _ h => hFc q h) (fun E ce q9 u t H locs ht hvm hpx hE hz1 hk1 hS hq9 hv9 hc9 => ?_) (fun r u t H1 locs ht hvm hw hB hz1 hk1 hS => ?_)
  · skip
    exact thr E ce q9 _ _ _ _ _ _ _ (Or.inl (⟨hE.1, hE.2⟩)) hq9 hv9 hc9 hS (Nat.le_of_ble_eq_true rfl) (Nat.le_of_ble_eq_true rfl)
  · skip
    obtain ⟨hP1, hK1, hD1⟩ := hB
    rw [ht] at hP1
    have hK1 := va_K.moved hvm.symm hK1
    obtain ⟨hP, hD⟩ := va_join (wr := [(w, .inr (3, [.int 0, .int 0, .ref wL, .ref wP, .ref wS])), (d, .inr (3, [.int 0, .int 0, .ref dL, .ref dP, .ref dS]))]) (w1 := [(h0, .inr (9, [.ref w, .ref d, .ref co, .ref un, .ref ma, .ref tm, .int 0, .int 0, .int 0]))]) hP hD [0] [1, 2] rfl rfl (by decide) (by decide) hk1 hFc hP1 hD1
    generalize H1 = H at hP hS ⊢
    have hP : va_P (dC, dI) vwCl [(w, .inr (3, [.int 0, .int 0, .ref wL, .ref wP, .ref wS])), (d, .inr (3, [.int 0, .int 0, .ref dL, .ref dP, .ref dS])), (h0, .inr (9, [.ref w, .ref d, .ref co, .ref un, .ref ma, .ref tm, .int 0, .int 0, .int 0]))] _ := hP
    have hD : va_D A [(w, .inr (3, [.int 0, .int 0, .ref wL, .ref wP, .ref wS])), (d, .inr (3, [.int 0, .int 0, .ref dL, .ref dP, .ref dS])), (h0, .inr (9, [.ref w, .ref d, .ref co, .ref un, .ref ma, .ref tm, .int 0, .int 0, .int 0]))] := hD
    refine W.widen (k := 1) (n := 6) (Nat.le_of_ble_eq_true rfl) (Nat.le_of_ble_eq_true rfl) ?_
    rcases hw with ⟨hc0, rfl⟩ | ⟨hc1, rfl⟩
    · skip
      refine W.eq (g2 := F0 m 5 ls [.ref w]) rfl ?_
      refine lv_astore_n (lv' := [(3, .ref w), (0, .ref h0), (1, .int p0), (2, .int p1)]) hx hb dX6_distance_5 rfl hl (Nat.le_of_ble_eq_true rfl) rfl (fun ls hl => ?_)
      refine lv_aload_n hx hb dX6_distance_6 rfl (lv_at hl 0 rfl) ?_
      refine lv_iload_n hx hb dX6_distance_7 rfl (lv_at hl 3 rfl) ?_
      have hPc := hP.sub (ws' := [(w, .inr (3, [.int 0, .int 0, .ref wL, .ref wP, .ref wS]))]) [0] rfl
      have hDc := hD.sub (ws' := [(w, .inr (3, [.int 0, .int 0, .ref wL, .ref wP, .ref wS]))]) [0] (by decide) rfl
      have hKc := hK.sub (tys' := []) [] rfl
      have hFc := va_free (wc := [(w, .inr (3, [.int 0, .int 0, .ref wL, .ref wP, .ref wS]))]) hD hS hA [0] rfl
      refine vx_callv (vx_runS (As := [.ref w, .int p1]) (rest := []) ⟨hx, hb, hml, hown, hts⟩ (kX6_requireNet l hfl dC dI w wL wP wS p1 H.size) (va_cwS 2 hts gX6_distance_X6_requireNet rfl rfl rfl (by decide +kernel) ⟨Nat.le_of_ble_eq_true rfl, Nat.le_of_ble_eq_true rfl⟩) (fPreS hN hZ hS (fun q h => hFc q h) hPc hKc hDc) rfl rfl hl.1 rfl (lv_room (Nat.le_of_ble_eq_true rfl)) dX6_distance_8 ⟨Nat.le_of_ble_eq_true rfl, Nat.le_of_ble_eq_true rfl⟩) hS (fun q _ h => hFc q h) hFc (fun q _ h => hFc q h) (fun E ce q9 u t H locs ht hvm hpx hE hz1 hk1 hS hq9 hv9 hc9 => ?_) (fun u t H1 locs ht hvm hw hB hz1 hk1 hS => ?_)
      · skip
        exact thr E ce q9 _ _ _ _ _ _ _ (Or.inr (⟨hE, (fun h9 => h9 (Or.inl (hc0)))⟩)) hq9 hv9 hc9 hS (Nat.le_of_ble_eq_true rfl) (Nat.le_of_ble_eq_true rfl)
      · skip
        exact hw.elim
    · skip
      refine W.eq (g2 := F0 m 5 ls [.ref d]) rfl ?_
      refine lv_astore_n (lv' := [(3, .ref d), (0, .ref h0), (1, .int p0), (2, .int p1)]) hx hb dX6_distance_5 rfl hl (Nat.le_of_ble_eq_true rfl) rfl (fun ls hl => ?_)
      refine lv_aload_n hx hb dX6_distance_6 rfl (lv_at hl 0 rfl) ?_
      refine lv_iload_n hx hb dX6_distance_7 rfl (lv_at hl 3 rfl) ?_
      have hPc := hP.sub (ws' := [(d, .inr (3, [.int 0, .int 0, .ref dL, .ref dP, .ref dS]))]) [1] rfl
      have hDc := hD.sub (ws' := [(d, .inr (3, [.int 0, .int 0, .ref dL, .ref dP, .ref dS]))]) [1] (by decide) rfl
      have hKc := hK.sub (tys' := []) [] rfl
      have hFc := va_free (wc := [(d, .inr (3, [.int 0, .int 0, .ref dL, .ref dP, .ref dS]))]) hD hS hA [1] rfl
      refine vx_callv (vx_runS (As := [.ref d, .int p1]) (rest := []) ⟨hx, hb, hml, hown, hts⟩ (kX6_requireNet l hfl dC dI d dL dP dS p1 H.size) (va_cwS 2 hts gX6_distance_X6_requireNet rfl rfl rfl (by decide +kernel) ⟨Nat.le_of_ble_eq_true rfl, Nat.le_of_ble_eq_true rfl⟩) (fPreS hN hZ hS (fun q h => hFc q h) hPc hKc hDc) rfl rfl hl.1 rfl (lv_room (Nat.le_of_ble_eq_true rfl)) dX6_distance_8 ⟨Nat.le_of_ble_eq_true rfl, Nat.le_of_ble_eq_true rfl⟩) hS (fun q _ h => hFc q h) hFc (fun q _ h => hFc q h) (fun E ce q9 u t H locs ht hvm hpx hE hz1 hk1 hS hq9 hv9 hc9 => ?_) (fun u t H1 locs ht hvm hw hB hz1 hk1 hS => ?_)
      · skip
        exact thr E ce q9 _ _ _ _ _ _ _ (Or.inr (⟨hE, (fun h9 => h9 (Or.inr (hc1)))⟩)) hq9 hv9 hc9 hS (Nat.le_of_ble_eq_true rfl) (Nat.le_of_ble_eq_true rfl)
      · skip
        exact hw.elim

set_option maxHeartbeats 4000000 in
set_option maxRecDepth 100000 in
/-- labelLength on a fresh object -/
theorem kX6_labelLength (l : Launch) (hfl : l.stackTraces = false) (dC : Nat → ClassId) (dI : Nat → Nat → Nat) (h0 w d co un ma tm : Nat) (wL wP wS dL dP dS : Nat) (p0 p1 : Int32) (sz : Nat) : fXi l yX6_labelLength wsX6_labelLength ({ frames := 8, cells := 2, slots := 12, locals := 123 } : Room) dC dI [.ref h0, .int p0, .int p1] [(h0, .inr (9, [.ref w, .ref d, .ref co, .ref un, .ref ma, .ref tm, .int 0, .int 0, .int 0])), (w, .inr (3, [.int 0, .int 0, .ref wL, .ref wP, .ref wS])), (d, .inr (3, [.int 0, .int 0, .ref dL, .ref dP, .ref dS]))] [] sz (fun E : String => E = "java/lang/IllegalArgumentException" ∧ (¬ ((p0 = 0) ∨ (p0 = 1))) ∨ E = "java/util/NoSuchElementException" ∧ (¬ (¬ ((p0 = 0) ∨ (p0 = 1))))) (fun (r : Int32) (u : Unit) => False) (fun u => []) (fun u => []) := by
  refine oX_i hfl (y := yX6_labelLength) (cc := cX6_labelLength) (maxL := 4) (by decide) rfl (Nat.le_of_ble_eq_true rfl) ?_
  intro p e s m args below meth c ls A Q hx hb hr hml hown hts hN hZ hA hin hlk hP hK hD hl ret thr thn
  have hS : va_S A s.heap s.heap [] := va_S.rf
  have hl : lv_has ls 4 [(0, .ref h0), (1, .int p0), (2, .int p1)] := hl
  have hP : va_P (dC, dI) vwCl [(h0, .inr (9, [.ref w, .ref d, .ref co, .ref un, .ref ma, .ref tm, .int 0, .int 0, .int 0])), (w, .inr (3, [.int 0, .int 0, .ref wL, .ref wP, .ref wS])), (d, .inr (3, [.int 0, .int 0, .ref dL, .ref dP, .ref dS]))] _ := hP
  have hD : va_D A [(h0, .inr (9, [.ref w, .ref d, .ref co, .ref un, .ref ma, .ref tm, .int 0, .int 0, .int 0])), (w, .inr (3, [.int 0, .int 0, .ref wL, .ref wP, .ref wS])), (d, .inr (3, [.int 0, .int 0, .ref dL, .ref dP, .ref dS]))] := hD
  refine lv_aload_n hx hb dX6_labelLength_0 rfl (lv_at hl 0 rfl) ?_
  refine lv_iload_n hx hb dX6_labelLength_1 rfl (lv_at hl 1 rfl) ?_
  have hPc := hP.sub (ws' := [(h0, .inr (9, [.ref w, .ref d, .ref co, .ref un, .ref ma, .ref tm, .int 0, .int 0, .int 0]))]) [0] rfl
  have hDc := hD.sub (ws' := [(h0, .inr (9, [.ref w, .ref d, .ref co, .ref un, .ref ma, .ref tm, .int 0, .int 0, .int 0]))]) [0] (by decide) rfl
  have hKc := hK.sub (tys' := []) [] rfl
  have hFc := va_free (wc := [(h0, .inr (9, [.ref w, .ref d, .ref co, .ref un, .ref ma, .ref tm, .int 0, .int 0, .int 0]))]) hD hS hA [0] rfl
  refine vx_callq (vx_runV (As := [.int p0]) (rest := []) ⟨hx, hb, hml, hown, hts⟩ (kX6_circuitAt l hfl dC dI h0 w d co un ma tm p0 s.heap.size) (cwV 1 hts gX6_labelLength_X6_circuitAt rfl rfl rfl (by decide +kernel) ⟨Nat.le_of_ble_eq_true rfl, Nat.le_of_ble_eq_true rfl⟩) (fPreV hN hZ hS (fun q h => hFc q h) hPc hKc hDc (ci := 9) (q0 := 0) rfl rfl) rfl rfl hl.1 rfl (lv_room (Nat.le_of_ble_eq_true rfl)) dX6_labelLength_2 ⟨Nat.le_of_ble_eq_true rfl, Nat.le_of_ble_eq_true rfl⟩) hS (fun q _ h => hFc q h) hFc (fun q _ h => hFc q h) (fun E ce q9 u t H locs ht hvm hpx hE hz1 hk1 hS hq9 hv9 hc9 => ?_) (fun r u t H1 locs ht hvm hw hB hz1 hk1 hS => ?_)
  · skip
    exact thr E ce q9 _ _ _ _ _ _ _ (Or.inl (⟨hE.1, hE.2⟩)) hq9 hv9 hc9 hS (Nat.le_of_ble_eq_true rfl) (Nat.le_of_ble_eq_true rfl)
  · skip
    obtain ⟨hP1, hK1, hD1⟩ := hB
    rw [ht] at hP1
    have hK1 := va_K.moved hvm.symm hK1
    obtain ⟨hP, hD⟩ := va_join (wr := [(w, .inr (3, [.int 0, .int 0, .ref wL, .ref wP, .ref wS])), (d, .inr (3, [.int 0, .int 0, .ref dL, .ref dP, .ref dS]))]) (w1 := [(h0, .inr (9, [.ref w, .ref d, .ref co, .ref un, .ref ma, .ref tm, .int 0, .int 0, .int 0]))]) hP hD [0] [1, 2] rfl rfl (by decide) (by decide) hk1 hFc hP1 hD1
    generalize H1 = H at hP hS ⊢
    have hP : va_P (dC, dI) vwCl [(w, .inr (3, [.int 0, .int 0, .ref wL, .ref wP, .ref wS])), (d, .inr (3, [.int 0, .int 0, .ref dL, .ref dP, .ref dS])), (h0, .inr (9, [.ref w, .ref d, .ref co, .ref un, .ref ma, .ref tm, .int 0, .int 0, .int 0]))] _ := hP
    have hD : va_D A [(w, .inr (3, [.int 0, .int 0, .ref wL, .ref wP, .ref wS])), (d, .inr (3, [.int 0, .int 0, .ref dL, .ref dP, .ref dS])), (h0, .inr (9, [.ref w, .ref d, .ref co, .ref un, .ref ma, .ref tm, .int 0, .int 0, .int 0]))] := hD
    refine W.widen (k := 1) (n := 6) (Nat.le_of_ble_eq_true rfl) (Nat.le_of_ble_eq_true rfl) ?_
    rcases hw with ⟨hc0, rfl⟩ | ⟨hc1, rfl⟩
    · skip
      refine W.eq (g2 := F0 m 5 ls [.ref w]) rfl ?_
      refine lv_astore_n (lv' := [(3, .ref w), (0, .ref h0), (1, .int p0), (2, .int p1)]) hx hb dX6_labelLength_5 rfl hl (Nat.le_of_ble_eq_true rfl) rfl (fun ls hl => ?_)
      refine lv_aload_n hx hb dX6_labelLength_6 rfl (lv_at hl 0 rfl) ?_
      refine lv_iload_n hx hb dX6_labelLength_7 rfl (lv_at hl 3 rfl) ?_
      have hPc := hP.sub (ws' := [(w, .inr (3, [.int 0, .int 0, .ref wL, .ref wP, .ref wS]))]) [0] rfl
      have hDc := hD.sub (ws' := [(w, .inr (3, [.int 0, .int 0, .ref wL, .ref wP, .ref wS]))]) [0] (by decide) rfl
      have hKc := hK.sub (tys' := []) [] rfl
      have hFc := va_free (wc := [(w, .inr (3, [.int 0, .int 0, .ref wL, .ref wP, .ref wS]))]) hD hS hA [0] rfl
      refine vx_callv (vx_runS (As := [.ref w, .int p1]) (rest := []) ⟨hx, hb, hml, hown, hts⟩ (kX6_requirePart l hfl dC dI w wL wP wS p1 H.size) (va_cwS 2 hts gX6_labelLength_X6_requirePart rfl rfl rfl (by decide +kernel) ⟨Nat.le_of_ble_eq_true rfl, Nat.le_of_ble_eq_true rfl⟩) (fPreS hN hZ hS (fun q h => hFc q h) hPc hKc hDc) rfl rfl hl.1 rfl (lv_room (Nat.le_of_ble_eq_true rfl)) dX6_labelLength_8 ⟨Nat.le_of_ble_eq_true rfl, Nat.le_of_ble_eq_true rfl⟩) hS (fun q _ h => hFc q h) hFc (fun q _ h => hFc q h) (fun E ce q9 u t H locs ht hvm hpx hE hz1 hk1 hS hq9 hv9 hc9 => ?_) (fun u t H1 locs ht hvm hw hB hz1 hk1 hS => ?_)
      · skip
        exact thr E ce q9 _ _ _ _ _ _ _ (Or.inr (⟨hE, (fun h9 => h9 (Or.inl (hc0)))⟩)) hq9 hv9 hc9 hS (Nat.le_of_ble_eq_true rfl) (Nat.le_of_ble_eq_true rfl)
      · skip
        exact hw.elim
    · skip
      refine W.eq (g2 := F0 m 5 ls [.ref d]) rfl ?_
      refine lv_astore_n (lv' := [(3, .ref d), (0, .ref h0), (1, .int p0), (2, .int p1)]) hx hb dX6_labelLength_5 rfl hl (Nat.le_of_ble_eq_true rfl) rfl (fun ls hl => ?_)
      refine lv_aload_n hx hb dX6_labelLength_6 rfl (lv_at hl 0 rfl) ?_
      refine lv_iload_n hx hb dX6_labelLength_7 rfl (lv_at hl 3 rfl) ?_
      have hPc := hP.sub (ws' := [(d, .inr (3, [.int 0, .int 0, .ref dL, .ref dP, .ref dS]))]) [1] rfl
      have hDc := hD.sub (ws' := [(d, .inr (3, [.int 0, .int 0, .ref dL, .ref dP, .ref dS]))]) [1] (by decide) rfl
      have hKc := hK.sub (tys' := []) [] rfl
      have hFc := va_free (wc := [(d, .inr (3, [.int 0, .int 0, .ref dL, .ref dP, .ref dS]))]) hD hS hA [1] rfl
      refine vx_callv (vx_runS (As := [.ref d, .int p1]) (rest := []) ⟨hx, hb, hml, hown, hts⟩ (kX6_requirePart l hfl dC dI d dL dP dS p1 H.size) (va_cwS 2 hts gX6_labelLength_X6_requirePart rfl rfl rfl (by decide +kernel) ⟨Nat.le_of_ble_eq_true rfl, Nat.le_of_ble_eq_true rfl⟩) (fPreS hN hZ hS (fun q h => hFc q h) hPc hKc hDc) rfl rfl hl.1 rfl (lv_room (Nat.le_of_ble_eq_true rfl)) dX6_labelLength_8 ⟨Nat.le_of_ble_eq_true rfl, Nat.le_of_ble_eq_true rfl⟩) hS (fun q _ h => hFc q h) hFc (fun q _ h => hFc q h) (fun E ce q9 u t H locs ht hvm hpx hE hz1 hk1 hS hq9 hv9 hc9 => ?_) (fun u t H1 locs ht hvm hw hB hz1 hk1 hS => ?_)
      · skip
        exact thr E ce q9 _ _ _ _ _ _ _ (Or.inr (⟨hE, (fun h9 => h9 (Or.inr (hc1)))⟩)) hq9 hv9 hc9 hS (Nat.le_of_ble_eq_true rfl) (Nat.le_of_ble_eq_true rfl)
      · skip
        exact hw.elim

set_option maxHeartbeats 4000000 in
set_option maxRecDepth 100000 in
/-- canJoin on a fresh object -/
theorem kX6_canJoin (l : Launch) (hfl : l.stackTraces = false) (dC : Nat → ClassId) (dI : Nat → Nat → Nat) (h0 w d co un ma tm : Nat) (wL wP wS dL dP dS : Nat) (p0 p1 p2 : Int32) (sz : Nat) : fXi l yX6_canJoin wsX6_canJoin ({ frames := 8, cells := 2, slots := 12, locals := 123 } : Room) dC dI [.ref h0, .int p0, .int p1, .int p2] [(h0, .inr (9, [.ref w, .ref d, .ref co, .ref un, .ref ma, .ref tm, .int 0, .int 0, .int 0])), (w, .inr (3, [.int 0, .int 0, .ref wL, .ref wP, .ref wS])), (d, .inr (3, [.int 0, .int 0, .ref dL, .ref dP, .ref dS]))] [] sz (fun E : String => E = "java/lang/IllegalArgumentException" ∧ (¬ ((p0 = 0) ∨ (p0 = 1))) ∨ E = "java/util/NoSuchElementException" ∧ (¬ (¬ ((p0 = 0) ∨ (p0 = 1))))) (fun (r : Int32) (u : Unit) => False) (fun u => []) (fun u => []) := by
  refine oX_z hfl (y := yX6_canJoin) (cc := cX6_canJoin) (maxL := 5) (by decide) rfl (Nat.le_of_ble_eq_true rfl) ?_
  intro p e s m args below meth c ls A Q hx hb hr hml hown hts hN hZ hA hin hlk hP hK hD hl ret thr thn
  have hS : va_S A s.heap s.heap [] := va_S.rf
  have hl : lv_has ls 5 [(0, .ref h0), (1, .int p0), (2, .int p1), (3, .int p2)] := hl
  have hP : va_P (dC, dI) vwCl [(h0, .inr (9, [.ref w, .ref d, .ref co, .ref un, .ref ma, .ref tm, .int 0, .int 0, .int 0])), (w, .inr (3, [.int 0, .int 0, .ref wL, .ref wP, .ref wS])), (d, .inr (3, [.int 0, .int 0, .ref dL, .ref dP, .ref dS]))] _ := hP
  have hD : va_D A [(h0, .inr (9, [.ref w, .ref d, .ref co, .ref un, .ref ma, .ref tm, .int 0, .int 0, .int 0])), (w, .inr (3, [.int 0, .int 0, .ref wL, .ref wP, .ref wS])), (d, .inr (3, [.int 0, .int 0, .ref dL, .ref dP, .ref dS]))] := hD
  refine lv_aload_n hx hb dX6_canJoin_0 rfl (lv_at hl 0 rfl) ?_
  refine lv_iload_n hx hb dX6_canJoin_1 rfl (lv_at hl 1 rfl) ?_
  have hPc := hP.sub (ws' := [(h0, .inr (9, [.ref w, .ref d, .ref co, .ref un, .ref ma, .ref tm, .int 0, .int 0, .int 0]))]) [0] rfl
  have hDc := hD.sub (ws' := [(h0, .inr (9, [.ref w, .ref d, .ref co, .ref un, .ref ma, .ref tm, .int 0, .int 0, .int 0]))]) [0] (by decide) rfl
  have hKc := hK.sub (tys' := []) [] rfl
  have hFc := va_free (wc := [(h0, .inr (9, [.ref w, .ref d, .ref co, .ref un, .ref ma, .ref tm, .int 0, .int 0, .int 0]))]) hD hS hA [0] rfl
  refine vx_callq (vx_runV (As := [.int p0]) (rest := []) ⟨hx, hb, hml, hown, hts⟩ (kX6_circuitAt l hfl dC dI h0 w d co un ma tm p0 s.heap.size) (cwV 1 hts gX6_canJoin_X6_circuitAt rfl rfl rfl (by decide +kernel) ⟨Nat.le_of_ble_eq_true rfl, Nat.le_of_ble_eq_true rfl⟩) (fPreV hN hZ hS (fun q h => hFc q h) hPc hKc hDc (ci := 9) (q0 := 0) rfl rfl) rfl rfl hl.1 rfl (lv_room (Nat.le_of_ble_eq_true rfl)) dX6_canJoin_2 ⟨Nat.le_of_ble_eq_true rfl, Nat.le_of_ble_eq_true rfl⟩) hS (fun q _ h => hFc q h) hFc (fun q _ h => hFc q h) (fun E ce q9 u t H locs ht hvm hpx hE hz1 hk1 hS hq9 hv9 hc9 => ?_) (fun r u t H1 locs ht hvm hw hB hz1 hk1 hS => ?_)
  · skip
    exact thr E ce q9 _ _ _ _ _ _ _ (Or.inl (⟨hE.1, hE.2⟩)) hq9 hv9 hc9 hS (Nat.le_of_ble_eq_true rfl) (Nat.le_of_ble_eq_true rfl)
  · skip
    obtain ⟨hP1, hK1, hD1⟩ := hB
    rw [ht] at hP1
    have hK1 := va_K.moved hvm.symm hK1
    obtain ⟨hP, hD⟩ := va_join (wr := [(w, .inr (3, [.int 0, .int 0, .ref wL, .ref wP, .ref wS])), (d, .inr (3, [.int 0, .int 0, .ref dL, .ref dP, .ref dS]))]) (w1 := [(h0, .inr (9, [.ref w, .ref d, .ref co, .ref un, .ref ma, .ref tm, .int 0, .int 0, .int 0]))]) hP hD [0] [1, 2] rfl rfl (by decide) (by decide) hk1 hFc hP1 hD1
    generalize H1 = H at hP hS ⊢
    have hP : va_P (dC, dI) vwCl [(w, .inr (3, [.int 0, .int 0, .ref wL, .ref wP, .ref wS])), (d, .inr (3, [.int 0, .int 0, .ref dL, .ref dP, .ref dS])), (h0, .inr (9, [.ref w, .ref d, .ref co, .ref un, .ref ma, .ref tm, .int 0, .int 0, .int 0]))] _ := hP
    have hD : va_D A [(w, .inr (3, [.int 0, .int 0, .ref wL, .ref wP, .ref wS])), (d, .inr (3, [.int 0, .int 0, .ref dL, .ref dP, .ref dS])), (h0, .inr (9, [.ref w, .ref d, .ref co, .ref un, .ref ma, .ref tm, .int 0, .int 0, .int 0]))] := hD
    refine W.widen (k := 1) (n := 6) (Nat.le_of_ble_eq_true rfl) (Nat.le_of_ble_eq_true rfl) ?_
    rcases hw with ⟨hc0, rfl⟩ | ⟨hc1, rfl⟩
    · skip
      refine W.eq (g2 := F0 m 5 ls [.ref w]) rfl ?_
      refine lv_astore (lv' := [(4, .ref w), (0, .ref h0), (1, .int p0), (2, .int p1), (3, .int p2)]) hx hb dX6_canJoin_5 hl (Nat.le_of_ble_eq_true rfl) rfl (fun ls hl => ?_)
      refine lv_aload hx hb dX6_canJoin_7 (lv_at hl 0 rfl) ?_
      refine lv_iload_n hx hb dX6_canJoin_9 rfl (lv_at hl 3 rfl) ?_
      have hPc := hP.sub (ws' := [(w, .inr (3, [.int 0, .int 0, .ref wL, .ref wP, .ref wS]))]) [0] rfl
      have hDc := hD.sub (ws' := [(w, .inr (3, [.int 0, .int 0, .ref wL, .ref wP, .ref wS]))]) [0] (by decide) rfl
      have hKc := hK.sub (tys' := []) [] rfl
      have hFc := va_free (wc := [(w, .inr (3, [.int 0, .int 0, .ref wL, .ref wP, .ref wS]))]) hD hS hA [0] rfl
      refine vx_callv (vx_runS (As := [.ref w, .int p1]) (rest := []) ⟨hx, hb, hml, hown, hts⟩ (kX6_requirePart l hfl dC dI w wL wP wS p1 H.size) (va_cwS 2 hts gX6_canJoin_X6_requirePart rfl rfl rfl (by decide +kernel) ⟨Nat.le_of_ble_eq_true rfl, Nat.le_of_ble_eq_true rfl⟩) (fPreS hN hZ hS (fun q h => hFc q h) hPc hKc hDc) rfl rfl hl.1 rfl (lv_room (Nat.le_of_ble_eq_true rfl)) dX6_canJoin_10 ⟨Nat.le_of_ble_eq_true rfl, Nat.le_of_ble_eq_true rfl⟩) hS (fun q _ h => hFc q h) hFc (fun q _ h => hFc q h) (fun E ce q9 u t H locs ht hvm hpx hE hz1 hk1 hS hq9 hv9 hc9 => ?_) (fun u t H1 locs ht hvm hw hB hz1 hk1 hS => ?_)
      · skip
        exact thr E ce q9 _ _ _ _ _ _ _ (Or.inr (⟨hE, (fun h9 => h9 (Or.inl (hc0)))⟩)) hq9 hv9 hc9 hS (Nat.le_of_ble_eq_true rfl) (Nat.le_of_ble_eq_true rfl)
      · skip
        exact hw.elim
    · skip
      refine W.eq (g2 := F0 m 5 ls [.ref d]) rfl ?_
      refine lv_astore (lv' := [(4, .ref d), (0, .ref h0), (1, .int p0), (2, .int p1), (3, .int p2)]) hx hb dX6_canJoin_5 hl (Nat.le_of_ble_eq_true rfl) rfl (fun ls hl => ?_)
      refine lv_aload hx hb dX6_canJoin_7 (lv_at hl 0 rfl) ?_
      refine lv_iload_n hx hb dX6_canJoin_9 rfl (lv_at hl 3 rfl) ?_
      have hPc := hP.sub (ws' := [(d, .inr (3, [.int 0, .int 0, .ref dL, .ref dP, .ref dS]))]) [1] rfl
      have hDc := hD.sub (ws' := [(d, .inr (3, [.int 0, .int 0, .ref dL, .ref dP, .ref dS]))]) [1] (by decide) rfl
      have hKc := hK.sub (tys' := []) [] rfl
      have hFc := va_free (wc := [(d, .inr (3, [.int 0, .int 0, .ref dL, .ref dP, .ref dS]))]) hD hS hA [1] rfl
      refine vx_callv (vx_runS (As := [.ref d, .int p1]) (rest := []) ⟨hx, hb, hml, hown, hts⟩ (kX6_requirePart l hfl dC dI d dL dP dS p1 H.size) (va_cwS 2 hts gX6_canJoin_X6_requirePart rfl rfl rfl (by decide +kernel) ⟨Nat.le_of_ble_eq_true rfl, Nat.le_of_ble_eq_true rfl⟩) (fPreS hN hZ hS (fun q h => hFc q h) hPc hKc hDc) rfl rfl hl.1 rfl (lv_room (Nat.le_of_ble_eq_true rfl)) dX6_canJoin_10 ⟨Nat.le_of_ble_eq_true rfl, Nat.le_of_ble_eq_true rfl⟩) hS (fun q _ h => hFc q h) hFc (fun q _ h => hFc q h) (fun E ce q9 u t H locs ht hvm hpx hE hz1 hk1 hS hq9 hv9 hc9 => ?_) (fun u t H1 locs ht hvm hw hB hz1 hk1 hS => ?_)
      · skip
        exact thr E ce q9 _ _ _ _ _ _ _ (Or.inr (⟨hE, (fun h9 => h9 (Or.inr (hc1)))⟩)) hq9 hv9 hc9 hS (Nat.le_of_ble_eq_true rfl) (Nat.le_of_ble_eq_true rfl)
      · skip
        exact hw.elim

set_option maxHeartbeats 4000000 in
set_option maxRecDepth 100000 in
/-- kindOf on a fresh object -/
theorem kX6_kindOf (l : Launch) (hfl : l.stackTraces = false) (dC : Nat → ClassId) (dI : Nat → Nat → Nat) (h0 w d co un ma tm : Nat) (wL wP wS dL dP dS : Nat) (p0 p1 : Int32) (sz : Nat) : fXi l yX6_kindOf wsX6_kindOf ({ frames := 8, cells := 2, slots := 12, locals := 123 } : Room) dC dI [.ref h0, .int p0, .int p1] [(h0, .inr (9, [.ref w, .ref d, .ref co, .ref un, .ref ma, .ref tm, .int 0, .int 0, .int 0])), (w, .inr (3, [.int 0, .int 0, .ref wL, .ref wP, .ref wS])), (d, .inr (3, [.int 0, .int 0, .ref dL, .ref dP, .ref dS]))] [] sz (fun E : String => E = "java/lang/IllegalArgumentException" ∧ (¬ ((p0 = 0) ∨ (p0 = 1))) ∨ E = "java/util/NoSuchElementException" ∧ (¬ (¬ ((p0 = 0) ∨ (p0 = 1))))) (fun (r : Int32) (u : Unit) => False) (fun u => []) (fun u => []) := by
  refine oX_z hfl (y := yX6_kindOf) (cc := cX6_kindOf) (maxL := 4) (by decide) rfl (Nat.le_of_ble_eq_true rfl) ?_
  intro p e s m args below meth c ls A Q hx hb hr hml hown hts hN hZ hA hin hlk hP hK hD hl ret thr thn
  have hS : va_S A s.heap s.heap [] := va_S.rf
  have hl : lv_has ls 4 [(0, .ref h0), (1, .int p0), (2, .int p1)] := hl
  have hP : va_P (dC, dI) vwCl [(h0, .inr (9, [.ref w, .ref d, .ref co, .ref un, .ref ma, .ref tm, .int 0, .int 0, .int 0])), (w, .inr (3, [.int 0, .int 0, .ref wL, .ref wP, .ref wS])), (d, .inr (3, [.int 0, .int 0, .ref dL, .ref dP, .ref dS]))] _ := hP
  have hD : va_D A [(h0, .inr (9, [.ref w, .ref d, .ref co, .ref un, .ref ma, .ref tm, .int 0, .int 0, .int 0])), (w, .inr (3, [.int 0, .int 0, .ref wL, .ref wP, .ref wS])), (d, .inr (3, [.int 0, .int 0, .ref dL, .ref dP, .ref dS]))] := hD
  refine lv_aload_n hx hb dX6_kindOf_0 rfl (lv_at hl 0 rfl) ?_
  refine lv_iload_n hx hb dX6_kindOf_1 rfl (lv_at hl 1 rfl) ?_
  have hPc := hP.sub (ws' := [(h0, .inr (9, [.ref w, .ref d, .ref co, .ref un, .ref ma, .ref tm, .int 0, .int 0, .int 0]))]) [0] rfl
  have hDc := hD.sub (ws' := [(h0, .inr (9, [.ref w, .ref d, .ref co, .ref un, .ref ma, .ref tm, .int 0, .int 0, .int 0]))]) [0] (by decide) rfl
  have hKc := hK.sub (tys' := []) [] rfl
  have hFc := va_free (wc := [(h0, .inr (9, [.ref w, .ref d, .ref co, .ref un, .ref ma, .ref tm, .int 0, .int 0, .int 0]))]) hD hS hA [0] rfl
  refine vx_callq (vx_runV (As := [.int p0]) (rest := []) ⟨hx, hb, hml, hown, hts⟩ (kX6_circuitAt l hfl dC dI h0 w d co un ma tm p0 s.heap.size) (cwV 1 hts gX6_kindOf_X6_circuitAt rfl rfl rfl (by decide +kernel) ⟨Nat.le_of_ble_eq_true rfl, Nat.le_of_ble_eq_true rfl⟩) (fPreV hN hZ hS (fun q h => hFc q h) hPc hKc hDc (ci := 9) (q0 := 0) rfl rfl) rfl rfl hl.1 rfl (lv_room (Nat.le_of_ble_eq_true rfl)) dX6_kindOf_2 ⟨Nat.le_of_ble_eq_true rfl, Nat.le_of_ble_eq_true rfl⟩) hS (fun q _ h => hFc q h) hFc (fun q _ h => hFc q h) (fun E ce q9 u t H locs ht hvm hpx hE hz1 hk1 hS hq9 hv9 hc9 => ?_) (fun r u t H1 locs ht hvm hw hB hz1 hk1 hS => ?_)
  · skip
    exact thr E ce q9 _ _ _ _ _ _ _ (Or.inl (⟨hE.1, hE.2⟩)) hq9 hv9 hc9 hS (Nat.le_of_ble_eq_true rfl) (Nat.le_of_ble_eq_true rfl)
  · skip
    obtain ⟨hP1, hK1, hD1⟩ := hB
    rw [ht] at hP1
    have hK1 := va_K.moved hvm.symm hK1
    obtain ⟨hP, hD⟩ := va_join (wr := [(w, .inr (3, [.int 0, .int 0, .ref wL, .ref wP, .ref wS])), (d, .inr (3, [.int 0, .int 0, .ref dL, .ref dP, .ref dS]))]) (w1 := [(h0, .inr (9, [.ref w, .ref d, .ref co, .ref un, .ref ma, .ref tm, .int 0, .int 0, .int 0]))]) hP hD [0] [1, 2] rfl rfl (by decide) (by decide) hk1 hFc hP1 hD1
    generalize H1 = H at hP hS ⊢
    have hP : va_P (dC, dI) vwCl [(w, .inr (3, [.int 0, .int 0, .ref wL, .ref wP, .ref wS])), (d, .inr (3, [.int 0, .int 0, .ref dL, .ref dP, .ref dS])), (h0, .inr (9, [.ref w, .ref d, .ref co, .ref un, .ref ma, .ref tm, .int 0, .int 0, .int 0]))] _ := hP
    have hD : va_D A [(w, .inr (3, [.int 0, .int 0, .ref wL, .ref wP, .ref wS])), (d, .inr (3, [.int 0, .int 0, .ref dL, .ref dP, .ref dS])), (h0, .inr (9, [.ref w, .ref d, .ref co, .ref un, .ref ma, .ref tm, .int 0, .int 0, .int 0]))] := hD
    refine W.widen (k := 1) (n := 6) (Nat.le_of_ble_eq_true rfl) (Nat.le_of_ble_eq_true rfl) ?_
    rcases hw with ⟨hc0, rfl⟩ | ⟨hc1, rfl⟩
    · skip
      refine W.eq (g2 := F0 m 5 ls [.ref w]) rfl ?_
      refine lv_astore_n (lv' := [(3, .ref w), (0, .ref h0), (1, .int p0), (2, .int p1)]) hx hb dX6_kindOf_5 rfl hl (Nat.le_of_ble_eq_true rfl) rfl (fun ls hl => ?_)
      refine lv_aload_n hx hb dX6_kindOf_6 rfl (lv_at hl 0 rfl) ?_
      refine lv_iload_n hx hb dX6_kindOf_7 rfl (lv_at hl 3 rfl) ?_
      have hPc := hP.sub (ws' := [(w, .inr (3, [.int 0, .int 0, .ref wL, .ref wP, .ref wS]))]) [0] rfl
      have hDc := hD.sub (ws' := [(w, .inr (3, [.int 0, .int 0, .ref wL, .ref wP, .ref wS]))]) [0] (by decide) rfl
      have hKc := hK.sub (tys' := []) [] rfl
      have hFc := va_free (wc := [(w, .inr (3, [.int 0, .int 0, .ref wL, .ref wP, .ref wS]))]) hD hS hA [0] rfl
      refine vx_callv (vx_runS (As := [.ref w, .int p1]) (rest := []) ⟨hx, hb, hml, hown, hts⟩ (kX6_requirePart l hfl dC dI w wL wP wS p1 H.size) (va_cwS 2 hts gX6_kindOf_X6_requirePart rfl rfl rfl (by decide +kernel) ⟨Nat.le_of_ble_eq_true rfl, Nat.le_of_ble_eq_true rfl⟩) (fPreS hN hZ hS (fun q h => hFc q h) hPc hKc hDc) rfl rfl hl.1 rfl (lv_room (Nat.le_of_ble_eq_true rfl)) dX6_kindOf_8 ⟨Nat.le_of_ble_eq_true rfl, Nat.le_of_ble_eq_true rfl⟩) hS (fun q _ h => hFc q h) hFc (fun q _ h => hFc q h) (fun E ce q9 u t H locs ht hvm hpx hE hz1 hk1 hS hq9 hv9 hc9 => ?_) (fun u t H1 locs ht hvm hw hB hz1 hk1 hS => ?_)
      · skip
        exact thr E ce q9 _ _ _ _ _ _ _ (Or.inr (⟨hE, (fun h9 => h9 (Or.inl (hc0)))⟩)) hq9 hv9 hc9 hS (Nat.le_of_ble_eq_true rfl) (Nat.le_of_ble_eq_true rfl)
      · skip
        exact hw.elim
    · skip
      refine W.eq (g2 := F0 m 5 ls [.ref d]) rfl ?_
      refine lv_astore_n (lv' := [(3, .ref d), (0, .ref h0), (1, .int p0), (2, .int p1)]) hx hb dX6_kindOf_5 rfl hl (Nat.le_of_ble_eq_true rfl) rfl (fun ls hl => ?_)
      refine lv_aload_n hx hb dX6_kindOf_6 rfl (lv_at hl 0 rfl) ?_
      refine lv_iload_n hx hb dX6_kindOf_7 rfl (lv_at hl 3 rfl) ?_
      have hPc := hP.sub (ws' := [(d, .inr (3, [.int 0, .int 0, .ref dL, .ref dP, .ref dS]))]) [1] rfl
      have hDc := hD.sub (ws' := [(d, .inr (3, [.int 0, .int 0, .ref dL, .ref dP, .ref dS]))]) [1] (by decide) rfl
      have hKc := hK.sub (tys' := []) [] rfl
      have hFc := va_free (wc := [(d, .inr (3, [.int 0, .int 0, .ref dL, .ref dP, .ref dS]))]) hD hS hA [1] rfl
      refine vx_callv (vx_runS (As := [.ref d, .int p1]) (rest := []) ⟨hx, hb, hml, hown, hts⟩ (kX6_requirePart l hfl dC dI d dL dP dS p1 H.size) (va_cwS 2 hts gX6_kindOf_X6_requirePart rfl rfl rfl (by decide +kernel) ⟨Nat.le_of_ble_eq_true rfl, Nat.le_of_ble_eq_true rfl⟩) (fPreS hN hZ hS (fun q h => hFc q h) hPc hKc hDc) rfl rfl hl.1 rfl (lv_room (Nat.le_of_ble_eq_true rfl)) dX6_kindOf_8 ⟨Nat.le_of_ble_eq_true rfl, Nat.le_of_ble_eq_true rfl⟩) hS (fun q _ h => hFc q h) hFc (fun q _ h => hFc q h) (fun E ce q9 u t H locs ht hvm hpx hE hz1 hk1 hS hq9 hv9 hc9 => ?_) (fun u t H1 locs ht hvm hw hB hz1 hk1 hS => ?_)
      · skip
        exact thr E ce q9 _ _ _ _ _ _ _ (Or.inr (⟨hE, (fun h9 => h9 (Or.inr (hc1)))⟩)) hq9 hv9 hc9 hS (Nat.le_of_ble_eq_true rfl) (Nat.le_of_ble_eq_true rfl)
      · skip
        exact hw.elim

set_option maxHeartbeats 4000000 in
set_option maxRecDepth 100000 in
/-- portOf on a fresh object -/
theorem kX6_portOf (l : Launch) (hfl : l.stackTraces = false) (dC : Nat → ClassId) (dI : Nat → Nat → Nat) (h0 w d co un ma tm : Nat) (wL wP wS dL dP dS : Nat) (p0 p1 : Int32) (sz : Nat) : fXi l yX6_portOf wsX6_portOf ({ frames := 8, cells := 2, slots := 12, locals := 123 } : Room) dC dI [.ref h0, .int p0, .int p1] [(h0, .inr (9, [.ref w, .ref d, .ref co, .ref un, .ref ma, .ref tm, .int 0, .int 0, .int 0])), (w, .inr (3, [.int 0, .int 0, .ref wL, .ref wP, .ref wS])), (d, .inr (3, [.int 0, .int 0, .ref dL, .ref dP, .ref dS]))] [] sz (fun E : String => E = "java/lang/IllegalArgumentException" ∧ (¬ ((p0 = 0) ∨ (p0 = 1))) ∨ E = "java/util/NoSuchElementException" ∧ (¬ (¬ ((p0 = 0) ∨ (p0 = 1))))) (fun (r : Int32) (u : Unit) => False) (fun u => []) (fun u => []) := by
  refine oX_z hfl (y := yX6_portOf) (cc := cX6_portOf) (maxL := 4) (by decide) rfl (Nat.le_of_ble_eq_true rfl) ?_
  intro p e s m args below meth c ls A Q hx hb hr hml hown hts hN hZ hA hin hlk hP hK hD hl ret thr thn
  have hS : va_S A s.heap s.heap [] := va_S.rf
  have hl : lv_has ls 4 [(0, .ref h0), (1, .int p0), (2, .int p1)] := hl
  have hP : va_P (dC, dI) vwCl [(h0, .inr (9, [.ref w, .ref d, .ref co, .ref un, .ref ma, .ref tm, .int 0, .int 0, .int 0])), (w, .inr (3, [.int 0, .int 0, .ref wL, .ref wP, .ref wS])), (d, .inr (3, [.int 0, .int 0, .ref dL, .ref dP, .ref dS]))] _ := hP
  have hD : va_D A [(h0, .inr (9, [.ref w, .ref d, .ref co, .ref un, .ref ma, .ref tm, .int 0, .int 0, .int 0])), (w, .inr (3, [.int 0, .int 0, .ref wL, .ref wP, .ref wS])), (d, .inr (3, [.int 0, .int 0, .ref dL, .ref dP, .ref dS]))] := hD
  refine lv_aload_n hx hb dX6_portOf_0 rfl (lv_at hl 0 rfl) ?_
  refine lv_iload_n hx hb dX6_portOf_1 rfl (lv_at hl 1 rfl) ?_
  have hPc := hP.sub (ws' := [(h0, .inr (9, [.ref w, .ref d, .ref co, .ref un, .ref ma, .ref tm, .int 0, .int 0, .int 0]))]) [0] rfl
  have hDc := hD.sub (ws' := [(h0, .inr (9, [.ref w, .ref d, .ref co, .ref un, .ref ma, .ref tm, .int 0, .int 0, .int 0]))]) [0] (by decide) rfl
  have hKc := hK.sub (tys' := []) [] rfl
  have hFc := va_free (wc := [(h0, .inr (9, [.ref w, .ref d, .ref co, .ref un, .ref ma, .ref tm, .int 0, .int 0, .int 0]))]) hD hS hA [0] rfl
  refine vx_callq (vx_runV (As := [.int p0]) (rest := []) ⟨hx, hb, hml, hown, hts⟩ (kX6_circuitAt l hfl dC dI h0 w d co un ma tm p0 s.heap.size) (cwV 1 hts gX6_portOf_X6_circuitAt rfl rfl rfl (by decide +kernel) ⟨Nat.le_of_ble_eq_true rfl, Nat.le_of_ble_eq_true rfl⟩) (fPreV hN hZ hS (fun q h => hFc q h) hPc hKc hDc (ci := 9) (q0 := 0) rfl rfl) rfl rfl hl.1 rfl (lv_room (Nat.le_of_ble_eq_true rfl)) dX6_portOf_2 ⟨Nat.le_of_ble_eq_true rfl, Nat.le_of_ble_eq_true rfl⟩) hS (fun q _ h => hFc q h) hFc (fun q _ h => hFc q h) (fun E ce q9 u t H locs ht hvm hpx hE hz1 hk1 hS hq9 hv9 hc9 => ?_) (fun r u t H1 locs ht hvm hw hB hz1 hk1 hS => ?_)
  · skip
    exact thr E ce q9 _ _ _ _ _ _ _ (Or.inl (⟨hE.1, hE.2⟩)) hq9 hv9 hc9 hS (Nat.le_of_ble_eq_true rfl) (Nat.le_of_ble_eq_true rfl)
  · skip
    obtain ⟨hP1, hK1, hD1⟩ := hB
    rw [ht] at hP1
    have hK1 := va_K.moved hvm.symm hK1
    obtain ⟨hP, hD⟩ := va_join (wr := [(w, .inr (3, [.int 0, .int 0, .ref wL, .ref wP, .ref wS])), (d, .inr (3, [.int 0, .int 0, .ref dL, .ref dP, .ref dS]))]) (w1 := [(h0, .inr (9, [.ref w, .ref d, .ref co, .ref un, .ref ma, .ref tm, .int 0, .int 0, .int 0]))]) hP hD [0] [1, 2] rfl rfl (by decide) (by decide) hk1 hFc hP1 hD1
    generalize H1 = H at hP hS ⊢
    have hP : va_P (dC, dI) vwCl [(w, .inr (3, [.int 0, .int 0, .ref wL, .ref wP, .ref wS])), (d, .inr (3, [.int 0, .int 0, .ref dL, .ref dP, .ref dS])), (h0, .inr (9, [.ref w, .ref d, .ref co, .ref un, .ref ma, .ref tm, .int 0, .int 0, .int 0]))] _ := hP
    have hD : va_D A [(w, .inr (3, [.int 0, .int 0, .ref wL, .ref wP, .ref wS])), (d, .inr (3, [.int 0, .int 0, .ref dL, .ref dP, .ref dS])), (h0, .inr (9, [.ref w, .ref d, .ref co, .ref un, .ref ma, .ref tm, .int 0, .int 0, .int 0]))] := hD
    refine W.widen (k := 1) (n := 6) (Nat.le_of_ble_eq_true rfl) (Nat.le_of_ble_eq_true rfl) ?_
    rcases hw with ⟨hc0, rfl⟩ | ⟨hc1, rfl⟩
    · skip
      refine W.eq (g2 := F0 m 5 ls [.ref w]) rfl ?_
      refine lv_astore_n (lv' := [(3, .ref w), (0, .ref h0), (1, .int p0), (2, .int p1)]) hx hb dX6_portOf_5 rfl hl (Nat.le_of_ble_eq_true rfl) rfl (fun ls hl => ?_)
      refine lv_aload_n hx hb dX6_portOf_6 rfl (lv_at hl 0 rfl) ?_
      refine lv_iload_n hx hb dX6_portOf_7 rfl (lv_at hl 3 rfl) ?_
      have hPc := hP.sub (ws' := [(w, .inr (3, [.int 0, .int 0, .ref wL, .ref wP, .ref wS]))]) [0] rfl
      have hDc := hD.sub (ws' := [(w, .inr (3, [.int 0, .int 0, .ref wL, .ref wP, .ref wS]))]) [0] (by decide) rfl
      have hKc := hK.sub (tys' := []) [] rfl
      have hFc := va_free (wc := [(w, .inr (3, [.int 0, .int 0, .ref wL, .ref wP, .ref wS]))]) hD hS hA [0] rfl
      refine vx_callv (vx_runS (As := [.ref w, .int p1]) (rest := []) ⟨hx, hb, hml, hown, hts⟩ (kX6_requireNet l hfl dC dI w wL wP wS p1 H.size) (va_cwS 2 hts gX6_portOf_X6_requireNet rfl rfl rfl (by decide +kernel) ⟨Nat.le_of_ble_eq_true rfl, Nat.le_of_ble_eq_true rfl⟩) (fPreS hN hZ hS (fun q h => hFc q h) hPc hKc hDc) rfl rfl hl.1 rfl (lv_room (Nat.le_of_ble_eq_true rfl)) dX6_portOf_8 ⟨Nat.le_of_ble_eq_true rfl, Nat.le_of_ble_eq_true rfl⟩) hS (fun q _ h => hFc q h) hFc (fun q _ h => hFc q h) (fun E ce q9 u t H locs ht hvm hpx hE hz1 hk1 hS hq9 hv9 hc9 => ?_) (fun u t H1 locs ht hvm hw hB hz1 hk1 hS => ?_)
      · skip
        exact thr E ce q9 _ _ _ _ _ _ _ (Or.inr (⟨hE, (fun h9 => h9 (Or.inl (hc0)))⟩)) hq9 hv9 hc9 hS (Nat.le_of_ble_eq_true rfl) (Nat.le_of_ble_eq_true rfl)
      · skip
        exact hw.elim
    · skip
      refine W.eq (g2 := F0 m 5 ls [.ref d]) rfl ?_
      refine lv_astore_n (lv' := [(3, .ref d), (0, .ref h0), (1, .int p0), (2, .int p1)]) hx hb dX6_portOf_5 rfl hl (Nat.le_of_ble_eq_true rfl) rfl (fun ls hl => ?_)
      refine lv_aload_n hx hb dX6_portOf_6 rfl (lv_at hl 0 rfl) ?_
      refine lv_iload_n hx hb dX6_portOf_7 rfl (lv_at hl 3 rfl) ?_
      have hPc := hP.sub (ws' := [(d, .inr (3, [.int 0, .int 0, .ref dL, .ref dP, .ref dS]))]) [1] rfl
      have hDc := hD.sub (ws' := [(d, .inr (3, [.int 0, .int 0, .ref dL, .ref dP, .ref dS]))]) [1] (by decide) rfl
      have hKc := hK.sub (tys' := []) [] rfl
      have hFc := va_free (wc := [(d, .inr (3, [.int 0, .int 0, .ref dL, .ref dP, .ref dS]))]) hD hS hA [1] rfl
      refine vx_callv (vx_runS (As := [.ref d, .int p1]) (rest := []) ⟨hx, hb, hml, hown, hts⟩ (kX6_requireNet l hfl dC dI d dL dP dS p1 H.size) (va_cwS 2 hts gX6_portOf_X6_requireNet rfl rfl rfl (by decide +kernel) ⟨Nat.le_of_ble_eq_true rfl, Nat.le_of_ble_eq_true rfl⟩) (fPreS hN hZ hS (fun q h => hFc q h) hPc hKc hDc) rfl rfl hl.1 rfl (lv_room (Nat.le_of_ble_eq_true rfl)) dX6_portOf_8 ⟨Nat.le_of_ble_eq_true rfl, Nat.le_of_ble_eq_true rfl⟩) hS (fun q _ h => hFc q h) hFc (fun q _ h => hFc q h) (fun E ce q9 u t H locs ht hvm hpx hE hz1 hk1 hS hq9 hv9 hc9 => ?_) (fun u t H1 locs ht hvm hw hB hz1 hk1 hS => ?_)
      · skip
        exact thr E ce q9 _ _ _ _ _ _ _ (Or.inr (⟨hE, (fun h9 => h9 (Or.inr (hc1)))⟩)) hq9 hv9 hc9 hS (Nat.le_of_ble_eq_true rfl) (Nat.le_of_ble_eq_true rfl)
      · skip
        exact hw.elim

set_option maxHeartbeats 4000000 in
set_option maxRecDepth 100000 in
/-- labelAt on a fresh object -/
theorem kX6_labelAt (l : Launch) (hfl : l.stackTraces = false) (dC : Nat → ClassId) (dI : Nat → Nat → Nat) (h0 w d co un ma tm : Nat) (wL wP wS dL dP dS : Nat) (p0 p1 p2 : Int32) (sz : Nat) : fXi l yX6_labelAt wsX6_labelAt ({ frames := 8, cells := 2, slots := 12, locals := 123 } : Room) dC dI [.ref h0, .int p0, .int p1, .int p2] [(h0, .inr (9, [.ref w, .ref d, .ref co, .ref un, .ref ma, .ref tm, .int 0, .int 0, .int 0])), (w, .inr (3, [.int 0, .int 0, .ref wL, .ref wP, .ref wS])), (d, .inr (3, [.int 0, .int 0, .ref dL, .ref dP, .ref dS]))] [] sz (fun E : String => E = "java/lang/IllegalArgumentException" ∧ (¬ ((p0 = 0) ∨ (p0 = 1))) ∨ E = "java/util/NoSuchElementException" ∧ (¬ (¬ ((p0 = 0) ∨ (p0 = 1))))) (fun (r : Int32) (u : Unit) => False) (fun u => []) (fun u => []) := by
  refine oX_z hfl (y := yX6_labelAt) (cc := cX6_labelAt) (maxL := 5) (by decide) rfl (Nat.le_of_ble_eq_true rfl) ?_
  intro p e s m args below meth c ls A Q hx hb hr hml hown hts hN hZ hA hin hlk hP hK hD hl ret thr thn
  have hS : va_S A s.heap s.heap [] := va_S.rf
  have hl : lv_has ls 5 [(0, .ref h0), (1, .int p0), (2, .int p1), (3, .int p2)] := hl
  have hP : va_P (dC, dI) vwCl [(h0, .inr (9, [.ref w, .ref d, .ref co, .ref un, .ref ma, .ref tm, .int 0, .int 0, .int 0])), (w, .inr (3, [.int 0, .int 0, .ref wL, .ref wP, .ref wS])), (d, .inr (3, [.int 0, .int 0, .ref dL, .ref dP, .ref dS]))] _ := hP
  have hD : va_D A [(h0, .inr (9, [.ref w, .ref d, .ref co, .ref un, .ref ma, .ref tm, .int 0, .int 0, .int 0])), (w, .inr (3, [.int 0, .int 0, .ref wL, .ref wP, .ref wS])), (d, .inr (3, [.int 0, .int 0, .ref dL, .ref dP, .ref dS]))] := hD
  refine lv_aload_n hx hb dX6_labelAt_0 rfl (lv_at hl 0 rfl) ?_
  refine lv_iload_n hx hb dX6_labelAt_1 rfl (lv_at hl 1 rfl) ?_
  have hPc := hP.sub (ws' := [(h0, .inr (9, [.ref w, .ref d, .ref co, .ref un, .ref ma, .ref tm, .int 0, .int 0, .int 0]))]) [0] rfl
  have hDc := hD.sub (ws' := [(h0, .inr (9, [.ref w, .ref d, .ref co, .ref un, .ref ma, .ref tm, .int 0, .int 0, .int 0]))]) [0] (by decide) rfl
  have hKc := hK.sub (tys' := []) [] rfl
  have hFc := va_free (wc := [(h0, .inr (9, [.ref w, .ref d, .ref co, .ref un, .ref ma, .ref tm, .int 0, .int 0, .int 0]))]) hD hS hA [0] rfl
  refine vx_callq (vx_runV (As := [.int p0]) (rest := []) ⟨hx, hb, hml, hown, hts⟩ (kX6_circuitAt l hfl dC dI h0 w d co un ma tm p0 s.heap.size) (cwV 1 hts gX6_labelAt_X6_circuitAt rfl rfl rfl (by decide +kernel) ⟨Nat.le_of_ble_eq_true rfl, Nat.le_of_ble_eq_true rfl⟩) (fPreV hN hZ hS (fun q h => hFc q h) hPc hKc hDc (ci := 9) (q0 := 0) rfl rfl) rfl rfl hl.1 rfl (lv_room (Nat.le_of_ble_eq_true rfl)) dX6_labelAt_2 ⟨Nat.le_of_ble_eq_true rfl, Nat.le_of_ble_eq_true rfl⟩) hS (fun q _ h => hFc q h) hFc (fun q _ h => hFc q h) (fun E ce q9 u t H locs ht hvm hpx hE hz1 hk1 hS hq9 hv9 hc9 => ?_) (fun r u t H1 locs ht hvm hw hB hz1 hk1 hS => ?_)
  · skip
    exact thr E ce q9 _ _ _ _ _ _ _ (Or.inl (⟨hE.1, hE.2⟩)) hq9 hv9 hc9 hS (Nat.le_of_ble_eq_true rfl) (Nat.le_of_ble_eq_true rfl)
  · skip
    obtain ⟨hP1, hK1, hD1⟩ := hB
    rw [ht] at hP1
    have hK1 := va_K.moved hvm.symm hK1
    obtain ⟨hP, hD⟩ := va_join (wr := [(w, .inr (3, [.int 0, .int 0, .ref wL, .ref wP, .ref wS])), (d, .inr (3, [.int 0, .int 0, .ref dL, .ref dP, .ref dS]))]) (w1 := [(h0, .inr (9, [.ref w, .ref d, .ref co, .ref un, .ref ma, .ref tm, .int 0, .int 0, .int 0]))]) hP hD [0] [1, 2] rfl rfl (by decide) (by decide) hk1 hFc hP1 hD1
    generalize H1 = H at hP hS ⊢
    have hP : va_P (dC, dI) vwCl [(w, .inr (3, [.int 0, .int 0, .ref wL, .ref wP, .ref wS])), (d, .inr (3, [.int 0, .int 0, .ref dL, .ref dP, .ref dS])), (h0, .inr (9, [.ref w, .ref d, .ref co, .ref un, .ref ma, .ref tm, .int 0, .int 0, .int 0]))] _ := hP
    have hD : va_D A [(w, .inr (3, [.int 0, .int 0, .ref wL, .ref wP, .ref wS])), (d, .inr (3, [.int 0, .int 0, .ref dL, .ref dP, .ref dS])), (h0, .inr (9, [.ref w, .ref d, .ref co, .ref un, .ref ma, .ref tm, .int 0, .int 0, .int 0]))] := hD
    refine W.widen (k := 1) (n := 6) (Nat.le_of_ble_eq_true rfl) (Nat.le_of_ble_eq_true rfl) ?_
    rcases hw with ⟨hc0, rfl⟩ | ⟨hc1, rfl⟩
    · skip
      refine W.eq (g2 := F0 m 5 ls [.ref w]) rfl ?_
      refine lv_astore (lv' := [(4, .ref w), (0, .ref h0), (1, .int p0), (2, .int p1), (3, .int p2)]) hx hb dX6_labelAt_5 hl (Nat.le_of_ble_eq_true rfl) rfl (fun ls hl => ?_)
      refine lv_aload hx hb dX6_labelAt_7 (lv_at hl 0 rfl) ?_
      refine lv_iload_n hx hb dX6_labelAt_9 rfl (lv_at hl 3 rfl) ?_
      have hPc := hP.sub (ws' := [(w, .inr (3, [.int 0, .int 0, .ref wL, .ref wP, .ref wS]))]) [0] rfl
      have hDc := hD.sub (ws' := [(w, .inr (3, [.int 0, .int 0, .ref wL, .ref wP, .ref wS]))]) [0] (by decide) rfl
      have hKc := hK.sub (tys' := []) [] rfl
      have hFc := va_free (wc := [(w, .inr (3, [.int 0, .int 0, .ref wL, .ref wP, .ref wS]))]) hD hS hA [0] rfl
      refine vx_callv (vx_runS (As := [.ref w, .int p1]) (rest := []) ⟨hx, hb, hml, hown, hts⟩ (kX6_requirePart l hfl dC dI w wL wP wS p1 H.size) (va_cwS 2 hts gX6_labelAt_X6_requirePart rfl rfl rfl (by decide +kernel) ⟨Nat.le_of_ble_eq_true rfl, Nat.le_of_ble_eq_true rfl⟩) (fPreS hN hZ hS (fun q h => hFc q h) hPc hKc hDc) rfl rfl hl.1 rfl (lv_room (Nat.le_of_ble_eq_true rfl)) dX6_labelAt_10 ⟨Nat.le_of_ble_eq_true rfl, Nat.le_of_ble_eq_true rfl⟩) hS (fun q _ h => hFc q h) hFc (fun q _ h => hFc q h) (fun E ce q9 u t H locs ht hvm hpx hE hz1 hk1 hS hq9 hv9 hc9 => ?_) (fun u t H1 locs ht hvm hw hB hz1 hk1 hS => ?_)
      · skip
        exact thr E ce q9 _ _ _ _ _ _ _ (Or.inr (⟨hE, (fun h9 => h9 (Or.inl (hc0)))⟩)) hq9 hv9 hc9 hS (Nat.le_of_ble_eq_true rfl) (Nat.le_of_ble_eq_true rfl)
      · skip
        exact hw.elim
    · skip
      refine W.eq (g2 := F0 m 5 ls [.ref d]) rfl ?_
      refine lv_astore (lv' := [(4, .ref d), (0, .ref h0), (1, .int p0), (2, .int p1), (3, .int p2)]) hx hb dX6_labelAt_5 hl (Nat.le_of_ble_eq_true rfl) rfl (fun ls hl => ?_)
      refine lv_aload hx hb dX6_labelAt_7 (lv_at hl 0 rfl) ?_
      refine lv_iload_n hx hb dX6_labelAt_9 rfl (lv_at hl 3 rfl) ?_
      have hPc := hP.sub (ws' := [(d, .inr (3, [.int 0, .int 0, .ref dL, .ref dP, .ref dS]))]) [1] rfl
      have hDc := hD.sub (ws' := [(d, .inr (3, [.int 0, .int 0, .ref dL, .ref dP, .ref dS]))]) [1] (by decide) rfl
      have hKc := hK.sub (tys' := []) [] rfl
      have hFc := va_free (wc := [(d, .inr (3, [.int 0, .int 0, .ref dL, .ref dP, .ref dS]))]) hD hS hA [1] rfl
      refine vx_callv (vx_runS (As := [.ref d, .int p1]) (rest := []) ⟨hx, hb, hml, hown, hts⟩ (kX6_requirePart l hfl dC dI d dL dP dS p1 H.size) (va_cwS 2 hts gX6_labelAt_X6_requirePart rfl rfl rfl (by decide +kernel) ⟨Nat.le_of_ble_eq_true rfl, Nat.le_of_ble_eq_true rfl⟩) (fPreS hN hZ hS (fun q h => hFc q h) hPc hKc hDc) rfl rfl hl.1 rfl (lv_room (Nat.le_of_ble_eq_true rfl)) dX6_labelAt_10 ⟨Nat.le_of_ble_eq_true rfl, Nat.le_of_ble_eq_true rfl⟩) hS (fun q _ h => hFc q h) hFc (fun q _ h => hFc q h) (fun E ce q9 u t H locs ht hvm hpx hE hz1 hk1 hS hq9 hv9 hc9 => ?_) (fun u t H1 locs ht hvm hw hB hz1 hk1 hS => ?_)
      · skip
        exact thr E ce q9 _ _ _ _ _ _ _ (Or.inr (⟨hE, (fun h9 => h9 (Or.inr (hc1)))⟩)) hq9 hv9 hc9 hS (Nat.le_of_ble_eq_true rfl) (Nat.le_of_ble_eq_true rfl)
      · skip
        exact hw.elim

set_option maxHeartbeats 4000000 in
set_option maxRecDepth 100000 in
/-- setValue on a fresh object -/
theorem kX6_setValue (l : Launch) (hfl : l.stackTraces = false) (dC : Nat → ClassId) (dI : Nat → Nat → Nat) (h0 w d co un ma tm : Nat) (wL wP wS dL dP dS : Nat) (p0 p1 p2 : Int32) (sz : Nat) : fXi l yX6_setValue wsX6_setValue ({ frames := 8, cells := 3, slots := 18, locals := 123 } : Room) dC dI [.ref h0, .int p0, .int p1, .int p2] [(h0, .inr (9, [.ref w, .ref d, .ref co, .ref un, .ref ma, .ref tm, .int 0, .int 0, .int 0])), (w, .inr (3, [.int 0, .int 0, .ref wL, .ref wP, .ref wS])), (d, .inr (3, [.int 0, .int 0, .ref dL, .ref dP, .ref dS]))] [] sz (fun E : String => E = "java/lang/IllegalArgumentException" ∧ ((¬ ((p0 = 0) ∨ (p0 = 1))) ∨ (¬ ((¬ (p2 < 1)) ∧ (¬ (999 < p2))))) ∨ E = "java/util/NoSuchElementException" ∧ (¬ ((¬ ((p0 = 0) ∨ (p0 = 1))) ∨ (¬ ((¬ (p2 < 1)) ∧ (¬ (999 < p2))))))) (fun (r : Int32) (u : Unit) => False) (fun u => []) (fun u => []) := by
  refine oX_i hfl (y := yX6_setValue) (cc := cX6_setValue) (maxL := 6) (by decide) rfl (Nat.le_of_ble_eq_true rfl) ?_
  intro p e s m args below meth c ls A Q hx hb hr hml hown hts hN hZ hA hin hlk hP hK hD hl ret thr thn
  have hS : va_S A s.heap s.heap [] := va_S.rf
  have hl : lv_has ls 6 [(0, .ref h0), (1, .int p0), (2, .int p1), (3, .int p2)] := hl
  have hP : va_P (dC, dI) vwCl [(h0, .inr (9, [.ref w, .ref d, .ref co, .ref un, .ref ma, .ref tm, .int 0, .int 0, .int 0])), (w, .inr (3, [.int 0, .int 0, .ref wL, .ref wP, .ref wS])), (d, .inr (3, [.int 0, .int 0, .ref dL, .ref dP, .ref dS]))] _ := hP
  have hD : va_D A [(h0, .inr (9, [.ref w, .ref d, .ref co, .ref un, .ref ma, .ref tm, .int 0, .int 0, .int 0])), (w, .inr (3, [.int 0, .int 0, .ref wL, .ref wP, .ref wS])), (d, .inr (3, [.int 0, .int 0, .ref dL, .ref dP, .ref dS]))] := hD
  refine lv_aload_n hx hb dX6_setValue_0 rfl (lv_at hl 0 rfl) ?_
  refine lv_iload_n hx hb dX6_setValue_1 rfl (lv_at hl 1 rfl) ?_
  have hPc := hP.sub (ws' := [(h0, .inr (9, [.ref w, .ref d, .ref co, .ref un, .ref ma, .ref tm, .int 0, .int 0, .int 0]))]) [0] rfl
  have hDc := hD.sub (ws' := [(h0, .inr (9, [.ref w, .ref d, .ref co, .ref un, .ref ma, .ref tm, .int 0, .int 0, .int 0]))]) [0] (by decide) rfl
  have hKc := hK.sub (tys' := []) [] rfl
  have hFc := va_free (wc := [(h0, .inr (9, [.ref w, .ref d, .ref co, .ref un, .ref ma, .ref tm, .int 0, .int 0, .int 0]))]) hD hS hA [0] rfl
  refine vx_callq (vx_runV (As := [.int p0]) (rest := []) ⟨hx, hb, hml, hown, hts⟩ (kX6_circuitAt l hfl dC dI h0 w d co un ma tm p0 s.heap.size) (cwV 1 hts gX6_setValue_X6_circuitAt rfl rfl rfl (by decide +kernel) ⟨Nat.le_of_ble_eq_true rfl, Nat.le_of_ble_eq_true rfl⟩) (fPreV hN hZ hS (fun q h => hFc q h) hPc hKc hDc (ci := 9) (q0 := 0) rfl rfl) rfl rfl hl.1 rfl (lv_room (Nat.le_of_ble_eq_true rfl)) dX6_setValue_2 ⟨Nat.le_of_ble_eq_true rfl, Nat.le_of_ble_eq_true rfl⟩) hS (fun q _ h => hFc q h) hFc (fun q _ h => hFc q h) (fun E ce q9 u t H locs ht hvm hpx hE hz1 hk1 hS hq9 hv9 hc9 => ?_) (fun r u t H1 locs ht hvm hw hB hz1 hk1 hS => ?_)
  · skip
    exact thr E ce q9 _ _ _ _ _ _ _ (Or.inl (⟨hE.1, Or.inl (hE.2)⟩)) hq9 hv9 hc9 hS (Nat.le_of_ble_eq_true rfl) (Nat.le_of_ble_eq_true rfl)
  · skip
    obtain ⟨hP1, hK1, hD1⟩ := hB
    rw [ht] at hP1
    have hK1 := va_K.moved hvm.symm hK1
    obtain ⟨hP, hD⟩ := va_join (wr := [(w, .inr (3, [.int 0, .int 0, .ref wL, .ref wP, .ref wS])), (d, .inr (3, [.int 0, .int 0, .ref dL, .ref dP, .ref dS]))]) (w1 := [(h0, .inr (9, [.ref w, .ref d, .ref co, .ref un, .ref ma, .ref tm, .int 0, .int 0, .int 0]))]) hP hD [0] [1, 2] rfl rfl (by decide) (by decide) hk1 hFc hP1 hD1
    generalize H1 = H at hP hS ⊢
    have hP : va_P (dC, dI) vwCl [(w, .inr (3, [.int 0, .int 0, .ref wL, .ref wP, .ref wS])), (d, .inr (3, [.int 0, .int 0, .ref dL, .ref dP, .ref dS])), (h0, .inr (9, [.ref w, .ref d, .ref co, .ref un, .ref ma, .ref tm, .int 0, .int 0, .int 0]))] _ := hP
    have hD : va_D A [(w, .inr (3, [.int 0, .int 0, .ref wL, .ref wP, .ref wS])), (d, .inr (3, [.int 0, .int 0, .ref dL, .ref dP, .ref dS])), (h0, .inr (9, [.ref w, .ref d, .ref co, .ref un, .ref ma, .ref tm, .int 0, .int 0, .int 0]))] := hD
    refine W.widen (k := 1) (n := 6) (Nat.le_of_ble_eq_true rfl) (Nat.le_of_ble_eq_true rfl) ?_
    rcases hw with ⟨hc0, rfl⟩ | ⟨hc1, rfl⟩
    · skip
      refine W.eq (g2 := F0 m 5 ls [.ref w]) rfl ?_
      refine lv_astore (lv' := [(4, .ref w), (0, .ref h0), (1, .int p0), (2, .int p1), (3, .int p2)]) hx hb dX6_setValue_5 hl (Nat.le_of_ble_eq_true rfl) rfl (fun ls hl => ?_)
      refine lv_iload_n hx hb dX6_setValue_7 rfl (lv_at hl 4 rfl) ?_
      have hPc := hP.sub (ws' := []) [] rfl
      have hDc := hD.sub (ws' := []) [] (by decide) rfl
      have hKc := hK.sub (tys' := []) [] rfl
      have hFc := va_free (wc := []) hD hS hA [] rfl
      refine vx_callv (vx_runS (As := [.int p2]) (rest := []) ⟨hx, hb, hml, hown, hts⟩ (kX6_requireValue l hfl dC dI p2 H.size) (va_cwS 1 hts gX6_setValue_X6_requireValue rfl rfl rfl (by decide +kernel) ⟨Nat.le_of_ble_eq_true rfl, Nat.le_of_ble_eq_true rfl⟩) (fPreS hN hZ hS (fun q h => hFc q h) hPc hKc hDc) rfl rfl hl.1 rfl (lv_room (Nat.le_of_ble_eq_true rfl)) dX6_setValue_8 ⟨Nat.le_of_ble_eq_true rfl, Nat.le_of_ble_eq_true rfl⟩) hS (fun q _ h => hFc q h) hFc (fun q _ h => hFc q h) (fun E ce q9 u t H locs ht hvm hpx hE hz1 hk1 hS hq9 hv9 hc9 => ?_) (fun u t H1 locs ht hvm hw hB hz1 hk1 hS => ?_)
      · skip
        exact thr E ce q9 _ _ _ _ _ _ _ (Or.inl (⟨hE.1, Or.inr (hE.2)⟩)) hq9 hv9 hc9 hS (Nat.le_of_ble_eq_true rfl) (Nat.le_of_ble_eq_true rfl)
      · skip
        obtain ⟨hP1, hK1, hD1⟩ := hB
        rw [ht] at hP1
        have hK1 := va_K.moved hvm.symm hK1
        obtain ⟨hP, hD⟩ := va_join (wr := [(w, .inr (3, [.int 0, .int 0, .ref wL, .ref wP, .ref wS])), (d, .inr (3, [.int 0, .int 0, .ref dL, .ref dP, .ref dS])), (h0, .inr (9, [.ref w, .ref d, .ref co, .ref un, .ref ma, .ref tm, .int 0, .int 0, .int 0]))]) (w1 := []) hP hD [] [0, 1, 2] rfl rfl (by decide) (by decide) hk1 hFc hP1 hD1
        generalize H1 = H at hP hS ⊢
        have hP : va_P (dC, dI) vwCl [(w, .inr (3, [.int 0, .int 0, .ref wL, .ref wP, .ref wS])), (d, .inr (3, [.int 0, .int 0, .ref dL, .ref dP, .ref dS])), (h0, .inr (9, [.ref w, .ref d, .ref co, .ref un, .ref ma, .ref tm, .int 0, .int 0, .int 0]))] _ := hP
        have hD : va_D A [(w, .inr (3, [.int 0, .int 0, .ref wL, .ref wP, .ref wS])), (d, .inr (3, [.int 0, .int 0, .ref dL, .ref dP, .ref dS])), (h0, .inr (9, [.ref w, .ref d, .ref co, .ref un, .ref ma, .ref tm, .int 0, .int 0, .int 0]))] := hD
        refine W.widen (k := 2) (n := 12) (Nat.le_of_ble_eq_true rfl) (Nat.le_of_ble_eq_true rfl) ?_
        have hr1 := hw
        refine lv_aload hx hb dX6_setValue_11 (lv_at hl 0 rfl) ?_
        refine lv_iload_n hx hb dX6_setValue_13 rfl (lv_at hl 3 rfl) ?_
        have hPc := hP.sub (ws' := [(w, .inr (3, [.int 0, .int 0, .ref wL, .ref wP, .ref wS]))]) [0] rfl
        have hDc := hD.sub (ws' := [(w, .inr (3, [.int 0, .int 0, .ref wL, .ref wP, .ref wS]))]) [0] (by decide) rfl
        have hKc := hK.sub (tys' := []) [] rfl
        have hFc := va_free (wc := [(w, .inr (3, [.int 0, .int 0, .ref wL, .ref wP, .ref wS]))]) hD hS hA [0] rfl
        refine vx_callv (vx_runS (As := [.ref w, .int p1]) (rest := []) ⟨hx, hb, hml, hown, hts⟩ (kX6_requirePart l hfl dC dI w wL wP wS p1 H.size) (va_cwS 2 hts gX6_setValue_X6_requirePart rfl rfl rfl (by decide +kernel) ⟨Nat.le_of_ble_eq_true rfl, Nat.le_of_ble_eq_true rfl⟩) (fPreS hN hZ hS (fun q h => hFc q h) hPc hKc hDc) rfl rfl hl.1 rfl (lv_room (Nat.le_of_ble_eq_true rfl)) dX6_setValue_14 ⟨Nat.le_of_ble_eq_true rfl, Nat.le_of_ble_eq_true rfl⟩) hS (fun q _ h => hFc q h) hFc (fun q _ h => hFc q h) (fun E ce q9 u t H locs ht hvm hpx hE hz1 hk1 hS hq9 hv9 hc9 => ?_) (fun u t H1 locs ht hvm hw hB hz1 hk1 hS => ?_)
        · skip
          exact thr E ce q9 _ _ _ _ _ _ _ (Or.inr (⟨hE, (fun h9 => h9.elim ((fun h9 => h9 (Or.inl (hc0)))) ((fun h9 => h9 (hr1))))⟩)) hq9 hv9 hc9 hS (Nat.le_of_ble_eq_true rfl) (Nat.le_of_ble_eq_true rfl)
        · skip
          exact hw.elim
    · skip
      refine W.eq (g2 := F0 m 5 ls [.ref d]) rfl ?_
      refine lv_astore (lv' := [(4, .ref d), (0, .ref h0), (1, .int p0), (2, .int p1), (3, .int p2)]) hx hb dX6_setValue_5 hl (Nat.le_of_ble_eq_true rfl) rfl (fun ls hl => ?_)
      refine lv_iload_n hx hb dX6_setValue_7 rfl (lv_at hl 4 rfl) ?_
      have hPc := hP.sub (ws' := []) [] rfl
      have hDc := hD.sub (ws' := []) [] (by decide) rfl
      have hKc := hK.sub (tys' := []) [] rfl
      have hFc := va_free (wc := []) hD hS hA [] rfl
      refine vx_callv (vx_runS (As := [.int p2]) (rest := []) ⟨hx, hb, hml, hown, hts⟩ (kX6_requireValue l hfl dC dI p2 H.size) (va_cwS 1 hts gX6_setValue_X6_requireValue rfl rfl rfl (by decide +kernel) ⟨Nat.le_of_ble_eq_true rfl, Nat.le_of_ble_eq_true rfl⟩) (fPreS hN hZ hS (fun q h => hFc q h) hPc hKc hDc) rfl rfl hl.1 rfl (lv_room (Nat.le_of_ble_eq_true rfl)) dX6_setValue_8 ⟨Nat.le_of_ble_eq_true rfl, Nat.le_of_ble_eq_true rfl⟩) hS (fun q _ h => hFc q h) hFc (fun q _ h => hFc q h) (fun E ce q9 u t H locs ht hvm hpx hE hz1 hk1 hS hq9 hv9 hc9 => ?_) (fun u t H1 locs ht hvm hw hB hz1 hk1 hS => ?_)
      · skip
        exact thr E ce q9 _ _ _ _ _ _ _ (Or.inl (⟨hE.1, Or.inr (hE.2)⟩)) hq9 hv9 hc9 hS (Nat.le_of_ble_eq_true rfl) (Nat.le_of_ble_eq_true rfl)
      · skip
        obtain ⟨hP1, hK1, hD1⟩ := hB
        rw [ht] at hP1
        have hK1 := va_K.moved hvm.symm hK1
        obtain ⟨hP, hD⟩ := va_join (wr := [(w, .inr (3, [.int 0, .int 0, .ref wL, .ref wP, .ref wS])), (d, .inr (3, [.int 0, .int 0, .ref dL, .ref dP, .ref dS])), (h0, .inr (9, [.ref w, .ref d, .ref co, .ref un, .ref ma, .ref tm, .int 0, .int 0, .int 0]))]) (w1 := []) hP hD [] [0, 1, 2] rfl rfl (by decide) (by decide) hk1 hFc hP1 hD1
        generalize H1 = H at hP hS ⊢
        have hP : va_P (dC, dI) vwCl [(w, .inr (3, [.int 0, .int 0, .ref wL, .ref wP, .ref wS])), (d, .inr (3, [.int 0, .int 0, .ref dL, .ref dP, .ref dS])), (h0, .inr (9, [.ref w, .ref d, .ref co, .ref un, .ref ma, .ref tm, .int 0, .int 0, .int 0]))] _ := hP
        have hD : va_D A [(w, .inr (3, [.int 0, .int 0, .ref wL, .ref wP, .ref wS])), (d, .inr (3, [.int 0, .int 0, .ref dL, .ref dP, .ref dS])), (h0, .inr (9, [.ref w, .ref d, .ref co, .ref un, .ref ma, .ref tm, .int 0, .int 0, .int 0]))] := hD
        refine W.widen (k := 2) (n := 12) (Nat.le_of_ble_eq_true rfl) (Nat.le_of_ble_eq_true rfl) ?_
        have hr2 := hw
        refine lv_aload hx hb dX6_setValue_11 (lv_at hl 0 rfl) ?_
        refine lv_iload_n hx hb dX6_setValue_13 rfl (lv_at hl 3 rfl) ?_
        have hPc := hP.sub (ws' := [(d, .inr (3, [.int 0, .int 0, .ref dL, .ref dP, .ref dS]))]) [1] rfl
        have hDc := hD.sub (ws' := [(d, .inr (3, [.int 0, .int 0, .ref dL, .ref dP, .ref dS]))]) [1] (by decide) rfl
        have hKc := hK.sub (tys' := []) [] rfl
        have hFc := va_free (wc := [(d, .inr (3, [.int 0, .int 0, .ref dL, .ref dP, .ref dS]))]) hD hS hA [1] rfl
        refine vx_callv (vx_runS (As := [.ref d, .int p1]) (rest := []) ⟨hx, hb, hml, hown, hts⟩ (kX6_requirePart l hfl dC dI d dL dP dS p1 H.size) (va_cwS 2 hts gX6_setValue_X6_requirePart rfl rfl rfl (by decide +kernel) ⟨Nat.le_of_ble_eq_true rfl, Nat.le_of_ble_eq_true rfl⟩) (fPreS hN hZ hS (fun q h => hFc q h) hPc hKc hDc) rfl rfl hl.1 rfl (lv_room (Nat.le_of_ble_eq_true rfl)) dX6_setValue_14 ⟨Nat.le_of_ble_eq_true rfl, Nat.le_of_ble_eq_true rfl⟩) hS (fun q _ h => hFc q h) hFc (fun q _ h => hFc q h) (fun E ce q9 u t H locs ht hvm hpx hE hz1 hk1 hS hq9 hv9 hc9 => ?_) (fun u t H1 locs ht hvm hw hB hz1 hk1 hS => ?_)
        · skip
          exact thr E ce q9 _ _ _ _ _ _ _ (Or.inr (⟨hE, (fun h9 => h9.elim ((fun h9 => h9 (Or.inr (hc1)))) ((fun h9 => h9 (hr2))))⟩)) hq9 hv9 hc9 hS (Nat.le_of_ble_eq_true rfl) (Nat.le_of_ble_eq_true rfl)
        · skip
          exact hw.elim

set_option maxHeartbeats 4000000 in
set_option maxRecDepth 100000 in
/-- copyWished on a fresh object -/
theorem kX6_copyWished (l : Launch) (dC : Nat → ClassId) (dI : Nat → Nat → Nat) (h0 co un ma tm : Nat) (d dL dP dS w wL wP wS : Nat) (d0 d0N d0B d1 d1N d1B d2 d2N d2B d3 d3N d3B d4 d4N d4B d5 d5N d5B d6 d6N d6B d7 d7N d7B d8 d8N d8B d9 d9N d9B w0 w0N w0B w1 w1N w1B w2 w2N w2B w3 w3N w3B w4 w4N w4B w5 w5N w5B w6 w6N w6B w7 w7N w7B w8 w8N w8B w9 w9N w9B : Nat) (cC cI cP : ClassId) (sz : Nat) : fMi l yX6_copyWished wsX6_copyWished ({ frames := 3, cells := 0, slots := 0, locals := 73 } : Room) dC dI [.ref h0] [(h0, .inr (9, [.ref w, .ref d, .ref co, .ref un, .ref ma, .ref tm, .int 0, .int 0, .int 0])), (d, .inr (3, [.int 0, .int 0, .ref dL, .ref dP, .ref dS])), (w, .inr (3, [.int 0, .int 0, .ref wL, .ref wP, .ref wS])), (dL, .inl (cC, 10, .inl (fun _ => 0))), (wL, .inl (cC, 10, .inl (fun _ => 0))), (dP, .inl (cP, 10, .inr (.inr (.inr (.inr (fch d0 d1 d2 d3 d4 d5 d6 d7 d8 d9)))))), (wP, .inl (cP, 10, .inr (.inr (.inr (.inr (fch w0 w1 w2 w3 w4 w5 w6 w7 w8 w9)))))), (d0, .inr (8, [.int 0, .int 0, .int 0, .int 0, .ref d0N, .ref d0B])), (d0N, .inl (cI, 3, .inl (fun _ => 0))), (d1, .inr (8, [.int 0, .int 0, .int 0, .int 0, .ref d1N, .ref d1B])), (d1N, .inl (cI, 3, .inl (fun _ => 0))), (d2, .inr (8, [.int 0, .int 0, .int 0, .int 0, .ref d2N, .ref d2B])), (d2N, .inl (cI, 3, .inl (fun _ => 0))), (d3, .inr (8, [.int 0, .int 0, .int 0, .int 0, .ref d3N, .ref d3B])), (d3N, .inl (cI, 3, .inl (fun _ => 0))), (d4, .inr (8, [.int 0, .int 0, .int 0, .int 0, .ref d4N, .ref d4B])), (d4N, .inl (cI, 3, .inl (fun _ => 0))), (d5, .inr (8, [.int 0, .int 0, .int 0, .int 0, .ref d5N, .ref d5B])), (d5N, .inl (cI, 3, .inl (fun _ => 0))), (d6, .inr (8, [.int 0, .int 0, .int 0, .int 0, .ref d6N, .ref d6B])), (d6N, .inl (cI, 3, .inl (fun _ => 0))), (d7, .inr (8, [.int 0, .int 0, .int 0, .int 0, .ref d7N, .ref d7B])), (d7N, .inl (cI, 3, .inl (fun _ => 0))), (d8, .inr (8, [.int 0, .int 0, .int 0, .int 0, .ref d8N, .ref d8B])), (d8N, .inl (cI, 3, .inl (fun _ => 0))), (d9, .inr (8, [.int 0, .int 0, .int 0, .int 0, .ref d9N, .ref d9B])), (d9N, .inl (cI, 3, .inl (fun _ => 0))), (w0, .inr (8, [.int 0, .int 0, .int 0, .int 0, .ref w0N, .ref w0B])), (w0N, .inl (cI, 3, .inl (fun _ => 0))), (w1, .inr (8, [.int 0, .int 0, .int 0, .int 0, .ref w1N, .ref w1B])), (w1N, .inl (cI, 3, .inl (fun _ => 0))), (w2, .inr (8, [.int 0, .int 0, .int 0, .int 0, .ref w2N, .ref w2B])), (w2N, .inl (cI, 3, .inl (fun _ => 0))), (w3, .inr (8, [.int 0, .int 0, .int 0, .int 0, .ref w3N, .ref w3B])), (w3N, .inl (cI, 3, .inl (fun _ => 0))), (w4, .inr (8, [.int 0, .int 0, .int 0, .int 0, .ref w4N, .ref w4B])), (w4N, .inl (cI, 3, .inl (fun _ => 0))), (w5, .inr (8, [.int 0, .int 0, .int 0, .int 0, .ref w5N, .ref w5B])), (w5N, .inl (cI, 3, .inl (fun _ => 0))), (w6, .inr (8, [.int 0, .int 0, .int 0, .int 0, .ref w6N, .ref w6B])), (w6N, .inl (cI, 3, .inl (fun _ => 0))), (w7, .inr (8, [.int 0, .int 0, .int 0, .int 0, .ref w7N, .ref w7B])), (w7N, .inl (cI, 3, .inl (fun _ => 0))), (w8, .inr (8, [.int 0, .int 0, .int 0, .int 0, .ref w8N, .ref w8B])), (w8N, .inl (cI, 3, .inl (fun _ => 0))), (w9, .inr (8, [.int 0, .int 0, .int 0, .int 0, .ref w9N, .ref w9B])), (w9N, .inl (cI, 3, .inl (fun _ => 0)))] [(cC, .char), (cI, .int), (cP, .object "Netcompare$Part")] sz (fun (r : Int32) (u : Unit) => r = 0) (fun u => []) (fun u => []) := by
  refine oP_i (y := yX6_copyWished) (cc := cX6_copyWished) (maxL := 1) (by decide) rfl (Nat.le_of_ble_eq_true rfl) ?_
  intro p e s m args below meth c ls A Q hx hb hr hml hown hts hN hZ hA hin hlk hP hK hD hl ret
  have hS : va_S A s.heap s.heap [] := va_S.rf
  have hl : lv_has ls 1 [(0, .ref h0)] := hl
  have hP : va_P (dC, dI) vwCl [(h0, .inr (9, [.ref w, .ref d, .ref co, .ref un, .ref ma, .ref tm, .int 0, .int 0, .int 0])), (d, .inr (3, [.int 0, .int 0, .ref dL, .ref dP, .ref dS])), (w, .inr (3, [.int 0, .int 0, .ref wL, .ref wP, .ref wS])), (dL, .inl (cC, 10, .inl (fun _ => 0))), (wL, .inl (cC, 10, .inl (fun _ => 0))), (dP, .inl (cP, 10, .inr (.inr (.inr (.inr (fch d0 d1 d2 d3 d4 d5 d6 d7 d8 d9)))))), (wP, .inl (cP, 10, .inr (.inr (.inr (.inr (fch w0 w1 w2 w3 w4 w5 w6 w7 w8 w9)))))), (d0, .inr (8, [.int 0, .int 0, .int 0, .int 0, .ref d0N, .ref d0B])), (d0N, .inl (cI, 3, .inl (fun _ => 0))), (d1, .inr (8, [.int 0, .int 0, .int 0, .int 0, .ref d1N, .ref d1B])), (d1N, .inl (cI, 3, .inl (fun _ => 0))), (d2, .inr (8, [.int 0, .int 0, .int 0, .int 0, .ref d2N, .ref d2B])), (d2N, .inl (cI, 3, .inl (fun _ => 0))), (d3, .inr (8, [.int 0, .int 0, .int 0, .int 0, .ref d3N, .ref d3B])), (d3N, .inl (cI, 3, .inl (fun _ => 0))), (d4, .inr (8, [.int 0, .int 0, .int 0, .int 0, .ref d4N, .ref d4B])), (d4N, .inl (cI, 3, .inl (fun _ => 0))), (d5, .inr (8, [.int 0, .int 0, .int 0, .int 0, .ref d5N, .ref d5B])), (d5N, .inl (cI, 3, .inl (fun _ => 0))), (d6, .inr (8, [.int 0, .int 0, .int 0, .int 0, .ref d6N, .ref d6B])), (d6N, .inl (cI, 3, .inl (fun _ => 0))), (d7, .inr (8, [.int 0, .int 0, .int 0, .int 0, .ref d7N, .ref d7B])), (d7N, .inl (cI, 3, .inl (fun _ => 0))), (d8, .inr (8, [.int 0, .int 0, .int 0, .int 0, .ref d8N, .ref d8B])), (d8N, .inl (cI, 3, .inl (fun _ => 0))), (d9, .inr (8, [.int 0, .int 0, .int 0, .int 0, .ref d9N, .ref d9B])), (d9N, .inl (cI, 3, .inl (fun _ => 0))), (w0, .inr (8, [.int 0, .int 0, .int 0, .int 0, .ref w0N, .ref w0B])), (w0N, .inl (cI, 3, .inl (fun _ => 0))), (w1, .inr (8, [.int 0, .int 0, .int 0, .int 0, .ref w1N, .ref w1B])), (w1N, .inl (cI, 3, .inl (fun _ => 0))), (w2, .inr (8, [.int 0, .int 0, .int 0, .int 0, .ref w2N, .ref w2B])), (w2N, .inl (cI, 3, .inl (fun _ => 0))), (w3, .inr (8, [.int 0, .int 0, .int 0, .int 0, .ref w3N, .ref w3B])), (w3N, .inl (cI, 3, .inl (fun _ => 0))), (w4, .inr (8, [.int 0, .int 0, .int 0, .int 0, .ref w4N, .ref w4B])), (w4N, .inl (cI, 3, .inl (fun _ => 0))), (w5, .inr (8, [.int 0, .int 0, .int 0, .int 0, .ref w5N, .ref w5B])), (w5N, .inl (cI, 3, .inl (fun _ => 0))), (w6, .inr (8, [.int 0, .int 0, .int 0, .int 0, .ref w6N, .ref w6B])), (w6N, .inl (cI, 3, .inl (fun _ => 0))), (w7, .inr (8, [.int 0, .int 0, .int 0, .int 0, .ref w7N, .ref w7B])), (w7N, .inl (cI, 3, .inl (fun _ => 0))), (w8, .inr (8, [.int 0, .int 0, .int 0, .int 0, .ref w8N, .ref w8B])), (w8N, .inl (cI, 3, .inl (fun _ => 0))), (w9, .inr (8, [.int 0, .int 0, .int 0, .int 0, .ref w9N, .ref w9B])), (w9N, .inl (cI, 3, .inl (fun _ => 0)))] _ := hP
  have hD : va_D A [(h0, .inr (9, [.ref w, .ref d, .ref co, .ref un, .ref ma, .ref tm, .int 0, .int 0, .int 0])), (d, .inr (3, [.int 0, .int 0, .ref dL, .ref dP, .ref dS])), (w, .inr (3, [.int 0, .int 0, .ref wL, .ref wP, .ref wS])), (dL, .inl (cC, 10, .inl (fun _ => 0))), (wL, .inl (cC, 10, .inl (fun _ => 0))), (dP, .inl (cP, 10, .inr (.inr (.inr (.inr (fch d0 d1 d2 d3 d4 d5 d6 d7 d8 d9)))))), (wP, .inl (cP, 10, .inr (.inr (.inr (.inr (fch w0 w1 w2 w3 w4 w5 w6 w7 w8 w9)))))), (d0, .inr (8, [.int 0, .int 0, .int 0, .int 0, .ref d0N, .ref d0B])), (d0N, .inl (cI, 3, .inl (fun _ => 0))), (d1, .inr (8, [.int 0, .int 0, .int 0, .int 0, .ref d1N, .ref d1B])), (d1N, .inl (cI, 3, .inl (fun _ => 0))), (d2, .inr (8, [.int 0, .int 0, .int 0, .int 0, .ref d2N, .ref d2B])), (d2N, .inl (cI, 3, .inl (fun _ => 0))), (d3, .inr (8, [.int 0, .int 0, .int 0, .int 0, .ref d3N, .ref d3B])), (d3N, .inl (cI, 3, .inl (fun _ => 0))), (d4, .inr (8, [.int 0, .int 0, .int 0, .int 0, .ref d4N, .ref d4B])), (d4N, .inl (cI, 3, .inl (fun _ => 0))), (d5, .inr (8, [.int 0, .int 0, .int 0, .int 0, .ref d5N, .ref d5B])), (d5N, .inl (cI, 3, .inl (fun _ => 0))), (d6, .inr (8, [.int 0, .int 0, .int 0, .int 0, .ref d6N, .ref d6B])), (d6N, .inl (cI, 3, .inl (fun _ => 0))), (d7, .inr (8, [.int 0, .int 0, .int 0, .int 0, .ref d7N, .ref d7B])), (d7N, .inl (cI, 3, .inl (fun _ => 0))), (d8, .inr (8, [.int 0, .int 0, .int 0, .int 0, .ref d8N, .ref d8B])), (d8N, .inl (cI, 3, .inl (fun _ => 0))), (d9, .inr (8, [.int 0, .int 0, .int 0, .int 0, .ref d9N, .ref d9B])), (d9N, .inl (cI, 3, .inl (fun _ => 0))), (w0, .inr (8, [.int 0, .int 0, .int 0, .int 0, .ref w0N, .ref w0B])), (w0N, .inl (cI, 3, .inl (fun _ => 0))), (w1, .inr (8, [.int 0, .int 0, .int 0, .int 0, .ref w1N, .ref w1B])), (w1N, .inl (cI, 3, .inl (fun _ => 0))), (w2, .inr (8, [.int 0, .int 0, .int 0, .int 0, .ref w2N, .ref w2B])), (w2N, .inl (cI, 3, .inl (fun _ => 0))), (w3, .inr (8, [.int 0, .int 0, .int 0, .int 0, .ref w3N, .ref w3B])), (w3N, .inl (cI, 3, .inl (fun _ => 0))), (w4, .inr (8, [.int 0, .int 0, .int 0, .int 0, .ref w4N, .ref w4B])), (w4N, .inl (cI, 3, .inl (fun _ => 0))), (w5, .inr (8, [.int 0, .int 0, .int 0, .int 0, .ref w5N, .ref w5B])), (w5N, .inl (cI, 3, .inl (fun _ => 0))), (w6, .inr (8, [.int 0, .int 0, .int 0, .int 0, .ref w6N, .ref w6B])), (w6N, .inl (cI, 3, .inl (fun _ => 0))), (w7, .inr (8, [.int 0, .int 0, .int 0, .int 0, .ref w7N, .ref w7B])), (w7N, .inl (cI, 3, .inl (fun _ => 0))), (w8, .inr (8, [.int 0, .int 0, .int 0, .int 0, .ref w8N, .ref w8B])), (w8N, .inl (cI, 3, .inl (fun _ => 0))), (w9, .inr (8, [.int 0, .int 0, .int 0, .int 0, .ref w9N, .ref w9B])), (w9N, .inl (cI, 3, .inl (fun _ => 0)))] := hD
  refine lv_aload_n hx hb dX6_copyWished_0 rfl (lv_at hl 0 rfl) ?_
  have hPc := hP.sub (ws' := [(h0, .inr (9, [.ref w, .ref d, .ref co, .ref un, .ref ma, .ref tm, .int 0, .int 0, .int 0]))]) [0] rfl
  have hDc := hD.sub (ws' := [(h0, .inr (9, [.ref w, .ref d, .ref co, .ref un, .ref ma, .ref tm, .int 0, .int 0, .int 0]))]) [0] (by decide) rfl
  have hKc := hK.sub (tys' := []) [] rfl
  have hFc := va_free (wc := [(h0, .inr (9, [.ref w, .ref d, .ref co, .ref un, .ref ma, .ref tm, .int 0, .int 0, .int 0]))]) hD hS hA [0] rfl
  refine va_callv (va_runV (As := []) (rest := []) ⟨hx, hb, hml, hown, hts⟩ (kX6_forget l dC dI h0 w d co un ma tm s.heap.size) (cwV 0 hts gX6_copyWished_X6_forget rfl rfl rfl (by decide +kernel) ⟨Nat.le_of_ble_eq_true rfl, Nat.le_of_ble_eq_true rfl⟩) (fPreV hN hZ hS (fun q h => hFc q h) hPc hKc hDc (ci := 9) (q0 := 0) rfl rfl) rfl rfl hl.1 rfl (lv_room (Nat.le_of_ble_eq_true rfl)) dX6_copyWished_1 ⟨Nat.le_of_ble_eq_true rfl, Nat.le_of_ble_eq_true rfl⟩) hS (fun q _ h => hFc q h) hFc (fun u t H1 locs ht hvm hw hB hz1 hk1 hS => ?_)
  obtain ⟨hP1, hK1, hD1⟩ := hB
  rw [ht] at hP1
  have hK1 := va_K.moved hvm.symm hK1
  obtain ⟨hP, hD⟩ := va_join (wr := [(d, .inr (3, [.int 0, .int 0, .ref dL, .ref dP, .ref dS])), (w, .inr (3, [.int 0, .int 0, .ref wL, .ref wP, .ref wS])), (dL, .inl (cC, 10, .inl (fun _ => 0))), (wL, .inl (cC, 10, .inl (fun _ => 0))), (dP, .inl (cP, 10, .inr (.inr (.inr (.inr (fch d0 d1 d2 d3 d4 d5 d6 d7 d8 d9)))))), (wP, .inl (cP, 10, .inr (.inr (.inr (.inr (fch w0 w1 w2 w3 w4 w5 w6 w7 w8 w9)))))), (d0, .inr (8, [.int 0, .int 0, .int 0, .int 0, .ref d0N, .ref d0B])), (d0N, .inl (cI, 3, .inl (fun _ => 0))), (d1, .inr (8, [.int 0, .int 0, .int 0, .int 0, .ref d1N, .ref d1B])), (d1N, .inl (cI, 3, .inl (fun _ => 0))), (d2, .inr (8, [.int 0, .int 0, .int 0, .int 0, .ref d2N, .ref d2B])), (d2N, .inl (cI, 3, .inl (fun _ => 0))), (d3, .inr (8, [.int 0, .int 0, .int 0, .int 0, .ref d3N, .ref d3B])), (d3N, .inl (cI, 3, .inl (fun _ => 0))), (d4, .inr (8, [.int 0, .int 0, .int 0, .int 0, .ref d4N, .ref d4B])), (d4N, .inl (cI, 3, .inl (fun _ => 0))), (d5, .inr (8, [.int 0, .int 0, .int 0, .int 0, .ref d5N, .ref d5B])), (d5N, .inl (cI, 3, .inl (fun _ => 0))), (d6, .inr (8, [.int 0, .int 0, .int 0, .int 0, .ref d6N, .ref d6B])), (d6N, .inl (cI, 3, .inl (fun _ => 0))), (d7, .inr (8, [.int 0, .int 0, .int 0, .int 0, .ref d7N, .ref d7B])), (d7N, .inl (cI, 3, .inl (fun _ => 0))), (d8, .inr (8, [.int 0, .int 0, .int 0, .int 0, .ref d8N, .ref d8B])), (d8N, .inl (cI, 3, .inl (fun _ => 0))), (d9, .inr (8, [.int 0, .int 0, .int 0, .int 0, .ref d9N, .ref d9B])), (d9N, .inl (cI, 3, .inl (fun _ => 0))), (w0, .inr (8, [.int 0, .int 0, .int 0, .int 0, .ref w0N, .ref w0B])), (w0N, .inl (cI, 3, .inl (fun _ => 0))), (w1, .inr (8, [.int 0, .int 0, .int 0, .int 0, .ref w1N, .ref w1B])), (w1N, .inl (cI, 3, .inl (fun _ => 0))), (w2, .inr (8, [.int 0, .int 0, .int 0, .int 0, .ref w2N, .ref w2B])), (w2N, .inl (cI, 3, .inl (fun _ => 0))), (w3, .inr (8, [.int 0, .int 0, .int 0, .int 0, .ref w3N, .ref w3B])), (w3N, .inl (cI, 3, .inl (fun _ => 0))), (w4, .inr (8, [.int 0, .int 0, .int 0, .int 0, .ref w4N, .ref w4B])), (w4N, .inl (cI, 3, .inl (fun _ => 0))), (w5, .inr (8, [.int 0, .int 0, .int 0, .int 0, .ref w5N, .ref w5B])), (w5N, .inl (cI, 3, .inl (fun _ => 0))), (w6, .inr (8, [.int 0, .int 0, .int 0, .int 0, .ref w6N, .ref w6B])), (w6N, .inl (cI, 3, .inl (fun _ => 0))), (w7, .inr (8, [.int 0, .int 0, .int 0, .int 0, .ref w7N, .ref w7B])), (w7N, .inl (cI, 3, .inl (fun _ => 0))), (w8, .inr (8, [.int 0, .int 0, .int 0, .int 0, .ref w8N, .ref w8B])), (w8N, .inl (cI, 3, .inl (fun _ => 0))), (w9, .inr (8, [.int 0, .int 0, .int 0, .int 0, .ref w9N, .ref w9B])), (w9N, .inl (cI, 3, .inl (fun _ => 0)))]) (w1 := [(h0, .inr (9, [.ref w, .ref d, .ref co, .ref un, .ref ma, .ref tm, .int 0, .int 0, .int 0]))]) hP hD [0] [1, 2, 3, 4, 5, 6, 7, 8, 9, 10, 11, 12, 13, 14, 15, 16, 17, 18, 19, 20, 21, 22, 23, 24, 25, 26, 27, 28, 29, 30, 31, 32, 33, 34, 35, 36, 37, 38, 39, 40, 41, 42, 43, 44, 45, 46] rfl rfl (by decide) (by decide) hk1 hFc hP1 hD1
  generalize H1 = H at hP hS ⊢
  have hP : va_P (dC, dI) vwCl [(d, .inr (3, [.int 0, .int 0, .ref dL, .ref dP, .ref dS])), (w, .inr (3, [.int 0, .int 0, .ref wL, .ref wP, .ref wS])), (dL, .inl (cC, 10, .inl (fun _ => 0))), (wL, .inl (cC, 10, .inl (fun _ => 0))), (dP, .inl (cP, 10, .inr (.inr (.inr (.inr (fch d0 d1 d2 d3 d4 d5 d6 d7 d8 d9)))))), (wP, .inl (cP, 10, .inr (.inr (.inr (.inr (fch w0 w1 w2 w3 w4 w5 w6 w7 w8 w9)))))), (d0, .inr (8, [.int 0, .int 0, .int 0, .int 0, .ref d0N, .ref d0B])), (d0N, .inl (cI, 3, .inl (fun _ => 0))), (d1, .inr (8, [.int 0, .int 0, .int 0, .int 0, .ref d1N, .ref d1B])), (d1N, .inl (cI, 3, .inl (fun _ => 0))), (d2, .inr (8, [.int 0, .int 0, .int 0, .int 0, .ref d2N, .ref d2B])), (d2N, .inl (cI, 3, .inl (fun _ => 0))), (d3, .inr (8, [.int 0, .int 0, .int 0, .int 0, .ref d3N, .ref d3B])), (d3N, .inl (cI, 3, .inl (fun _ => 0))), (d4, .inr (8, [.int 0, .int 0, .int 0, .int 0, .ref d4N, .ref d4B])), (d4N, .inl (cI, 3, .inl (fun _ => 0))), (d5, .inr (8, [.int 0, .int 0, .int 0, .int 0, .ref d5N, .ref d5B])), (d5N, .inl (cI, 3, .inl (fun _ => 0))), (d6, .inr (8, [.int 0, .int 0, .int 0, .int 0, .ref d6N, .ref d6B])), (d6N, .inl (cI, 3, .inl (fun _ => 0))), (d7, .inr (8, [.int 0, .int 0, .int 0, .int 0, .ref d7N, .ref d7B])), (d7N, .inl (cI, 3, .inl (fun _ => 0))), (d8, .inr (8, [.int 0, .int 0, .int 0, .int 0, .ref d8N, .ref d8B])), (d8N, .inl (cI, 3, .inl (fun _ => 0))), (d9, .inr (8, [.int 0, .int 0, .int 0, .int 0, .ref d9N, .ref d9B])), (d9N, .inl (cI, 3, .inl (fun _ => 0))), (w0, .inr (8, [.int 0, .int 0, .int 0, .int 0, .ref w0N, .ref w0B])), (w0N, .inl (cI, 3, .inl (fun _ => 0))), (w1, .inr (8, [.int 0, .int 0, .int 0, .int 0, .ref w1N, .ref w1B])), (w1N, .inl (cI, 3, .inl (fun _ => 0))), (w2, .inr (8, [.int 0, .int 0, .int 0, .int 0, .ref w2N, .ref w2B])), (w2N, .inl (cI, 3, .inl (fun _ => 0))), (w3, .inr (8, [.int 0, .int 0, .int 0, .int 0, .ref w3N, .ref w3B])), (w3N, .inl (cI, 3, .inl (fun _ => 0))), (w4, .inr (8, [.int 0, .int 0, .int 0, .int 0, .ref w4N, .ref w4B])), (w4N, .inl (cI, 3, .inl (fun _ => 0))), (w5, .inr (8, [.int 0, .int 0, .int 0, .int 0, .ref w5N, .ref w5B])), (w5N, .inl (cI, 3, .inl (fun _ => 0))), (w6, .inr (8, [.int 0, .int 0, .int 0, .int 0, .ref w6N, .ref w6B])), (w6N, .inl (cI, 3, .inl (fun _ => 0))), (w7, .inr (8, [.int 0, .int 0, .int 0, .int 0, .ref w7N, .ref w7B])), (w7N, .inl (cI, 3, .inl (fun _ => 0))), (w8, .inr (8, [.int 0, .int 0, .int 0, .int 0, .ref w8N, .ref w8B])), (w8N, .inl (cI, 3, .inl (fun _ => 0))), (w9, .inr (8, [.int 0, .int 0, .int 0, .int 0, .ref w9N, .ref w9B])), (w9N, .inl (cI, 3, .inl (fun _ => 0))), (h0, .inr (9, [.ref w, .ref d, .ref co, .ref un, .ref ma, .ref tm, .int 0, .int 0, .int 0]))] _ := hP
  have hD : va_D A [(d, .inr (3, [.int 0, .int 0, .ref dL, .ref dP, .ref dS])), (w, .inr (3, [.int 0, .int 0, .ref wL, .ref wP, .ref wS])), (dL, .inl (cC, 10, .inl (fun _ => 0))), (wL, .inl (cC, 10, .inl (fun _ => 0))), (dP, .inl (cP, 10, .inr (.inr (.inr (.inr (fch d0 d1 d2 d3 d4 d5 d6 d7 d8 d9)))))), (wP, .inl (cP, 10, .inr (.inr (.inr (.inr (fch w0 w1 w2 w3 w4 w5 w6 w7 w8 w9)))))), (d0, .inr (8, [.int 0, .int 0, .int 0, .int 0, .ref d0N, .ref d0B])), (d0N, .inl (cI, 3, .inl (fun _ => 0))), (d1, .inr (8, [.int 0, .int 0, .int 0, .int 0, .ref d1N, .ref d1B])), (d1N, .inl (cI, 3, .inl (fun _ => 0))), (d2, .inr (8, [.int 0, .int 0, .int 0, .int 0, .ref d2N, .ref d2B])), (d2N, .inl (cI, 3, .inl (fun _ => 0))), (d3, .inr (8, [.int 0, .int 0, .int 0, .int 0, .ref d3N, .ref d3B])), (d3N, .inl (cI, 3, .inl (fun _ => 0))), (d4, .inr (8, [.int 0, .int 0, .int 0, .int 0, .ref d4N, .ref d4B])), (d4N, .inl (cI, 3, .inl (fun _ => 0))), (d5, .inr (8, [.int 0, .int 0, .int 0, .int 0, .ref d5N, .ref d5B])), (d5N, .inl (cI, 3, .inl (fun _ => 0))), (d6, .inr (8, [.int 0, .int 0, .int 0, .int 0, .ref d6N, .ref d6B])), (d6N, .inl (cI, 3, .inl (fun _ => 0))), (d7, .inr (8, [.int 0, .int 0, .int 0, .int 0, .ref d7N, .ref d7B])), (d7N, .inl (cI, 3, .inl (fun _ => 0))), (d8, .inr (8, [.int 0, .int 0, .int 0, .int 0, .ref d8N, .ref d8B])), (d8N, .inl (cI, 3, .inl (fun _ => 0))), (d9, .inr (8, [.int 0, .int 0, .int 0, .int 0, .ref d9N, .ref d9B])), (d9N, .inl (cI, 3, .inl (fun _ => 0))), (w0, .inr (8, [.int 0, .int 0, .int 0, .int 0, .ref w0N, .ref w0B])), (w0N, .inl (cI, 3, .inl (fun _ => 0))), (w1, .inr (8, [.int 0, .int 0, .int 0, .int 0, .ref w1N, .ref w1B])), (w1N, .inl (cI, 3, .inl (fun _ => 0))), (w2, .inr (8, [.int 0, .int 0, .int 0, .int 0, .ref w2N, .ref w2B])), (w2N, .inl (cI, 3, .inl (fun _ => 0))), (w3, .inr (8, [.int 0, .int 0, .int 0, .int 0, .ref w3N, .ref w3B])), (w3N, .inl (cI, 3, .inl (fun _ => 0))), (w4, .inr (8, [.int 0, .int 0, .int 0, .int 0, .ref w4N, .ref w4B])), (w4N, .inl (cI, 3, .inl (fun _ => 0))), (w5, .inr (8, [.int 0, .int 0, .int 0, .int 0, .ref w5N, .ref w5B])), (w5N, .inl (cI, 3, .inl (fun _ => 0))), (w6, .inr (8, [.int 0, .int 0, .int 0, .int 0, .ref w6N, .ref w6B])), (w6N, .inl (cI, 3, .inl (fun _ => 0))), (w7, .inr (8, [.int 0, .int 0, .int 0, .int 0, .ref w7N, .ref w7B])), (w7N, .inl (cI, 3, .inl (fun _ => 0))), (w8, .inr (8, [.int 0, .int 0, .int 0, .int 0, .ref w8N, .ref w8B])), (w8N, .inl (cI, 3, .inl (fun _ => 0))), (w9, .inr (8, [.int 0, .int 0, .int 0, .int 0, .ref w9N, .ref w9B])), (w9N, .inl (cI, 3, .inl (fun _ => 0))), (h0, .inr (9, [.ref w, .ref d, .ref co, .ref un, .ref ma, .ref tm, .int 0, .int 0, .int 0]))] := hD
  refine lv_aload_n hx hb dX6_copyWished_4 rfl (lv_at hl 0 rfl) ?_
  refine va_get (D := (dC, dI)) (ci := 9) (v := .ref d) (C := RX6) (T := TX6) (N := 9) hx hb hts (fun w h => List.mem_cons_of_mem _ (List.mem_append_left _ (List.mem_append_left _ (List.mem_append_right _ (h))))) hown hK hP 46 rfl rfl 1 (by decide) (hts (.fieldLink RX6 16 "Netcompare" "drawn" "LNetcompare$Circuit;") (List.mem_cons_of_mem _ (List.mem_append_left _ (List.mem_append_left _ (List.mem_append_left _ (List.mem_append_left _ (List.mem_of_getElem? (i := 0) rfl))))))) (fun _ h9 => h9) rfl dX6_copyWished_5 ?_
  refine lv_aload_n hx hb dX6_copyWished_8 rfl (lv_at hl 0 rfl) ?_
  refine va_get (D := (dC, dI)) (ci := 9) (v := .ref w) (C := RX6) (T := TX6) (N := 9) hx hb hts (fun w h => List.mem_cons_of_mem _ (List.mem_append_left _ (List.mem_append_left _ (List.mem_append_right _ (h))))) hown hK hP 46 rfl rfl 0 (by decide) (hts (.fieldLink RX6 10 "Netcompare" "wished" "LNetcompare$Circuit;") (List.mem_cons_of_mem _ (List.mem_append_left _ (List.mem_append_left _ (List.mem_append_left _ (List.mem_append_left _ (List.mem_of_getElem? (i := 1) rfl))))))) (fun _ h9 => h9) rfl dX6_copyWished_9 ?_
  have hPc := hP.sub (ws' := [(d, .inr (3, [.int 0, .int 0, .ref dL, .ref dP, .ref dS])), (w, .inr (3, [.int 0, .int 0, .ref wL, .ref wP, .ref wS])), (dL, .inl (cC, 10, .inl (fun _ => 0))), (wL, .inl (cC, 10, .inl (fun _ => 0))), (dP, .inl (cP, 10, .inr (.inr (.inr (.inr (fch d0 d1 d2 d3 d4 d5 d6 d7 d8 d9)))))), (wP, .inl (cP, 10, .inr (.inr (.inr (.inr (fch w0 w1 w2 w3 w4 w5 w6 w7 w8 w9)))))), (d0, .inr (8, [.int 0, .int 0, .int 0, .int 0, .ref d0N, .ref d0B])), (d0N, .inl (cI, 3, .inl (fun _ => 0))), (d1, .inr (8, [.int 0, .int 0, .int 0, .int 0, .ref d1N, .ref d1B])), (d1N, .inl (cI, 3, .inl (fun _ => 0))), (d2, .inr (8, [.int 0, .int 0, .int 0, .int 0, .ref d2N, .ref d2B])), (d2N, .inl (cI, 3, .inl (fun _ => 0))), (d3, .inr (8, [.int 0, .int 0, .int 0, .int 0, .ref d3N, .ref d3B])), (d3N, .inl (cI, 3, .inl (fun _ => 0))), (d4, .inr (8, [.int 0, .int 0, .int 0, .int 0, .ref d4N, .ref d4B])), (d4N, .inl (cI, 3, .inl (fun _ => 0))), (d5, .inr (8, [.int 0, .int 0, .int 0, .int 0, .ref d5N, .ref d5B])), (d5N, .inl (cI, 3, .inl (fun _ => 0))), (d6, .inr (8, [.int 0, .int 0, .int 0, .int 0, .ref d6N, .ref d6B])), (d6N, .inl (cI, 3, .inl (fun _ => 0))), (d7, .inr (8, [.int 0, .int 0, .int 0, .int 0, .ref d7N, .ref d7B])), (d7N, .inl (cI, 3, .inl (fun _ => 0))), (d8, .inr (8, [.int 0, .int 0, .int 0, .int 0, .ref d8N, .ref d8B])), (d8N, .inl (cI, 3, .inl (fun _ => 0))), (d9, .inr (8, [.int 0, .int 0, .int 0, .int 0, .ref d9N, .ref d9B])), (d9N, .inl (cI, 3, .inl (fun _ => 0))), (w0, .inr (8, [.int 0, .int 0, .int 0, .int 0, .ref w0N, .ref w0B])), (w0N, .inl (cI, 3, .inl (fun _ => 0))), (w1, .inr (8, [.int 0, .int 0, .int 0, .int 0, .ref w1N, .ref w1B])), (w1N, .inl (cI, 3, .inl (fun _ => 0))), (w2, .inr (8, [.int 0, .int 0, .int 0, .int 0, .ref w2N, .ref w2B])), (w2N, .inl (cI, 3, .inl (fun _ => 0))), (w3, .inr (8, [.int 0, .int 0, .int 0, .int 0, .ref w3N, .ref w3B])), (w3N, .inl (cI, 3, .inl (fun _ => 0))), (w4, .inr (8, [.int 0, .int 0, .int 0, .int 0, .ref w4N, .ref w4B])), (w4N, .inl (cI, 3, .inl (fun _ => 0))), (w5, .inr (8, [.int 0, .int 0, .int 0, .int 0, .ref w5N, .ref w5B])), (w5N, .inl (cI, 3, .inl (fun _ => 0))), (w6, .inr (8, [.int 0, .int 0, .int 0, .int 0, .ref w6N, .ref w6B])), (w6N, .inl (cI, 3, .inl (fun _ => 0))), (w7, .inr (8, [.int 0, .int 0, .int 0, .int 0, .ref w7N, .ref w7B])), (w7N, .inl (cI, 3, .inl (fun _ => 0))), (w8, .inr (8, [.int 0, .int 0, .int 0, .int 0, .ref w8N, .ref w8B])), (w8N, .inl (cI, 3, .inl (fun _ => 0))), (w9, .inr (8, [.int 0, .int 0, .int 0, .int 0, .ref w9N, .ref w9B])), (w9N, .inl (cI, 3, .inl (fun _ => 0)))]) [0, 1, 2, 3, 4, 5, 6, 7, 8, 9, 10, 11, 12, 13, 14, 15, 16, 17, 18, 19, 20, 21, 22, 23, 24, 25, 26, 27, 28, 29, 30, 31, 32, 33, 34, 35, 36, 37, 38, 39, 40, 41, 42, 43, 44, 45] rfl
  have hDc := hD.sub (ws' := [(d, .inr (3, [.int 0, .int 0, .ref dL, .ref dP, .ref dS])), (w, .inr (3, [.int 0, .int 0, .ref wL, .ref wP, .ref wS])), (dL, .inl (cC, 10, .inl (fun _ => 0))), (wL, .inl (cC, 10, .inl (fun _ => 0))), (dP, .inl (cP, 10, .inr (.inr (.inr (.inr (fch d0 d1 d2 d3 d4 d5 d6 d7 d8 d9)))))), (wP, .inl (cP, 10, .inr (.inr (.inr (.inr (fch w0 w1 w2 w3 w4 w5 w6 w7 w8 w9)))))), (d0, .inr (8, [.int 0, .int 0, .int 0, .int 0, .ref d0N, .ref d0B])), (d0N, .inl (cI, 3, .inl (fun _ => 0))), (d1, .inr (8, [.int 0, .int 0, .int 0, .int 0, .ref d1N, .ref d1B])), (d1N, .inl (cI, 3, .inl (fun _ => 0))), (d2, .inr (8, [.int 0, .int 0, .int 0, .int 0, .ref d2N, .ref d2B])), (d2N, .inl (cI, 3, .inl (fun _ => 0))), (d3, .inr (8, [.int 0, .int 0, .int 0, .int 0, .ref d3N, .ref d3B])), (d3N, .inl (cI, 3, .inl (fun _ => 0))), (d4, .inr (8, [.int 0, .int 0, .int 0, .int 0, .ref d4N, .ref d4B])), (d4N, .inl (cI, 3, .inl (fun _ => 0))), (d5, .inr (8, [.int 0, .int 0, .int 0, .int 0, .ref d5N, .ref d5B])), (d5N, .inl (cI, 3, .inl (fun _ => 0))), (d6, .inr (8, [.int 0, .int 0, .int 0, .int 0, .ref d6N, .ref d6B])), (d6N, .inl (cI, 3, .inl (fun _ => 0))), (d7, .inr (8, [.int 0, .int 0, .int 0, .int 0, .ref d7N, .ref d7B])), (d7N, .inl (cI, 3, .inl (fun _ => 0))), (d8, .inr (8, [.int 0, .int 0, .int 0, .int 0, .ref d8N, .ref d8B])), (d8N, .inl (cI, 3, .inl (fun _ => 0))), (d9, .inr (8, [.int 0, .int 0, .int 0, .int 0, .ref d9N, .ref d9B])), (d9N, .inl (cI, 3, .inl (fun _ => 0))), (w0, .inr (8, [.int 0, .int 0, .int 0, .int 0, .ref w0N, .ref w0B])), (w0N, .inl (cI, 3, .inl (fun _ => 0))), (w1, .inr (8, [.int 0, .int 0, .int 0, .int 0, .ref w1N, .ref w1B])), (w1N, .inl (cI, 3, .inl (fun _ => 0))), (w2, .inr (8, [.int 0, .int 0, .int 0, .int 0, .ref w2N, .ref w2B])), (w2N, .inl (cI, 3, .inl (fun _ => 0))), (w3, .inr (8, [.int 0, .int 0, .int 0, .int 0, .ref w3N, .ref w3B])), (w3N, .inl (cI, 3, .inl (fun _ => 0))), (w4, .inr (8, [.int 0, .int 0, .int 0, .int 0, .ref w4N, .ref w4B])), (w4N, .inl (cI, 3, .inl (fun _ => 0))), (w5, .inr (8, [.int 0, .int 0, .int 0, .int 0, .ref w5N, .ref w5B])), (w5N, .inl (cI, 3, .inl (fun _ => 0))), (w6, .inr (8, [.int 0, .int 0, .int 0, .int 0, .ref w6N, .ref w6B])), (w6N, .inl (cI, 3, .inl (fun _ => 0))), (w7, .inr (8, [.int 0, .int 0, .int 0, .int 0, .ref w7N, .ref w7B])), (w7N, .inl (cI, 3, .inl (fun _ => 0))), (w8, .inr (8, [.int 0, .int 0, .int 0, .int 0, .ref w8N, .ref w8B])), (w8N, .inl (cI, 3, .inl (fun _ => 0))), (w9, .inr (8, [.int 0, .int 0, .int 0, .int 0, .ref w9N, .ref w9B])), (w9N, .inl (cI, 3, .inl (fun _ => 0)))]) [0, 1, 2, 3, 4, 5, 6, 7, 8, 9, 10, 11, 12, 13, 14, 15, 16, 17, 18, 19, 20, 21, 22, 23, 24, 25, 26, 27, 28, 29, 30, 31, 32, 33, 34, 35, 36, 37, 38, 39, 40, 41, 42, 43, 44, 45] (by decide) rfl
  have hKc := hK.sub (tys' := [(cC, .char), (cI, .int), (cP, .object "Netcompare$Part")]) [0, 1, 2] rfl
  have hFc := va_free (wc := [(d, .inr (3, [.int 0, .int 0, .ref dL, .ref dP, .ref dS])), (w, .inr (3, [.int 0, .int 0, .ref wL, .ref wP, .ref wS])), (dL, .inl (cC, 10, .inl (fun _ => 0))), (wL, .inl (cC, 10, .inl (fun _ => 0))), (dP, .inl (cP, 10, .inr (.inr (.inr (.inr (fch d0 d1 d2 d3 d4 d5 d6 d7 d8 d9)))))), (wP, .inl (cP, 10, .inr (.inr (.inr (.inr (fch w0 w1 w2 w3 w4 w5 w6 w7 w8 w9)))))), (d0, .inr (8, [.int 0, .int 0, .int 0, .int 0, .ref d0N, .ref d0B])), (d0N, .inl (cI, 3, .inl (fun _ => 0))), (d1, .inr (8, [.int 0, .int 0, .int 0, .int 0, .ref d1N, .ref d1B])), (d1N, .inl (cI, 3, .inl (fun _ => 0))), (d2, .inr (8, [.int 0, .int 0, .int 0, .int 0, .ref d2N, .ref d2B])), (d2N, .inl (cI, 3, .inl (fun _ => 0))), (d3, .inr (8, [.int 0, .int 0, .int 0, .int 0, .ref d3N, .ref d3B])), (d3N, .inl (cI, 3, .inl (fun _ => 0))), (d4, .inr (8, [.int 0, .int 0, .int 0, .int 0, .ref d4N, .ref d4B])), (d4N, .inl (cI, 3, .inl (fun _ => 0))), (d5, .inr (8, [.int 0, .int 0, .int 0, .int 0, .ref d5N, .ref d5B])), (d5N, .inl (cI, 3, .inl (fun _ => 0))), (d6, .inr (8, [.int 0, .int 0, .int 0, .int 0, .ref d6N, .ref d6B])), (d6N, .inl (cI, 3, .inl (fun _ => 0))), (d7, .inr (8, [.int 0, .int 0, .int 0, .int 0, .ref d7N, .ref d7B])), (d7N, .inl (cI, 3, .inl (fun _ => 0))), (d8, .inr (8, [.int 0, .int 0, .int 0, .int 0, .ref d8N, .ref d8B])), (d8N, .inl (cI, 3, .inl (fun _ => 0))), (d9, .inr (8, [.int 0, .int 0, .int 0, .int 0, .ref d9N, .ref d9B])), (d9N, .inl (cI, 3, .inl (fun _ => 0))), (w0, .inr (8, [.int 0, .int 0, .int 0, .int 0, .ref w0N, .ref w0B])), (w0N, .inl (cI, 3, .inl (fun _ => 0))), (w1, .inr (8, [.int 0, .int 0, .int 0, .int 0, .ref w1N, .ref w1B])), (w1N, .inl (cI, 3, .inl (fun _ => 0))), (w2, .inr (8, [.int 0, .int 0, .int 0, .int 0, .ref w2N, .ref w2B])), (w2N, .inl (cI, 3, .inl (fun _ => 0))), (w3, .inr (8, [.int 0, .int 0, .int 0, .int 0, .ref w3N, .ref w3B])), (w3N, .inl (cI, 3, .inl (fun _ => 0))), (w4, .inr (8, [.int 0, .int 0, .int 0, .int 0, .ref w4N, .ref w4B])), (w4N, .inl (cI, 3, .inl (fun _ => 0))), (w5, .inr (8, [.int 0, .int 0, .int 0, .int 0, .ref w5N, .ref w5B])), (w5N, .inl (cI, 3, .inl (fun _ => 0))), (w6, .inr (8, [.int 0, .int 0, .int 0, .int 0, .ref w6N, .ref w6B])), (w6N, .inl (cI, 3, .inl (fun _ => 0))), (w7, .inr (8, [.int 0, .int 0, .int 0, .int 0, .ref w7N, .ref w7B])), (w7N, .inl (cI, 3, .inl (fun _ => 0))), (w8, .inr (8, [.int 0, .int 0, .int 0, .int 0, .ref w8N, .ref w8B])), (w8N, .inl (cI, 3, .inl (fun _ => 0))), (w9, .inr (8, [.int 0, .int 0, .int 0, .int 0, .ref w9N, .ref w9B])), (w9N, .inl (cI, 3, .inl (fun _ => 0)))]) hD hS hA [0, 1, 2, 3, 4, 5, 6, 7, 8, 9, 10, 11, 12, 13, 14, 15, 16, 17, 18, 19, 20, 21, 22, 23, 24, 25, 26, 27, 28, 29, 30, 31, 32, 33, 34, 35, 36, 37, 38, 39, 40, 41, 42, 43, 44, 45] rfl
  refine va_callv (va_runV (As := [.ref w]) (rest := []) ⟨hx, hb, hml, hown, hts⟩ (kX0_copyFrom l dC dI d dL dP dS w wL wP wS d0 d0N d0B d1 d1N d1B d2 d2N d2B d3 d3N d3B d4 d4N d4B d5 d5N d5B d6 d6N d6B d7 d7N d7B d8 d8N d8B d9 d9N d9B w0 w0N w0B w1 w1N w1B w2 w2N w2B w3 w3N w3B w4 w4N w4B w5 w5N w5B w6 w6N w6B w7 w7N w7B w8 w8N w8B w9 w9N w9B cC cI cP H.size) (cwV 1 hts gX6_copyWished_X0_copyFrom rfl rfl rfl (by decide +kernel) ⟨Nat.le_of_ble_eq_true rfl, Nat.le_of_ble_eq_true rfl⟩) (fPreV hN hZ hS (fun q h => hFc q h) hPc hKc hDc (ci := 3) (q0 := 0) rfl rfl) rfl rfl hl.1 rfl (lv_room (Nat.le_of_ble_eq_true rfl)) dX6_copyWished_12 ⟨Nat.le_of_ble_eq_true rfl, Nat.le_of_ble_eq_true rfl⟩) hS (fun q _ h => hFc q h) hFc (fun u t H1 locs ht hvm hw hB hz1 hk1 hS => ?_)
  obtain ⟨hP1, hK1, hD1⟩ := hB
  rw [ht] at hP1
  have hK1 := va_K.moved hvm.symm hK1
  obtain ⟨hP, hD⟩ := va_join (wr := [(h0, .inr (9, [.ref w, .ref d, .ref co, .ref un, .ref ma, .ref tm, .int 0, .int 0, .int 0]))]) (w1 := [(d, .inr (3, [.int 0, .int 0, .ref dL, .ref dP, .ref dS]))]) hP hD [0, 1, 2, 3, 4, 5, 6, 7, 8, 9, 10, 11, 12, 13, 14, 15, 16, 17, 18, 19, 20, 21, 22, 23, 24, 25, 26, 27, 28, 29, 30, 31, 32, 33, 34, 35, 36, 37, 38, 39, 40, 41, 42, 43, 44, 45] [46] rfl rfl (by decide) (by decide) hk1 hFc hP1 hD1
  generalize H1 = H at hP hS ⊢
  have hP : va_P (dC, dI) vwCl [(h0, .inr (9, [.ref w, .ref d, .ref co, .ref un, .ref ma, .ref tm, .int 0, .int 0, .int 0])), (d, .inr (3, [.int 0, .int 0, .ref dL, .ref dP, .ref dS]))] _ := hP
  have hD : va_D A [(h0, .inr (9, [.ref w, .ref d, .ref co, .ref un, .ref ma, .ref tm, .int 0, .int 0, .int 0])), (d, .inr (3, [.int 0, .int 0, .ref dL, .ref dP, .ref dS]))] := hD
  refine lv_aload_n hx hb dX6_copyWished_15 rfl (lv_at hl 0 rfl) ?_
  refine va_get (D := (dC, dI)) (ci := 9) (v := .ref d) (C := RX6) (T := TX6) (N := 9) hx hb hts (fun w h => List.mem_cons_of_mem _ (List.mem_append_left _ (List.mem_append_left _ (List.mem_append_right _ (h))))) hown hK hP 0 rfl rfl 1 (by decide) (hts (.fieldLink RX6 16 "Netcompare" "drawn" "LNetcompare$Circuit;") (List.mem_cons_of_mem _ (List.mem_append_left _ (List.mem_append_left _ (List.mem_append_left _ (List.mem_append_left _ (List.mem_of_getElem? (i := 0) rfl))))))) (fun _ h9 => h9) rfl dX6_copyWished_16 ?_
  have hPc := hP.sub (ws' := [(d, .inr (3, [.int 0, .int 0, .ref dL, .ref dP, .ref dS]))]) [1] rfl
  have hDc := hD.sub (ws' := [(d, .inr (3, [.int 0, .int 0, .ref dL, .ref dP, .ref dS]))]) [1] (by decide) rfl
  have hKc := hK.sub (tys' := []) [] rfl
  have hFc := va_free (wc := [(d, .inr (3, [.int 0, .int 0, .ref dL, .ref dP, .ref dS]))]) hD hS hA [1] rfl
  refine va_calli (va_runV (As := []) (rest := []) ⟨hx, hb, hml, hown, hts⟩ (kX0_countParts l dC dI d dL dP dS H.size) (cwV 0 hts gX6_copyWished_X0_countParts rfl rfl rfl (by decide +kernel) ⟨Nat.le_of_ble_eq_true rfl, Nat.le_of_ble_eq_true rfl⟩) (fPreV hN hZ hS (fun q h => hFc q h) hPc hKc hDc (ci := 3) (q0 := 0) rfl rfl) rfl rfl hl.1 rfl (lv_room (Nat.le_of_ble_eq_true rfl)) dX6_copyWished_19 ⟨Nat.le_of_ble_eq_true rfl, Nat.le_of_ble_eq_true rfl⟩) hS (fun q _ h => hFc q h) hFc (fun r u t H1 locs ht hvm hw hB hz1 hk1 hS => ?_)
  obtain ⟨hP1, hK1, hD1⟩ := hB
  rw [ht] at hP1
  have hK1 := va_K.moved hvm.symm hK1
  obtain ⟨hP, hD⟩ := va_join (wr := [(h0, .inr (9, [.ref w, .ref d, .ref co, .ref un, .ref ma, .ref tm, .int 0, .int 0, .int 0]))]) (w1 := [(d, .inr (3, [.int 0, .int 0, .ref dL, .ref dP, .ref dS]))]) hP hD [1] [0] rfl rfl (by decide) (by decide) hk1 hFc hP1 hD1
  generalize H1 = H at hP hS ⊢
  have hP : va_P (dC, dI) vwCl [(h0, .inr (9, [.ref w, .ref d, .ref co, .ref un, .ref ma, .ref tm, .int 0, .int 0, .int 0])), (d, .inr (3, [.int 0, .int 0, .ref dL, .ref dP, .ref dS]))] _ := hP
  have hD : va_D A [(h0, .inr (9, [.ref w, .ref d, .ref co, .ref un, .ref ma, .ref tm, .int 0, .int 0, .int 0])), (d, .inr (3, [.int 0, .int 0, .ref dL, .ref dP, .ref dS]))] := hD
  subst hw
  exact ret _ () _ _ _ _ _ _ (rfl) (hP.sub [] rfl) (hK.sub [] rfl) (hD.sub [] (by decide) rfl) hS (Nat.le_of_ble_eq_true rfl) (Nat.le_of_ble_eq_true rfl) dX6_copyWished_22

set_option maxHeartbeats 4000000 in
set_option maxRecDepth 100000 in
/-- joinAll on a fresh object -/
theorem kX6_joinAll (l : Launch) (hfl : l.stackTraces = false) (dC : Nat → ClassId) (dI : Nat → Nat → Nat) (h0 w d co un ma tm : Nat) (wL wP wS dL dP dS : Nat) (p0 : Int32) (sz : Nat) : fXi l yX6_joinAll wsX6_joinAll ({ frames := 8, cells := 1, slots := 6, locals := 123 } : Room) dC dI [.ref h0, .int p0] [(h0, .inr (9, [.ref w, .ref d, .ref co, .ref un, .ref ma, .ref tm, .int 0, .int 0, .int 0])), (w, .inr (3, [.int 0, .int 0, .ref wL, .ref wP, .ref wS])), (d, .inr (3, [.int 0, .int 0, .ref dL, .ref dP, .ref dS]))] [] sz (fun E : String => E = "java/lang/IllegalArgumentException" ∧ (¬ ((p0 = 0) ∨ (p0 = 1)))) (fun (r : Int32) (u : Unit) => r = 0 ∧ ((p0 = 0) ∨ (p0 = 1))) (fun u => []) (fun u => []) := by
  refine oX_i hfl (y := yX6_joinAll) (cc := cX6_joinAll) (maxL := 3) (by decide) rfl (Nat.le_of_ble_eq_true rfl) ?_
  intro p e s m args below meth c ls A Q hx hb hr hml hown hts hN hZ hA hin hlk hP hK hD hl ret thr thn
  have hS : va_S A s.heap s.heap [] := va_S.rf
  have hl : lv_has ls 3 [(0, .ref h0), (1, .int p0)] := hl
  have hP : va_P (dC, dI) vwCl [(h0, .inr (9, [.ref w, .ref d, .ref co, .ref un, .ref ma, .ref tm, .int 0, .int 0, .int 0])), (w, .inr (3, [.int 0, .int 0, .ref wL, .ref wP, .ref wS])), (d, .inr (3, [.int 0, .int 0, .ref dL, .ref dP, .ref dS]))] _ := hP
  have hD : va_D A [(h0, .inr (9, [.ref w, .ref d, .ref co, .ref un, .ref ma, .ref tm, .int 0, .int 0, .int 0])), (w, .inr (3, [.int 0, .int 0, .ref wL, .ref wP, .ref wS])), (d, .inr (3, [.int 0, .int 0, .ref dL, .ref dP, .ref dS]))] := hD
  refine lv_aload_n hx hb dX6_joinAll_0 rfl (lv_at hl 0 rfl) ?_
  refine lv_iload_n hx hb dX6_joinAll_1 rfl (lv_at hl 1 rfl) ?_
  have hPc := hP.sub (ws' := [(h0, .inr (9, [.ref w, .ref d, .ref co, .ref un, .ref ma, .ref tm, .int 0, .int 0, .int 0]))]) [0] rfl
  have hDc := hD.sub (ws' := [(h0, .inr (9, [.ref w, .ref d, .ref co, .ref un, .ref ma, .ref tm, .int 0, .int 0, .int 0]))]) [0] (by decide) rfl
  have hKc := hK.sub (tys' := []) [] rfl
  have hFc := va_free (wc := [(h0, .inr (9, [.ref w, .ref d, .ref co, .ref un, .ref ma, .ref tm, .int 0, .int 0, .int 0]))]) hD hS hA [0] rfl
  refine vx_callq (vx_runV (As := [.int p0]) (rest := []) ⟨hx, hb, hml, hown, hts⟩ (kX6_circuitAt l hfl dC dI h0 w d co un ma tm p0 s.heap.size) (cwV 1 hts gX6_joinAll_X6_circuitAt rfl rfl rfl (by decide +kernel) ⟨Nat.le_of_ble_eq_true rfl, Nat.le_of_ble_eq_true rfl⟩) (fPreV hN hZ hS (fun q h => hFc q h) hPc hKc hDc (ci := 9) (q0 := 0) rfl rfl) rfl rfl hl.1 rfl (lv_room (Nat.le_of_ble_eq_true rfl)) dX6_joinAll_2 ⟨Nat.le_of_ble_eq_true rfl, Nat.le_of_ble_eq_true rfl⟩) hS (fun q _ h => hFc q h) hFc (fun q _ h => hFc q h) (fun E ce q9 u t H locs ht hvm hpx hE hz1 hk1 hS hq9 hv9 hc9 => ?_) (fun r u t H1 locs ht hvm hw hB hz1 hk1 hS => ?_)
  · skip
    exact thr E ce q9 _ _ _ _ _ _ _ (⟨hE.1, hE.2⟩) hq9 hv9 hc9 hS (Nat.le_of_ble_eq_true rfl) (Nat.le_of_ble_eq_true rfl)
  · skip
    obtain ⟨hP1, hK1, hD1⟩ := hB
    rw [ht] at hP1
    have hK1 := va_K.moved hvm.symm hK1
    obtain ⟨hP, hD⟩ := va_join (wr := [(w, .inr (3, [.int 0, .int 0, .ref wL, .ref wP, .ref wS])), (d, .inr (3, [.int 0, .int 0, .ref dL, .ref dP, .ref dS]))]) (w1 := [(h0, .inr (9, [.ref w, .ref d, .ref co, .ref un, .ref ma, .ref tm, .int 0, .int 0, .int 0]))]) hP hD [0] [1, 2] rfl rfl (by decide) (by decide) hk1 hFc hP1 hD1
    generalize H1 = H at hP hS ⊢
    have hP : va_P (dC, dI) vwCl [(w, .inr (3, [.int 0, .int 0, .ref wL, .ref wP, .ref wS])), (d, .inr (3, [.int 0, .int 0, .ref dL, .ref dP, .ref dS])), (h0, .inr (9, [.ref w, .ref d, .ref co, .ref un, .ref ma, .ref tm, .int 0, .int 0, .int 0]))] _ := hP
    have hD : va_D A [(w, .inr (3, [.int 0, .int 0, .ref wL, .ref wP, .ref wS])), (d, .inr (3, [.int 0, .int 0, .ref dL, .ref dP, .ref dS])), (h0, .inr (9, [.ref w, .ref d, .ref co, .ref un, .ref ma, .ref tm, .int 0, .int 0, .int 0]))] := hD
    refine W.widen (k := 1) (n := 6) (Nat.le_of_ble_eq_true rfl) (Nat.le_of_ble_eq_true rfl) ?_
    rcases hw with ⟨hc0, rfl⟩ | ⟨hc1, rfl⟩
    · skip
      refine W.eq (g2 := F0 m 5 ls [.ref w]) rfl ?_
      refine lv_astore_n (lv' := [(2, .ref w), (0, .ref h0), (1, .int p0)]) hx hb dX6_joinAll_5 rfl hl (Nat.le_of_ble_eq_true rfl) rfl (fun ls hl => ?_)
      refine lv_aload_n hx hb dX6_joinAll_6 rfl (lv_at hl 1 rfl) ?_
      have hPc := hP.sub (ws' := [(h0, .inr (9, [.ref w, .ref d, .ref co, .ref un, .ref ma, .ref tm, .int 0, .int 0, .int 0]))]) [2] rfl
      have hDc := hD.sub (ws' := [(h0, .inr (9, [.ref w, .ref d, .ref co, .ref un, .ref ma, .ref tm, .int 0, .int 0, .int 0]))]) [2] (by decide) rfl
      have hKc := hK.sub (tys' := []) [] rfl
      have hFc := va_free (wc := [(h0, .inr (9, [.ref w, .ref d, .ref co, .ref un, .ref ma, .ref tm, .int 0, .int 0, .int 0]))]) hD hS hA [2] rfl
      refine va_callv (va_runV (As := []) (rest := []) ⟨hx, hb, hml, hown, hts⟩ (kX6_forget l dC dI h0 w d co un ma tm H.size) (cwV 0 hts gX6_joinAll_X6_forget rfl rfl rfl (by decide +kernel) ⟨Nat.le_of_ble_eq_true rfl, Nat.le_of_ble_eq_true rfl⟩) (fPreV hN hZ hS (fun q h => hFc q h) hPc hKc hDc (ci := 9) (q0 := 0) rfl rfl) rfl rfl hl.1 rfl (lv_room (Nat.le_of_ble_eq_true rfl)) dX6_joinAll_7 ⟨Nat.le_of_ble_eq_true rfl, Nat.le_of_ble_eq_true rfl⟩) hS (fun q _ h => hFc q h) hFc (fun u t H1 locs ht hvm hw hB hz1 hk1 hS => ?_)
      obtain ⟨hP1, hK1, hD1⟩ := hB
      rw [ht] at hP1
      have hK1 := va_K.moved hvm.symm hK1
      obtain ⟨hP, hD⟩ := va_join (wr := [(w, .inr (3, [.int 0, .int 0, .ref wL, .ref wP, .ref wS])), (d, .inr (3, [.int 0, .int 0, .ref dL, .ref dP, .ref dS]))]) (w1 := [(h0, .inr (9, [.ref w, .ref d, .ref co, .ref un, .ref ma, .ref tm, .int 0, .int 0, .int 0]))]) hP hD [2] [0, 1] rfl rfl (by decide) (by decide) hk1 hFc hP1 hD1
      generalize H1 = H at hP hS ⊢
      have hP : va_P (dC, dI) vwCl [(w, .inr (3, [.int 0, .int 0, .ref wL, .ref wP, .ref wS])), (d, .inr (3, [.int 0, .int 0, .ref dL, .ref dP, .ref dS])), (h0, .inr (9, [.ref w, .ref d, .ref co, .ref un, .ref ma, .ref tm, .int 0, .int 0, .int 0]))] _ := hP
      have hD : va_D A [(w, .inr (3, [.int 0, .int 0, .ref wL, .ref wP, .ref wS])), (d, .inr (3, [.int 0, .int 0, .ref dL, .ref dP, .ref dS])), (h0, .inr (9, [.ref w, .ref d, .ref co, .ref un, .ref ma, .ref tm, .int 0, .int 0, .int 0]))] := hD
      refine lv_aload_n hx hb dX6_joinAll_10 rfl (lv_at hl 0 rfl) ?_
      have hPc := hP.sub (ws' := [(w, .inr (3, [.int 0, .int 0, .ref wL, .ref wP, .ref wS]))]) [0] rfl
      have hDc := hD.sub (ws' := [(w, .inr (3, [.int 0, .int 0, .ref wL, .ref wP, .ref wS]))]) [0] (by decide) rfl
      have hKc := hK.sub (tys' := []) [] rfl
      have hFc := va_free (wc := [(w, .inr (3, [.int 0, .int 0, .ref wL, .ref wP, .ref wS]))]) hD hS hA [0] rfl
      refine va_calli (va_runV (As := []) (rest := []) ⟨hx, hb, hml, hown, hts⟩ (kX0_joinWhilePossible l dC dI w wL wP wS H.size) (cwV 0 hts gX6_joinAll_X0_joinWhilePossible rfl rfl rfl (by decide +kernel) ⟨Nat.le_of_ble_eq_true rfl, Nat.le_of_ble_eq_true rfl⟩) (fPreV hN hZ hS (fun q h => hFc q h) hPc hKc hDc (ci := 3) (q0 := 0) rfl rfl) rfl rfl hl.1 rfl (lv_room (Nat.le_of_ble_eq_true rfl)) dX6_joinAll_11 ⟨Nat.le_of_ble_eq_true rfl, Nat.le_of_ble_eq_true rfl⟩) hS (fun q _ h => hFc q h) hFc (fun r u t H1 locs ht hvm hw hB hz1 hk1 hS => ?_)
      obtain ⟨hP1, hK1, hD1⟩ := hB
      rw [ht] at hP1
      have hK1 := va_K.moved hvm.symm hK1
      obtain ⟨hP, hD⟩ := va_join (wr := [(d, .inr (3, [.int 0, .int 0, .ref dL, .ref dP, .ref dS])), (h0, .inr (9, [.ref w, .ref d, .ref co, .ref un, .ref ma, .ref tm, .int 0, .int 0, .int 0]))]) (w1 := [(w, .inr (3, [.int 0, .int 0, .ref wL, .ref wP, .ref wS]))]) hP hD [0] [1, 2] rfl rfl (by decide) (by decide) hk1 hFc hP1 hD1
      generalize H1 = H at hP hS ⊢
      have hP : va_P (dC, dI) vwCl [(d, .inr (3, [.int 0, .int 0, .ref dL, .ref dP, .ref dS])), (h0, .inr (9, [.ref w, .ref d, .ref co, .ref un, .ref ma, .ref tm, .int 0, .int 0, .int 0])), (w, .inr (3, [.int 0, .int 0, .ref wL, .ref wP, .ref wS]))] _ := hP
      have hD : va_D A [(d, .inr (3, [.int 0, .int 0, .ref dL, .ref dP, .ref dS])), (h0, .inr (9, [.ref w, .ref d, .ref co, .ref un, .ref ma, .ref tm, .int 0, .int 0, .int 0])), (w, .inr (3, [.int 0, .int 0, .ref wL, .ref wP, .ref wS]))] := hD
      subst hw
      exact ret _ () _ _ _ _ _ _ (⟨rfl, Or.inl (hc0)⟩) (hP.sub [] rfl) (hK.sub [] rfl) (hD.sub [] (by decide) rfl) hS (Nat.le_of_ble_eq_true rfl) (Nat.le_of_ble_eq_true rfl) dX6_joinAll_14
    · skip
      refine W.eq (g2 := F0 m 5 ls [.ref d]) rfl ?_
      refine lv_astore_n (lv' := [(2, .ref d), (0, .ref h0), (1, .int p0)]) hx hb dX6_joinAll_5 rfl hl (Nat.le_of_ble_eq_true rfl) rfl (fun ls hl => ?_)
      refine lv_aload_n hx hb dX6_joinAll_6 rfl (lv_at hl 1 rfl) ?_
      have hPc := hP.sub (ws' := [(h0, .inr (9, [.ref w, .ref d, .ref co, .ref un, .ref ma, .ref tm, .int 0, .int 0, .int 0]))]) [2] rfl
      have hDc := hD.sub (ws' := [(h0, .inr (9, [.ref w, .ref d, .ref co, .ref un, .ref ma, .ref tm, .int 0, .int 0, .int 0]))]) [2] (by decide) rfl
      have hKc := hK.sub (tys' := []) [] rfl
      have hFc := va_free (wc := [(h0, .inr (9, [.ref w, .ref d, .ref co, .ref un, .ref ma, .ref tm, .int 0, .int 0, .int 0]))]) hD hS hA [2] rfl
      refine va_callv (va_runV (As := []) (rest := []) ⟨hx, hb, hml, hown, hts⟩ (kX6_forget l dC dI h0 w d co un ma tm H.size) (cwV 0 hts gX6_joinAll_X6_forget rfl rfl rfl (by decide +kernel) ⟨Nat.le_of_ble_eq_true rfl, Nat.le_of_ble_eq_true rfl⟩) (fPreV hN hZ hS (fun q h => hFc q h) hPc hKc hDc (ci := 9) (q0 := 0) rfl rfl) rfl rfl hl.1 rfl (lv_room (Nat.le_of_ble_eq_true rfl)) dX6_joinAll_7 ⟨Nat.le_of_ble_eq_true rfl, Nat.le_of_ble_eq_true rfl⟩) hS (fun q _ h => hFc q h) hFc (fun u t H1 locs ht hvm hw hB hz1 hk1 hS => ?_)
      obtain ⟨hP1, hK1, hD1⟩ := hB
      rw [ht] at hP1
      have hK1 := va_K.moved hvm.symm hK1
      obtain ⟨hP, hD⟩ := va_join (wr := [(w, .inr (3, [.int 0, .int 0, .ref wL, .ref wP, .ref wS])), (d, .inr (3, [.int 0, .int 0, .ref dL, .ref dP, .ref dS]))]) (w1 := [(h0, .inr (9, [.ref w, .ref d, .ref co, .ref un, .ref ma, .ref tm, .int 0, .int 0, .int 0]))]) hP hD [2] [0, 1] rfl rfl (by decide) (by decide) hk1 hFc hP1 hD1
      generalize H1 = H at hP hS ⊢
      have hP : va_P (dC, dI) vwCl [(w, .inr (3, [.int 0, .int 0, .ref wL, .ref wP, .ref wS])), (d, .inr (3, [.int 0, .int 0, .ref dL, .ref dP, .ref dS])), (h0, .inr (9, [.ref w, .ref d, .ref co, .ref un, .ref ma, .ref tm, .int 0, .int 0, .int 0]))] _ := hP
      have hD : va_D A [(w, .inr (3, [.int 0, .int 0, .ref wL, .ref wP, .ref wS])), (d, .inr (3, [.int 0, .int 0, .ref dL, .ref dP, .ref dS])), (h0, .inr (9, [.ref w, .ref d, .ref co, .ref un, .ref ma, .ref tm, .int 0, .int 0, .int 0]))] := hD
      refine lv_aload_n hx hb dX6_joinAll_10 rfl (lv_at hl 0 rfl) ?_
      have hPc := hP.sub (ws' := [(d, .inr (3, [.int 0, .int 0, .ref dL, .ref dP, .ref dS]))]) [1] rfl
      have hDc := hD.sub (ws' := [(d, .inr (3, [.int 0, .int 0, .ref dL, .ref dP, .ref dS]))]) [1] (by decide) rfl
      have hKc := hK.sub (tys' := []) [] rfl
      have hFc := va_free (wc := [(d, .inr (3, [.int 0, .int 0, .ref dL, .ref dP, .ref dS]))]) hD hS hA [1] rfl
      refine va_calli (va_runV (As := []) (rest := []) ⟨hx, hb, hml, hown, hts⟩ (kX0_joinWhilePossible l dC dI d dL dP dS H.size) (cwV 0 hts gX6_joinAll_X0_joinWhilePossible rfl rfl rfl (by decide +kernel) ⟨Nat.le_of_ble_eq_true rfl, Nat.le_of_ble_eq_true rfl⟩) (fPreV hN hZ hS (fun q h => hFc q h) hPc hKc hDc (ci := 3) (q0 := 0) rfl rfl) rfl rfl hl.1 rfl (lv_room (Nat.le_of_ble_eq_true rfl)) dX6_joinAll_11 ⟨Nat.le_of_ble_eq_true rfl, Nat.le_of_ble_eq_true rfl⟩) hS (fun q _ h => hFc q h) hFc (fun r u t H1 locs ht hvm hw hB hz1 hk1 hS => ?_)
      obtain ⟨hP1, hK1, hD1⟩ := hB
      rw [ht] at hP1
      have hK1 := va_K.moved hvm.symm hK1
      obtain ⟨hP, hD⟩ := va_join (wr := [(w, .inr (3, [.int 0, .int 0, .ref wL, .ref wP, .ref wS])), (h0, .inr (9, [.ref w, .ref d, .ref co, .ref un, .ref ma, .ref tm, .int 0, .int 0, .int 0]))]) (w1 := [(d, .inr (3, [.int 0, .int 0, .ref dL, .ref dP, .ref dS]))]) hP hD [1] [0, 2] rfl rfl (by decide) (by decide) hk1 hFc hP1 hD1
      generalize H1 = H at hP hS ⊢
      have hP : va_P (dC, dI) vwCl [(w, .inr (3, [.int 0, .int 0, .ref wL, .ref wP, .ref wS])), (h0, .inr (9, [.ref w, .ref d, .ref co, .ref un, .ref ma, .ref tm, .int 0, .int 0, .int 0])), (d, .inr (3, [.int 0, .int 0, .ref dL, .ref dP, .ref dS]))] _ := hP
      have hD : va_D A [(w, .inr (3, [.int 0, .int 0, .ref wL, .ref wP, .ref wS])), (h0, .inr (9, [.ref w, .ref d, .ref co, .ref un, .ref ma, .ref tm, .int 0, .int 0, .int 0])), (d, .inr (3, [.int 0, .int 0, .ref dL, .ref dP, .ref dS]))] := hD
      subst hw
      exact ret _ () _ _ _ _ _ _ (⟨rfl, Or.inr (hc1)⟩) (hP.sub [] rfl) (hK.sub [] rfl) (hD.sub [] (by decide) rfl) hS (Nat.le_of_ble_eq_true rfl) (Nat.le_of_ble_eq_true rfl) dX6_joinAll_14

set_option maxHeartbeats 4000000 in
set_option maxRecDepth 100000 in
/-- nets on a fresh object -/
theorem kX6_nets (l : Launch) (hfl : l.stackTraces = false) (dC : Nat → ClassId) (dI : Nat → Nat → Nat) (h0 w d co un ma tm : Nat) (wL wP wS dL dP dS : Nat) (p0 : Int32) (sz : Nat) : fXi l yX6_nets wsX6_nets ({ frames := 8, cells := 1, slots := 6, locals := 123 } : Room) dC dI [.ref h0, .int p0] [(h0, .inr (9, [.ref w, .ref d, .ref co, .ref un, .ref ma, .ref tm, .int 0, .int 0, .int 0])), (w, .inr (3, [.int 0, .int 0, .ref wL, .ref wP, .ref wS])), (d, .inr (3, [.int 0, .int 0, .ref dL, .ref dP, .ref dS]))] [] sz (fun E : String => E = "java/lang/IllegalArgumentException" ∧ (¬ ((p0 = 0) ∨ (p0 = 1)))) (fun (r : Int32) (u : Unit) => r = 0 ∧ ((p0 = 0) ∨ (p0 = 1))) (fun u => []) (fun u => []) := by
  refine oX_i hfl (y := yX6_nets) (cc := cX6_nets) (maxL := 2) (by decide) rfl (Nat.le_of_ble_eq_true rfl) ?_
  intro p e s m args below meth c ls A Q hx hb hr hml hown hts hN hZ hA hin hlk hP hK hD hl ret thr thn
  have hS : va_S A s.heap s.heap [] := va_S.rf
  have hl : lv_has ls 2 [(0, .ref h0), (1, .int p0)] := hl
  have hP : va_P (dC, dI) vwCl [(h0, .inr (9, [.ref w, .ref d, .ref co, .ref un, .ref ma, .ref tm, .int 0, .int 0, .int 0])), (w, .inr (3, [.int 0, .int 0, .ref wL, .ref wP, .ref wS])), (d, .inr (3, [.int 0, .int 0, .ref dL, .ref dP, .ref dS]))] _ := hP
  have hD : va_D A [(h0, .inr (9, [.ref w, .ref d, .ref co, .ref un, .ref ma, .ref tm, .int 0, .int 0, .int 0])), (w, .inr (3, [.int 0, .int 0, .ref wL, .ref wP, .ref wS])), (d, .inr (3, [.int 0, .int 0, .ref dL, .ref dP, .ref dS]))] := hD
  refine lv_aload_n hx hb dX6_nets_0 rfl (lv_at hl 0 rfl) ?_
  refine lv_iload_n hx hb dX6_nets_1 rfl (lv_at hl 1 rfl) ?_
  have hPc := hP.sub (ws' := [(h0, .inr (9, [.ref w, .ref d, .ref co, .ref un, .ref ma, .ref tm, .int 0, .int 0, .int 0]))]) [0] rfl
  have hDc := hD.sub (ws' := [(h0, .inr (9, [.ref w, .ref d, .ref co, .ref un, .ref ma, .ref tm, .int 0, .int 0, .int 0]))]) [0] (by decide) rfl
  have hKc := hK.sub (tys' := []) [] rfl
  have hFc := va_free (wc := [(h0, .inr (9, [.ref w, .ref d, .ref co, .ref un, .ref ma, .ref tm, .int 0, .int 0, .int 0]))]) hD hS hA [0] rfl
  refine vx_callq (vx_runV (As := [.int p0]) (rest := []) ⟨hx, hb, hml, hown, hts⟩ (kX6_circuitAt l hfl dC dI h0 w d co un ma tm p0 s.heap.size) (cwV 1 hts gX6_nets_X6_circuitAt rfl rfl rfl (by decide +kernel) ⟨Nat.le_of_ble_eq_true rfl, Nat.le_of_ble_eq_true rfl⟩) (fPreV hN hZ hS (fun q h => hFc q h) hPc hKc hDc (ci := 9) (q0 := 0) rfl rfl) rfl rfl hl.1 rfl (lv_room (Nat.le_of_ble_eq_true rfl)) dX6_nets_2 ⟨Nat.le_of_ble_eq_true rfl, Nat.le_of_ble_eq_true rfl⟩) hS (fun q _ h => hFc q h) hFc (fun q _ h => hFc q h) (fun E ce q9 u t H locs ht hvm hpx hE hz1 hk1 hS hq9 hv9 hc9 => ?_) (fun r u t H1 locs ht hvm hw hB hz1 hk1 hS => ?_)
  · skip
    exact thr E ce q9 _ _ _ _ _ _ _ (⟨hE.1, hE.2⟩) hq9 hv9 hc9 hS (Nat.le_of_ble_eq_true rfl) (Nat.le_of_ble_eq_true rfl)
  · skip
    obtain ⟨hP1, hK1, hD1⟩ := hB
    rw [ht] at hP1
    have hK1 := va_K.moved hvm.symm hK1
    obtain ⟨hP, hD⟩ := va_join (wr := [(w, .inr (3, [.int 0, .int 0, .ref wL, .ref wP, .ref wS])), (d, .inr (3, [.int 0, .int 0, .ref dL, .ref dP, .ref dS]))]) (w1 := [(h0, .inr (9, [.ref w, .ref d, .ref co, .ref un, .ref ma, .ref tm, .int 0, .int 0, .int 0]))]) hP hD [0] [1, 2] rfl rfl (by decide) (by decide) hk1 hFc hP1 hD1
    generalize H1 = H at hP hS ⊢
    have hP : va_P (dC, dI) vwCl [(w, .inr (3, [.int 0, .int 0, .ref wL, .ref wP, .ref wS])), (d, .inr (3, [.int 0, .int 0, .ref dL, .ref dP, .ref dS])), (h0, .inr (9, [.ref w, .ref d, .ref co, .ref un, .ref ma, .ref tm, .int 0, .int 0, .int 0]))] _ := hP
    have hD : va_D A [(w, .inr (3, [.int 0, .int 0, .ref wL, .ref wP, .ref wS])), (d, .inr (3, [.int 0, .int 0, .ref dL, .ref dP, .ref dS])), (h0, .inr (9, [.ref w, .ref d, .ref co, .ref un, .ref ma, .ref tm, .int 0, .int 0, .int 0]))] := hD
    refine W.widen (k := 1) (n := 6) (Nat.le_of_ble_eq_true rfl) (Nat.le_of_ble_eq_true rfl) ?_
    rcases hw with ⟨hc0, rfl⟩ | ⟨hc1, rfl⟩
    · skip
      refine W.eq (g2 := F0 m 5 ls [.ref w]) rfl ?_
      refine va_getN (D := (dC, dI)) (ci := 3) (v := .int 0) (C := RX0) (T := TX0) (N := 5) hx hb hts (fun w h => List.mem_cons_of_mem _ (List.mem_append_left _ (List.mem_append_left _ (List.mem_append_right _ (h))))) hown hK hP 0 rfl rfl 0 (by decide) (va_Nw.use rfl (hN.1 _ (List.mem_of_getElem? (i := 18) rfl))) (fun _ h9 => h9) rfl dX6_nets_5 ?_
      exact ret _ () _ _ _ _ _ _ (⟨rfl, Or.inl (hc0)⟩) (hP.sub [] rfl) (hK.sub [] rfl) (hD.sub [] (by decide) rfl) hS (Nat.le_of_ble_eq_true rfl) (Nat.le_of_ble_eq_true rfl) dX6_nets_8
    · skip
      refine W.eq (g2 := F0 m 5 ls [.ref d]) rfl ?_
      refine va_getN (D := (dC, dI)) (ci := 3) (v := .int 0) (C := RX0) (T := TX0) (N := 5) hx hb hts (fun w h => List.mem_cons_of_mem _ (List.mem_append_left _ (List.mem_append_left _ (List.mem_append_right _ (h))))) hown hK hP 1 rfl rfl 0 (by decide) (va_Nw.use rfl (hN.1 _ (List.mem_of_getElem? (i := 18) rfl))) (fun _ h9 => h9) rfl dX6_nets_5 ?_
      exact ret _ () _ _ _ _ _ _ (⟨rfl, Or.inr (hc1)⟩) (hP.sub [] rfl) (hK.sub [] rfl) (hD.sub [] (by decide) rfl) hS (Nat.le_of_ble_eq_true rfl) (Nat.le_of_ble_eq_true rfl) dX6_nets_8

set_option maxHeartbeats 4000000 in
set_option maxRecDepth 100000 in
/-- parts on a fresh object -/
theorem kX6_parts (l : Launch) (hfl : l.stackTraces = false) (dC : Nat → ClassId) (dI : Nat → Nat → Nat) (h0 w d co un ma tm : Nat) (wL wP wS dL dP dS : Nat) (p0 : Int32) (sz : Nat) : fXi l yX6_parts wsX6_parts ({ frames := 8, cells := 1, slots := 6, locals := 123 } : Room) dC dI [.ref h0, .int p0] [(h0, .inr (9, [.ref w, .ref d, .ref co, .ref un, .ref ma, .ref tm, .int 0, .int 0, .int 0])), (w, .inr (3, [.int 0, .int 0, .ref wL, .ref wP, .ref wS])), (d, .inr (3, [.int 0, .int 0, .ref dL, .ref dP, .ref dS]))] [] sz (fun E : String => E = "java/lang/IllegalArgumentException" ∧ (¬ ((p0 = 0) ∨ (p0 = 1)))) (fun (r : Int32) (u : Unit) => r = 0 ∧ ((p0 = 0) ∨ (p0 = 1))) (fun u => []) (fun u => []) := by
  refine oX_i hfl (y := yX6_parts) (cc := cX6_parts) (maxL := 2) (by decide) rfl (Nat.le_of_ble_eq_true rfl) ?_
  intro p e s m args below meth c ls A Q hx hb hr hml hown hts hN hZ hA hin hlk hP hK hD hl ret thr thn
  have hS : va_S A s.heap s.heap [] := va_S.rf
  have hl : lv_has ls 2 [(0, .ref h0), (1, .int p0)] := hl
  have hP : va_P (dC, dI) vwCl [(h0, .inr (9, [.ref w, .ref d, .ref co, .ref un, .ref ma, .ref tm, .int 0, .int 0, .int 0])), (w, .inr (3, [.int 0, .int 0, .ref wL, .ref wP, .ref wS])), (d, .inr (3, [.int 0, .int 0, .ref dL, .ref dP, .ref dS]))] _ := hP
  have hD : va_D A [(h0, .inr (9, [.ref w, .ref d, .ref co, .ref un, .ref ma, .ref tm, .int 0, .int 0, .int 0])), (w, .inr (3, [.int 0, .int 0, .ref wL, .ref wP, .ref wS])), (d, .inr (3, [.int 0, .int 0, .ref dL, .ref dP, .ref dS]))] := hD
  refine lv_aload_n hx hb dX6_parts_0 rfl (lv_at hl 0 rfl) ?_
  refine lv_iload_n hx hb dX6_parts_1 rfl (lv_at hl 1 rfl) ?_
  have hPc := hP.sub (ws' := [(h0, .inr (9, [.ref w, .ref d, .ref co, .ref un, .ref ma, .ref tm, .int 0, .int 0, .int 0]))]) [0] rfl
  have hDc := hD.sub (ws' := [(h0, .inr (9, [.ref w, .ref d, .ref co, .ref un, .ref ma, .ref tm, .int 0, .int 0, .int 0]))]) [0] (by decide) rfl
  have hKc := hK.sub (tys' := []) [] rfl
  have hFc := va_free (wc := [(h0, .inr (9, [.ref w, .ref d, .ref co, .ref un, .ref ma, .ref tm, .int 0, .int 0, .int 0]))]) hD hS hA [0] rfl
  refine vx_callq (vx_runV (As := [.int p0]) (rest := []) ⟨hx, hb, hml, hown, hts⟩ (kX6_circuitAt l hfl dC dI h0 w d co un ma tm p0 s.heap.size) (cwV 1 hts gX6_parts_X6_circuitAt rfl rfl rfl (by decide +kernel) ⟨Nat.le_of_ble_eq_true rfl, Nat.le_of_ble_eq_true rfl⟩) (fPreV hN hZ hS (fun q h => hFc q h) hPc hKc hDc (ci := 9) (q0 := 0) rfl rfl) rfl rfl hl.1 rfl (lv_room (Nat.le_of_ble_eq_true rfl)) dX6_parts_2 ⟨Nat.le_of_ble_eq_true rfl, Nat.le_of_ble_eq_true rfl⟩) hS (fun q _ h => hFc q h) hFc (fun q _ h => hFc q h) (fun E ce q9 u t H locs ht hvm hpx hE hz1 hk1 hS hq9 hv9 hc9 => ?_) (fun r u t H1 locs ht hvm hw hB hz1 hk1 hS => ?_)
  · skip
    exact thr E ce q9 _ _ _ _ _ _ _ (⟨hE.1, hE.2⟩) hq9 hv9 hc9 hS (Nat.le_of_ble_eq_true rfl) (Nat.le_of_ble_eq_true rfl)
  · skip
    obtain ⟨hP1, hK1, hD1⟩ := hB
    rw [ht] at hP1
    have hK1 := va_K.moved hvm.symm hK1
    obtain ⟨hP, hD⟩ := va_join (wr := [(w, .inr (3, [.int 0, .int 0, .ref wL, .ref wP, .ref wS])), (d, .inr (3, [.int 0, .int 0, .ref dL, .ref dP, .ref dS]))]) (w1 := [(h0, .inr (9, [.ref w, .ref d, .ref co, .ref un, .ref ma, .ref tm, .int 0, .int 0, .int 0]))]) hP hD [0] [1, 2] rfl rfl (by decide) (by decide) hk1 hFc hP1 hD1
    generalize H1 = H at hP hS ⊢
    have hP : va_P (dC, dI) vwCl [(w, .inr (3, [.int 0, .int 0, .ref wL, .ref wP, .ref wS])), (d, .inr (3, [.int 0, .int 0, .ref dL, .ref dP, .ref dS])), (h0, .inr (9, [.ref w, .ref d, .ref co, .ref un, .ref ma, .ref tm, .int 0, .int 0, .int 0]))] _ := hP
    have hD : va_D A [(w, .inr (3, [.int 0, .int 0, .ref wL, .ref wP, .ref wS])), (d, .inr (3, [.int 0, .int 0, .ref dL, .ref dP, .ref dS])), (h0, .inr (9, [.ref w, .ref d, .ref co, .ref un, .ref ma, .ref tm, .int 0, .int 0, .int 0]))] := hD
    refine W.widen (k := 1) (n := 6) (Nat.le_of_ble_eq_true rfl) (Nat.le_of_ble_eq_true rfl) ?_
    rcases hw with ⟨hc0, rfl⟩ | ⟨hc1, rfl⟩
    · skip
      refine W.eq (g2 := F0 m 5 ls [.ref w]) rfl ?_
      have hPc := hP.sub (ws' := [(w, .inr (3, [.int 0, .int 0, .ref wL, .ref wP, .ref wS]))]) [0] rfl
      have hDc := hD.sub (ws' := [(w, .inr (3, [.int 0, .int 0, .ref wL, .ref wP, .ref wS]))]) [0] (by decide) rfl
      have hKc := hK.sub (tys' := []) [] rfl
      have hFc := va_free (wc := [(w, .inr (3, [.int 0, .int 0, .ref wL, .ref wP, .ref wS]))]) hD hS hA [0] rfl
      refine va_calli (va_runV (As := []) (rest := []) ⟨hx, hb, hml, hown, hts⟩ (kX0_countParts l dC dI w wL wP wS H.size) (cwV 0 hts gX6_parts_X0_countParts rfl rfl rfl (by decide +kernel) ⟨Nat.le_of_ble_eq_true rfl, Nat.le_of_ble_eq_true rfl⟩) (fPreV hN hZ hS (fun q h => hFc q h) hPc hKc hDc (ci := 3) (q0 := 0) rfl rfl) rfl rfl hl.1 rfl (lv_room (Nat.le_of_ble_eq_true rfl)) dX6_parts_5 ⟨Nat.le_of_ble_eq_true rfl, Nat.le_of_ble_eq_true rfl⟩) hS (fun q _ h => hFc q h) hFc (fun r u t H1 locs ht hvm hw hB hz1 hk1 hS => ?_)
      obtain ⟨hP1, hK1, hD1⟩ := hB
      rw [ht] at hP1
      have hK1 := va_K.moved hvm.symm hK1
      obtain ⟨hP, hD⟩ := va_join (wr := [(d, .inr (3, [.int 0, .int 0, .ref dL, .ref dP, .ref dS])), (h0, .inr (9, [.ref w, .ref d, .ref co, .ref un, .ref ma, .ref tm, .int 0, .int 0, .int 0]))]) (w1 := [(w, .inr (3, [.int 0, .int 0, .ref wL, .ref wP, .ref wS]))]) hP hD [0] [1, 2] rfl rfl (by decide) (by decide) hk1 hFc hP1 hD1
      generalize H1 = H at hP hS ⊢
      have hP : va_P (dC, dI) vwCl [(d, .inr (3, [.int 0, .int 0, .ref dL, .ref dP, .ref dS])), (h0, .inr (9, [.ref w, .ref d, .ref co, .ref un, .ref ma, .ref tm, .int 0, .int 0, .int 0])), (w, .inr (3, [.int 0, .int 0, .ref wL, .ref wP, .ref wS]))] _ := hP
      have hD : va_D A [(d, .inr (3, [.int 0, .int 0, .ref dL, .ref dP, .ref dS])), (h0, .inr (9, [.ref w, .ref d, .ref co, .ref un, .ref ma, .ref tm, .int 0, .int 0, .int 0])), (w, .inr (3, [.int 0, .int 0, .ref wL, .ref wP, .ref wS]))] := hD
      subst hw
      exact ret _ () _ _ _ _ _ _ (⟨rfl, Or.inl (hc0)⟩) (hP.sub [] rfl) (hK.sub [] rfl) (hD.sub [] (by decide) rfl) hS (Nat.le_of_ble_eq_true rfl) (Nat.le_of_ble_eq_true rfl) dX6_parts_8
    · skip
      refine W.eq (g2 := F0 m 5 ls [.ref d]) rfl ?_
      have hPc := hP.sub (ws' := [(d, .inr (3, [.int 0, .int 0, .ref dL, .ref dP, .ref dS]))]) [1] rfl
      have hDc := hD.sub (ws' := [(d, .inr (3, [.int 0, .int 0, .ref dL, .ref dP, .ref dS]))]) [1] (by decide) rfl
      have hKc := hK.sub (tys' := []) [] rfl
      have hFc := va_free (wc := [(d, .inr (3, [.int 0, .int 0, .ref dL, .ref dP, .ref dS]))]) hD hS hA [1] rfl
      refine va_calli (va_runV (As := []) (rest := []) ⟨hx, hb, hml, hown, hts⟩ (kX0_countParts l dC dI d dL dP dS H.size) (cwV 0 hts gX6_parts_X0_countParts rfl rfl rfl (by decide +kernel) ⟨Nat.le_of_ble_eq_true rfl, Nat.le_of_ble_eq_true rfl⟩) (fPreV hN hZ hS (fun q h => hFc q h) hPc hKc hDc (ci := 3) (q0 := 0) rfl rfl) rfl rfl hl.1 rfl (lv_room (Nat.le_of_ble_eq_true rfl)) dX6_parts_5 ⟨Nat.le_of_ble_eq_true rfl, Nat.le_of_ble_eq_true rfl⟩) hS (fun q _ h => hFc q h) hFc (fun r u t H1 locs ht hvm hw hB hz1 hk1 hS => ?_)
      obtain ⟨hP1, hK1, hD1⟩ := hB
      rw [ht] at hP1
      have hK1 := va_K.moved hvm.symm hK1
      obtain ⟨hP, hD⟩ := va_join (wr := [(w, .inr (3, [.int 0, .int 0, .ref wL, .ref wP, .ref wS])), (h0, .inr (9, [.ref w, .ref d, .ref co, .ref un, .ref ma, .ref tm, .int 0, .int 0, .int 0]))]) (w1 := [(d, .inr (3, [.int 0, .int 0, .ref dL, .ref dP, .ref dS]))]) hP hD [1] [0, 2] rfl rfl (by decide) (by decide) hk1 hFc hP1 hD1
      generalize H1 = H at hP hS ⊢
      have hP : va_P (dC, dI) vwCl [(w, .inr (3, [.int 0, .int 0, .ref wL, .ref wP, .ref wS])), (h0, .inr (9, [.ref w, .ref d, .ref co, .ref un, .ref ma, .ref tm, .int 0, .int 0, .int 0])), (d, .inr (3, [.int 0, .int 0, .ref dL, .ref dP, .ref dS]))] _ := hP
      have hD : va_D A [(w, .inr (3, [.int 0, .int 0, .ref wL, .ref wP, .ref wS])), (h0, .inr (9, [.ref w, .ref d, .ref co, .ref un, .ref ma, .ref tm, .int 0, .int 0, .int 0])), (d, .inr (3, [.int 0, .int 0, .ref dL, .ref dP, .ref dS]))] := hD
      subst hw
      exact ret _ () _ _ _ _ _ _ (⟨rfl, Or.inr (hc1)⟩) (hP.sub [] rfl) (hK.sub [] rfl) (hD.sub [] (by decide) rfl) hS (Nat.le_of_ble_eq_true rfl) (Nat.le_of_ble_eq_true rfl) dX6_parts_8

set_option maxHeartbeats 4000000 in
set_option maxRecDepth 100000 in
/-- valueSum on a fresh object -/
theorem kX6_valueSum (l : Launch) (hfl : l.stackTraces = false) (dC : Nat → ClassId) (dI : Nat → Nat → Nat) (h0 w d co un ma tm : Nat) (wL wP wS dL dP dS : Nat) (p0 : Int32) (sz : Nat) : fXl l yX6_valueSum wsX6_valueSum ({ frames := 8, cells := 1, slots := 6, locals := 123 } : Room) dC dI [.ref h0, .int p0] [(h0, .inr (9, [.ref w, .ref d, .ref co, .ref un, .ref ma, .ref tm, .int 0, .int 0, .int 0])), (w, .inr (3, [.int 0, .int 0, .ref wL, .ref wP, .ref wS])), (d, .inr (3, [.int 0, .int 0, .ref dL, .ref dP, .ref dS]))] [] sz (fun E : String => E = "java/lang/IllegalArgumentException" ∧ (¬ ((p0 = 0) ∨ (p0 = 1)))) (fun (r : Int64) (u : Unit) => r = 0 ∧ ((p0 = 0) ∨ (p0 = 1))) (fun u => []) (fun u => []) := by
  refine oX_l hfl (y := yX6_valueSum) (cc := cX6_valueSum) (maxL := 6) (by decide) rfl (Nat.le_of_ble_eq_true rfl) ?_
  intro p e s m args below meth c ls A Q hx hb hr hml hown hts hN hZ hA hin hlk hP hK hD hl ret thr thn
  have hS : va_S A s.heap s.heap [] := va_S.rf
  have hl : lv_has ls 6 [(0, .ref h0), (1, .int p0)] := hl
  have hP : va_P (dC, dI) vwCl [(h0, .inr (9, [.ref w, .ref d, .ref co, .ref un, .ref ma, .ref tm, .int 0, .int 0, .int 0])), (w, .inr (3, [.int 0, .int 0, .ref wL, .ref wP, .ref wS])), (d, .inr (3, [.int 0, .int 0, .ref dL, .ref dP, .ref dS]))] _ := hP
  have hD : va_D A [(h0, .inr (9, [.ref w, .ref d, .ref co, .ref un, .ref ma, .ref tm, .int 0, .int 0, .int 0])), (w, .inr (3, [.int 0, .int 0, .ref wL, .ref wP, .ref wS])), (d, .inr (3, [.int 0, .int 0, .ref dL, .ref dP, .ref dS]))] := hD
  refine lv_aload_n hx hb dX6_valueSum_0 rfl (lv_at hl 0 rfl) ?_
  refine lv_iload_n hx hb dX6_valueSum_1 rfl (lv_at hl 1 rfl) ?_
  have hPc := hP.sub (ws' := [(h0, .inr (9, [.ref w, .ref d, .ref co, .ref un, .ref ma, .ref tm, .int 0, .int 0, .int 0]))]) [0] rfl
  have hDc := hD.sub (ws' := [(h0, .inr (9, [.ref w, .ref d, .ref co, .ref un, .ref ma, .ref tm, .int 0, .int 0, .int 0]))]) [0] (by decide) rfl
  have hKc := hK.sub (tys' := []) [] rfl
  have hFc := va_free (wc := [(h0, .inr (9, [.ref w, .ref d, .ref co, .ref un, .ref ma, .ref tm, .int 0, .int 0, .int 0]))]) hD hS hA [0] rfl
  refine vx_callq (vx_runV (As := [.int p0]) (rest := []) ⟨hx, hb, hml, hown, hts⟩ (kX6_circuitAt l hfl dC dI h0 w d co un ma tm p0 s.heap.size) (cwV 1 hts gX6_valueSum_X6_circuitAt rfl rfl rfl (by decide +kernel) ⟨Nat.le_of_ble_eq_true rfl, Nat.le_of_ble_eq_true rfl⟩) (fPreV hN hZ hS (fun q h => hFc q h) hPc hKc hDc (ci := 9) (q0 := 0) rfl rfl) rfl rfl hl.1 rfl (lv_room (Nat.le_of_ble_eq_true rfl)) dX6_valueSum_2 ⟨Nat.le_of_ble_eq_true rfl, Nat.le_of_ble_eq_true rfl⟩) hS (fun q _ h => hFc q h) hFc (fun q _ h => hFc q h) (fun E ce q9 u t H locs ht hvm hpx hE hz1 hk1 hS hq9 hv9 hc9 => ?_) (fun r u t H1 locs ht hvm hw hB hz1 hk1 hS => ?_)
  · skip
    exact thr E ce q9 _ _ _ _ _ _ _ (⟨hE.1, hE.2⟩) hq9 hv9 hc9 hS (Nat.le_of_ble_eq_true rfl) (Nat.le_of_ble_eq_true rfl)
  · skip
    obtain ⟨hP1, hK1, hD1⟩ := hB
    rw [ht] at hP1
    have hK1 := va_K.moved hvm.symm hK1
    obtain ⟨hP, hD⟩ := va_join (wr := [(w, .inr (3, [.int 0, .int 0, .ref wL, .ref wP, .ref wS])), (d, .inr (3, [.int 0, .int 0, .ref dL, .ref dP, .ref dS]))]) (w1 := [(h0, .inr (9, [.ref w, .ref d, .ref co, .ref un, .ref ma, .ref tm, .int 0, .int 0, .int 0]))]) hP hD [0] [1, 2] rfl rfl (by decide) (by decide) hk1 hFc hP1 hD1
    generalize H1 = H at hP hS ⊢
    have hP : va_P (dC, dI) vwCl [(w, .inr (3, [.int 0, .int 0, .ref wL, .ref wP, .ref wS])), (d, .inr (3, [.int 0, .int 0, .ref dL, .ref dP, .ref dS])), (h0, .inr (9, [.ref w, .ref d, .ref co, .ref un, .ref ma, .ref tm, .int 0, .int 0, .int 0]))] _ := hP
    have hD : va_D A [(w, .inr (3, [.int 0, .int 0, .ref wL, .ref wP, .ref wS])), (d, .inr (3, [.int 0, .int 0, .ref dL, .ref dP, .ref dS])), (h0, .inr (9, [.ref w, .ref d, .ref co, .ref un, .ref ma, .ref tm, .int 0, .int 0, .int 0]))] := hD
    refine W.widen (k := 1) (n := 6) (Nat.le_of_ble_eq_true rfl) (Nat.le_of_ble_eq_true rfl) ?_
    rcases hw with ⟨hc0, rfl⟩ | ⟨hc1, rfl⟩
    · skip
      refine W.eq (g2 := F0 m 5 ls [.ref w]) rfl ?_
      refine lv_astore_n (lv' := [(2, .ref w), (0, .ref h0), (1, .int p0)]) hx hb dX6_valueSum_5 rfl hl (Nat.le_of_ble_eq_true rfl) rfl (fun ls hl => ?_)
      refine lv_lconst (v := 0) hx hb dX6_valueSum_6 (by decide) ?_
      refine lv_lstore_n (lv' := [(3, .long 0), (2, .ref w), (0, .ref h0), (1, .int p0)]) hx hb dX6_valueSum_7 rfl hl (Nat.le_of_ble_eq_true rfl) rfl (fun ls hl => ?_)
      refine lv_iconst (v := 0) hx hb dX6_valueSum_8 (by decide) ?_
      refine lv_istore (lv' := [(5, .int 0), (3, .long 0), (2, .ref w), (0, .ref h0), (1, .int p0)]) hx hb dX6_valueSum_9 hl (Nat.le_of_ble_eq_true rfl) rfl (fun ls hl => ?_)
      refine lv_iload hx hb dX6_valueSum_11 (lv_at hl 0 rfl) ?_
      refine lv_aload_n hx hb dX6_valueSum_13 rfl (lv_at hl 2 rfl) ?_
      refine va_getN (D := (dC, dI)) (ci := 3) (v := .int 0) (C := RX0) (T := TX0) (N := 5) hx hb hts (fun w h => List.mem_cons_of_mem _ (List.mem_append_left _ (List.mem_append_left _ (List.mem_append_left _ (List.mem_append_right _ (h)))))) hown hK hP 0 rfl rfl 1 (by decide) (va_Nw.use rfl (hN.1 _ (List.mem_of_getElem? (i := 21) rfl))) (fun _ h9 => h9) rfl dX6_valueSum_14 ?_
      refine lv_icmp_ge (tgt := 40) hx hb dX6_valueSum_17 (by decide) (fun _ => ?_) (fun h9 => absurd (by decide) h9)
      refine lv_lload_n hx hb dX6_valueSum_40 rfl (lv_at hl 1 rfl) ?_
      exact ret _ () _ _ _ _ _ _ (⟨rfl, Or.inl (hc0)⟩) (hP.sub [] rfl) (hK.sub [] rfl) (hD.sub [] (by decide) rfl) hS (Nat.le_of_ble_eq_true rfl) (Nat.le_of_ble_eq_true rfl) dX6_valueSum_41
    · skip
      refine W.eq (g2 := F0 m 5 ls [.ref d]) rfl ?_
      refine lv_astore_n (lv' := [(2, .ref d), (0, .ref h0), (1, .int p0)]) hx hb dX6_valueSum_5 rfl hl (Nat.le_of_ble_eq_true rfl) rfl (fun ls hl => ?_)
      refine lv_lconst (v := 0) hx hb dX6_valueSum_6 (by decide) ?_
      refine lv_lstore_n (lv' := [(3, .long 0), (2, .ref d), (0, .ref h0), (1, .int p0)]) hx hb dX6_valueSum_7 rfl hl (Nat.le_of_ble_eq_true rfl) rfl (fun ls hl => ?_)
      refine lv_iconst (v := 0) hx hb dX6_valueSum_8 (by decide) ?_
      refine lv_istore (lv' := [(5, .int 0), (3, .long 0), (2, .ref d), (0, .ref h0), (1, .int p0)]) hx hb dX6_valueSum_9 hl (Nat.le_of_ble_eq_true rfl) rfl (fun ls hl => ?_)
      refine lv_iload hx hb dX6_valueSum_11 (lv_at hl 0 rfl) ?_
      refine lv_aload_n hx hb dX6_valueSum_13 rfl (lv_at hl 2 rfl) ?_
      refine va_getN (D := (dC, dI)) (ci := 3) (v := .int 0) (C := RX0) (T := TX0) (N := 5) hx hb hts (fun w h => List.mem_cons_of_mem _ (List.mem_append_left _ (List.mem_append_left _ (List.mem_append_left _ (List.mem_append_right _ (h)))))) hown hK hP 1 rfl rfl 1 (by decide) (va_Nw.use rfl (hN.1 _ (List.mem_of_getElem? (i := 21) rfl))) (fun _ h9 => h9) rfl dX6_valueSum_14 ?_
      refine lv_icmp_ge (tgt := 40) hx hb dX6_valueSum_17 (by decide) (fun _ => ?_) (fun h9 => absurd (by decide) h9)
      refine lv_lload_n hx hb dX6_valueSum_40 rfl (lv_at hl 1 rfl) ?_
      exact ret _ () _ _ _ _ _ _ (⟨rfl, Or.inr (hc1)⟩) (hP.sub [] rfl) (hK.sub [] rfl) (hD.sub [] (by decide) rfl) hS (Nat.le_of_ble_eq_true rfl) (Nat.le_of_ble_eq_true rfl) dX6_valueSum_41

set_option maxHeartbeats 4000000 in
set_option maxRecDepth 100000 in
/-- rounds on a fresh object -/
theorem kX6_rounds (l : Launch) (dC : Nat → ClassId) (dI : Nat → Nat → Nat) (h0 ma tm un unK co : Nat) (w wL wP wS d dL dP dS : Nat) (on onR onL onC onD op opR opL opC opD : Nat) (cI : ClassId) (gn gp : Nat → Int32) (sz : Nat) : fMi l yX6_rounds wsX6_rounds ({ frames := 4, cells := 0, slots := 0, locals := 85 } : Room) dC dI [.ref h0] [(h0, .inr (9, [.ref w, .ref d, .ref co, .ref un, .ref ma, .ref tm, .int 0, .int 0, .int 0])), (co, .inr (4, [.ref w, .ref d, .ref on, .ref op, .int 0])), (w, .inr (3, [.int 0, .int 0, .ref wL, .ref wP, .ref wS])), (d, .inr (3, [.int 0, .int 0, .ref dL, .ref dP, .ref dS])), (on, .inr (7, [.ref onR, .ref onL, .ref onC, .ref onD, .int 0])), (onL, .inl (cI, 20, .inl (fun _ => 0))), (onC, .inl (cI, 20, .inl gn)), (op, .inr (7, [.ref opR, .ref opL, .ref opC, .ref opD, .int 0])), (opL, .inl (cI, 20, .inl (fun _ => 0))), (opC, .inl (cI, 20, .inl gp)), (un, .inr (5, [.ref unK, .int 0]))] [(cI, .int)] sz (fun (r : Int32) (u : Unit) => r = 0) (fun u => []) (fun u => []) := by
  refine oP_i (y := yX6_rounds) (cc := cX6_rounds) (maxL := 1) (by decide) rfl (Nat.le_of_ble_eq_true rfl) ?_
  intro p e s m args below meth c ls A Q hx hb hr hml hown hts hN hZ hA hin hlk hP hK hD hl ret
  have hS : va_S A s.heap s.heap [] := va_S.rf
  have hl : lv_has ls 1 [(0, .ref h0)] := hl
  have hP : va_P (dC, dI) vwCl [(h0, .inr (9, [.ref w, .ref d, .ref co, .ref un, .ref ma, .ref tm, .int 0, .int 0, .int 0])), (co, .inr (4, [.ref w, .ref d, .ref on, .ref op, .int 0])), (w, .inr (3, [.int 0, .int 0, .ref wL, .ref wP, .ref wS])), (d, .inr (3, [.int 0, .int 0, .ref dL, .ref dP, .ref dS])), (on, .inr (7, [.ref onR, .ref onL, .ref onC, .ref onD, .int 0])), (onL, .inl (cI, 20, .inl (fun _ => 0))), (onC, .inl (cI, 20, .inl gn)), (op, .inr (7, [.ref opR, .ref opL, .ref opC, .ref opD, .int 0])), (opL, .inl (cI, 20, .inl (fun _ => 0))), (opC, .inl (cI, 20, .inl gp)), (un, .inr (5, [.ref unK, .int 0]))] _ := hP
  have hD : va_D A [(h0, .inr (9, [.ref w, .ref d, .ref co, .ref un, .ref ma, .ref tm, .int 0, .int 0, .int 0])), (co, .inr (4, [.ref w, .ref d, .ref on, .ref op, .int 0])), (w, .inr (3, [.int 0, .int 0, .ref wL, .ref wP, .ref wS])), (d, .inr (3, [.int 0, .int 0, .ref dL, .ref dP, .ref dS])), (on, .inr (7, [.ref onR, .ref onL, .ref onC, .ref onD, .int 0])), (onL, .inl (cI, 20, .inl (fun _ => 0))), (onC, .inl (cI, 20, .inl gn)), (op, .inr (7, [.ref opR, .ref opL, .ref opC, .ref opD, .int 0])), (opL, .inl (cI, 20, .inl (fun _ => 0))), (opC, .inl (cI, 20, .inl gp)), (un, .inr (5, [.ref unK, .int 0]))] := hD
  refine lv_aload_n hx hb dX6_rounds_0 rfl (lv_at hl 0 rfl) ?_
  have hPc := hP.sub (ws' := [(h0, .inr (9, [.ref w, .ref d, .ref co, .ref un, .ref ma, .ref tm, .int 0, .int 0, .int 0])), (co, .inr (4, [.ref w, .ref d, .ref on, .ref op, .int 0])), (w, .inr (3, [.int 0, .int 0, .ref wL, .ref wP, .ref wS])), (d, .inr (3, [.int 0, .int 0, .ref dL, .ref dP, .ref dS])), (on, .inr (7, [.ref onR, .ref onL, .ref onC, .ref onD, .int 0])), (onL, .inl (cI, 20, .inl (fun _ => 0))), (onC, .inl (cI, 20, .inl gn)), (op, .inr (7, [.ref opR, .ref opL, .ref opC, .ref opD, .int 0])), (opL, .inl (cI, 20, .inl (fun _ => 0))), (opC, .inl (cI, 20, .inl gp)), (un, .inr (5, [.ref unK, .int 0]))]) [0, 1, 2, 3, 4, 5, 6, 7, 8, 9, 10] rfl
  have hDc := hD.sub (ws' := [(h0, .inr (9, [.ref w, .ref d, .ref co, .ref un, .ref ma, .ref tm, .int 0, .int 0, .int 0])), (co, .inr (4, [.ref w, .ref d, .ref on, .ref op, .int 0])), (w, .inr (3, [.int 0, .int 0, .ref wL, .ref wP, .ref wS])), (d, .inr (3, [.int 0, .int 0, .ref dL, .ref dP, .ref dS])), (on, .inr (7, [.ref onR, .ref onL, .ref onC, .ref onD, .int 0])), (onL, .inl (cI, 20, .inl (fun _ => 0))), (onC, .inl (cI, 20, .inl gn)), (op, .inr (7, [.ref opR, .ref opL, .ref opC, .ref opD, .int 0])), (opL, .inl (cI, 20, .inl (fun _ => 0))), (opC, .inl (cI, 20, .inl gp)), (un, .inr (5, [.ref unK, .int 0]))]) [0, 1, 2, 3, 4, 5, 6, 7, 8, 9, 10] (by decide) rfl
  have hKc := hK.sub (tys' := [(cI, .int)]) [0] rfl
  have hFc := va_free (wc := [(h0, .inr (9, [.ref w, .ref d, .ref co, .ref un, .ref ma, .ref tm, .int 0, .int 0, .int 0])), (co, .inr (4, [.ref w, .ref d, .ref on, .ref op, .int 0])), (w, .inr (3, [.int 0, .int 0, .ref wL, .ref wP, .ref wS])), (d, .inr (3, [.int 0, .int 0, .ref dL, .ref dP, .ref dS])), (on, .inr (7, [.ref onR, .ref onL, .ref onC, .ref onD, .int 0])), (onL, .inl (cI, 20, .inl (fun _ => 0))), (onC, .inl (cI, 20, .inl gn)), (op, .inr (7, [.ref opR, .ref opL, .ref opC, .ref opD, .int 0])), (opL, .inl (cI, 20, .inl (fun _ => 0))), (opC, .inl (cI, 20, .inl gp)), (un, .inr (5, [.ref unK, .int 0]))]) hD hS hA [0, 1, 2, 3, 4, 5, 6, 7, 8, 9, 10] rfl
  refine va_callv (va_runV (As := []) (rest := []) ⟨hx, hb, hml, hown, hts⟩ (kX6_colour l dC dI h0 ma tm un unK co w wL wP wS d dL dP dS on onR onL onC onD op opR opL opC opD cI gn gp s.heap.size) (cwV 0 hts gX6_rounds_X6_colour rfl rfl rfl (by decide +kernel) ⟨Nat.le_of_ble_eq_true rfl, Nat.le_of_ble_eq_true rfl⟩) (fPreV hN hZ hS (fun q h => hFc q h) hPc hKc hDc (ci := 9) (q0 := 0) rfl rfl) rfl rfl hl.1 rfl (lv_room (Nat.le_of_ble_eq_true rfl)) dX6_rounds_1 ⟨Nat.le_of_ble_eq_true rfl, Nat.le_of_ble_eq_true rfl⟩) hS (fun q _ h => hFc q h) hFc (fun u t H1 locs ht hvm hw hB hz1 hk1 hS => ?_)
  obtain ⟨hP1, hK1, hD1⟩ := hB
  rw [ht] at hP1
  have hK1 := va_K.moved hvm.symm hK1
  obtain ⟨u1, u2⟩ := u
  obtain ⟨hP, hD⟩ := va_join (wr := []) (w1 := [(h0, .inr (9, [.ref w, .ref d, .ref co, .ref un, .ref ma, .ref tm, .int 1, .int 0, .int 0])), (co, .inr (4, [.ref w, .ref d, .ref on, .ref op, .int 0])), (w, .inr (3, [.int 0, .int 0, .ref wL, .ref wP, .ref wS])), (d, .inr (3, [.int 0, .int 0, .ref dL, .ref dP, .ref dS])), (on, .inr (7, [.ref onR, .ref onL, .ref onC, .ref onD, .int 0])), (onL, .inl (cI, 20, .inl (fun _ => 0))), (onC, .inl (cI, 20, .inl u1)), (op, .inr (7, [.ref opR, .ref opL, .ref opC, .ref opD, .int 0])), (opL, .inl (cI, 20, .inl (fun _ => 0))), (opC, .inl (cI, 20, .inl u2)), (un, .inr (5, [.ref unK, .int 0]))]) hP hD [0, 1, 2, 3, 4, 5, 6, 7, 8, 9, 10] [] rfl rfl (by decide) (by decide) hk1 hFc hP1 hD1
  generalize H1 = H at hP hS ⊢
  have hP : va_P (dC, dI) vwCl [(h0, .inr (9, [.ref w, .ref d, .ref co, .ref un, .ref ma, .ref tm, .int 1, .int 0, .int 0])), (co, .inr (4, [.ref w, .ref d, .ref on, .ref op, .int 0])), (w, .inr (3, [.int 0, .int 0, .ref wL, .ref wP, .ref wS])), (d, .inr (3, [.int 0, .int 0, .ref dL, .ref dP, .ref dS])), (on, .inr (7, [.ref onR, .ref onL, .ref onC, .ref onD, .int 0])), (onL, .inl (cI, 20, .inl (fun _ => 0))), (onC, .inl (cI, 20, .inl u1)), (op, .inr (7, [.ref opR, .ref opL, .ref opC, .ref opD, .int 0])), (opL, .inl (cI, 20, .inl (fun _ => 0))), (opC, .inl (cI, 20, .inl u2)), (un, .inr (5, [.ref unK, .int 0]))] _ := hP
  have hD : va_D A [(h0, .inr (9, [.ref w, .ref d, .ref co, .ref un, .ref ma, .ref tm, .int 1, .int 0, .int 0])), (co, .inr (4, [.ref w, .ref d, .ref on, .ref op, .int 0])), (w, .inr (3, [.int 0, .int 0, .ref wL, .ref wP, .ref wS])), (d, .inr (3, [.int 0, .int 0, .ref dL, .ref dP, .ref dS])), (on, .inr (7, [.ref onR, .ref onL, .ref onC, .ref onD, .int 0])), (onL, .inl (cI, 20, .inl (fun _ => 0))), (onC, .inl (cI, 20, .inl u1)), (op, .inr (7, [.ref opR, .ref opL, .ref opC, .ref opD, .int 0])), (opL, .inl (cI, 20, .inl (fun _ => 0))), (opC, .inl (cI, 20, .inl u2)), (un, .inr (5, [.ref unK, .int 0]))] := hD
  refine lv_aload_n hx hb dX6_rounds_4 rfl (lv_at hl 0 rfl) ?_
  refine va_get (D := (dC, dI)) (ci := 9) (v := .ref co) (C := RX6) (T := TX6) (N := 9) hx hb hts (fun w h => List.mem_cons_of_mem _ (List.mem_append_left _ (List.mem_append_left _ (List.mem_append_left _ (List.mem_append_left _ (List.mem_append_left _ (List.mem_append_left _ (List.mem_append_right _ (h))))))))) hown hK hP 0 rfl rfl 2 (by decide) (hts (.fieldLink RX6 24 "Netcompare" "colours" "LNetcompare$Colours;") (List.mem_cons_of_mem _ (List.mem_append_left _ (List.mem_append_left _ (List.mem_append_left _ (List.mem_append_left _ (List.mem_append_left _ (List.mem_append_left _ (List.mem_append_left _ (List.mem_append_left _ (List.mem_of_getElem? (i := 0) rfl))))))))))) (fun _ h9 => h9) rfl dX6_rounds_5 ?_
  refine va_getN (D := (dC, dI)) (ci := 4) (v := .int 0) (C := RX1) (T := TX1) (N := 5) hx hb hts (fun w h => List.mem_cons_of_mem _ (List.mem_append_left _ (List.mem_append_left _ (List.mem_append_left _ (List.mem_append_left _ (List.mem_append_left _ (List.mem_append_right _ (h)))))))) hown hK hP 1 rfl rfl 4 (by decide) (va_Nw.use rfl (hN.1 _ (List.mem_of_getElem? (i := 43) rfl))) (fun _ h9 => h9) rfl dX6_rounds_8 ?_
  exact ret _ () _ _ _ _ _ _ (rfl) (hP.sub [] rfl) (hK.sub [] rfl) (hD.sub [] (by decide) rfl) hS (Nat.le_of_ble_eq_true rfl) (Nat.le_of_ble_eq_true rfl) dX6_rounds_11

set_option maxHeartbeats 4000000 in
set_option maxRecDepth 100000 in
/-- netClasses on a fresh object -/
theorem kX6_netClasses (l : Launch) (dC : Nat → ClassId) (dI : Nat → Nat → Nat) (h0 ma tm un unK co : Nat) (w wL wP wS d dL dP dS : Nat) (on onR onL onC onD op opR opL opC opD : Nat) (cI : ClassId) (gn gp : Nat → Int32) (sz : Nat) : fMi l yX6_netClasses wsX6_netClasses ({ frames := 4, cells := 0, slots := 0, locals := 85 } : Room) dC dI [.ref h0] [(h0, .inr (9, [.ref w, .ref d, .ref co, .ref un, .ref ma, .ref tm, .int 0, .int 0, .int 0])), (co, .inr (4, [.ref w, .ref d, .ref on, .ref op, .int 0])), (w, .inr (3, [.int 0, .int 0, .ref wL, .ref wP, .ref wS])), (d, .inr (3, [.int 0, .int 0, .ref dL, .ref dP, .ref dS])), (on, .inr (7, [.ref onR, .ref onL, .ref onC, .ref onD, .int 0])), (onL, .inl (cI, 20, .inl (fun _ => 0))), (onC, .inl (cI, 20, .inl gn)), (op, .inr (7, [.ref opR, .ref opL, .ref opC, .ref opD, .int 0])), (opL, .inl (cI, 20, .inl (fun _ => 0))), (opC, .inl (cI, 20, .inl gp)), (un, .inr (5, [.ref unK, .int 0]))] [(cI, .int)] sz (fun (r : Int32) (u : Unit) => r = 0) (fun u => []) (fun u => []) := by
  refine oP_i (y := yX6_netClasses) (cc := cX6_netClasses) (maxL := 1) (by decide) rfl (Nat.le_of_ble_eq_true rfl) ?_
  intro p e s m args below meth c ls A Q hx hb hr hml hown hts hN hZ hA hin hlk hP hK hD hl ret
  have hS : va_S A s.heap s.heap [] := va_S.rf
  have hl : lv_has ls 1 [(0, .ref h0)] := hl
  have hP : va_P (dC, dI) vwCl [(h0, .inr (9, [.ref w, .ref d, .ref co, .ref un, .ref ma, .ref tm, .int 0, .int 0, .int 0])), (co, .inr (4, [.ref w, .ref d, .ref on, .ref op, .int 0])), (w, .inr (3, [.int 0, .int 0, .ref wL, .ref wP, .ref wS])), (d, .inr (3, [.int 0, .int 0, .ref dL, .ref dP, .ref dS])), (on, .inr (7, [.ref onR, .ref onL, .ref onC, .ref onD, .int 0])), (onL, .inl (cI, 20, .inl (fun _ => 0))), (onC, .inl (cI, 20, .inl gn)), (op, .inr (7, [.ref opR, .ref opL, .ref opC, .ref opD, .int 0])), (opL, .inl (cI, 20, .inl (fun _ => 0))), (opC, .inl (cI, 20, .inl gp)), (un, .inr (5, [.ref unK, .int 0]))] _ := hP
  have hD : va_D A [(h0, .inr (9, [.ref w, .ref d, .ref co, .ref un, .ref ma, .ref tm, .int 0, .int 0, .int 0])), (co, .inr (4, [.ref w, .ref d, .ref on, .ref op, .int 0])), (w, .inr (3, [.int 0, .int 0, .ref wL, .ref wP, .ref wS])), (d, .inr (3, [.int 0, .int 0, .ref dL, .ref dP, .ref dS])), (on, .inr (7, [.ref onR, .ref onL, .ref onC, .ref onD, .int 0])), (onL, .inl (cI, 20, .inl (fun _ => 0))), (onC, .inl (cI, 20, .inl gn)), (op, .inr (7, [.ref opR, .ref opL, .ref opC, .ref opD, .int 0])), (opL, .inl (cI, 20, .inl (fun _ => 0))), (opC, .inl (cI, 20, .inl gp)), (un, .inr (5, [.ref unK, .int 0]))] := hD
  refine lv_aload_n hx hb dX6_netClasses_0 rfl (lv_at hl 0 rfl) ?_
  have hPc := hP.sub (ws' := [(h0, .inr (9, [.ref w, .ref d, .ref co, .ref un, .ref ma, .ref tm, .int 0, .int 0, .int 0])), (co, .inr (4, [.ref w, .ref d, .ref on, .ref op, .int 0])), (w, .inr (3, [.int 0, .int 0, .ref wL, .ref wP, .ref wS])), (d, .inr (3, [.int 0, .int 0, .ref dL, .ref dP, .ref dS])), (on, .inr (7, [.ref onR, .ref onL, .ref onC, .ref onD, .int 0])), (onL, .inl (cI, 20, .inl (fun _ => 0))), (onC, .inl (cI, 20, .inl gn)), (op, .inr (7, [.ref opR, .ref opL, .ref opC, .ref opD, .int 0])), (opL, .inl (cI, 20, .inl (fun _ => 0))), (opC, .inl (cI, 20, .inl gp)), (un, .inr (5, [.ref unK, .int 0]))]) [0, 1, 2, 3, 4, 5, 6, 7, 8, 9, 10] rfl
  have hDc := hD.sub (ws' := [(h0, .inr (9, [.ref w, .ref d, .ref co, .ref un, .ref ma, .ref tm, .int 0, .int 0, .int 0])), (co, .inr (4, [.ref w, .ref d, .ref on, .ref op, .int 0])), (w, .inr (3, [.int 0, .int 0, .ref wL, .ref wP, .ref wS])), (d, .inr (3, [.int 0, .int 0, .ref dL, .ref dP, .ref dS])), (on, .inr (7, [.ref onR, .ref onL, .ref onC, .ref onD, .int 0])), (onL, .inl (cI, 20, .inl (fun _ => 0))), (onC, .inl (cI, 20, .inl gn)), (op, .inr (7, [.ref opR, .ref opL, .ref opC, .ref opD, .int 0])), (opL, .inl (cI, 20, .inl (fun _ => 0))), (opC, .inl (cI, 20, .inl gp)), (un, .inr (5, [.ref unK, .int 0]))]) [0, 1, 2, 3, 4, 5, 6, 7, 8, 9, 10] (by decide) rfl
  have hKc := hK.sub (tys' := [(cI, .int)]) [0] rfl
  have hFc := va_free (wc := [(h0, .inr (9, [.ref w, .ref d, .ref co, .ref un, .ref ma, .ref tm, .int 0, .int 0, .int 0])), (co, .inr (4, [.ref w, .ref d, .ref on, .ref op, .int 0])), (w, .inr (3, [.int 0, .int 0, .ref wL, .ref wP, .ref wS])), (d, .inr (3, [.int 0, .int 0, .ref dL, .ref dP, .ref dS])), (on, .inr (7, [.ref onR, .ref onL, .ref onC, .ref onD, .int 0])), (onL, .inl (cI, 20, .inl (fun _ => 0))), (onC, .inl (cI, 20, .inl gn)), (op, .inr (7, [.ref opR, .ref opL, .ref opC, .ref opD, .int 0])), (opL, .inl (cI, 20, .inl (fun _ => 0))), (opC, .inl (cI, 20, .inl gp)), (un, .inr (5, [.ref unK, .int 0]))]) hD hS hA [0, 1, 2, 3, 4, 5, 6, 7, 8, 9, 10] rfl
  refine va_callv (va_runV (As := []) (rest := []) ⟨hx, hb, hml, hown, hts⟩ (kX6_colour l dC dI h0 ma tm un unK co w wL wP wS d dL dP dS on onR onL onC onD op opR opL opC opD cI gn gp s.heap.size) (cwV 0 hts gX6_netClasses_X6_colour rfl rfl rfl (by decide +kernel) ⟨Nat.le_of_ble_eq_true rfl, Nat.le_of_ble_eq_true rfl⟩) (fPreV hN hZ hS (fun q h => hFc q h) hPc hKc hDc (ci := 9) (q0 := 0) rfl rfl) rfl rfl hl.1 rfl (lv_room (Nat.le_of_ble_eq_true rfl)) dX6_netClasses_1 ⟨Nat.le_of_ble_eq_true rfl, Nat.le_of_ble_eq_true rfl⟩) hS (fun q _ h => hFc q h) hFc (fun u t H1 locs ht hvm hw hB hz1 hk1 hS => ?_)
  obtain ⟨hP1, hK1, hD1⟩ := hB
  rw [ht] at hP1
  have hK1 := va_K.moved hvm.symm hK1
  obtain ⟨u1, u2⟩ := u
  obtain ⟨hP, hD⟩ := va_join (wr := []) (w1 := [(h0, .inr (9, [.ref w, .ref d, .ref co, .ref un, .ref ma, .ref tm, .int 1, .int 0, .int 0])), (co, .inr (4, [.ref w, .ref d, .ref on, .ref op, .int 0])), (w, .inr (3, [.int 0, .int 0, .ref wL, .ref wP, .ref wS])), (d, .inr (3, [.int 0, .int 0, .ref dL, .ref dP, .ref dS])), (on, .inr (7, [.ref onR, .ref onL, .ref onC, .ref onD, .int 0])), (onL, .inl (cI, 20, .inl (fun _ => 0))), (onC, .inl (cI, 20, .inl u1)), (op, .inr (7, [.ref opR, .ref opL, .ref opC, .ref opD, .int 0])), (opL, .inl (cI, 20, .inl (fun _ => 0))), (opC, .inl (cI, 20, .inl u2)), (un, .inr (5, [.ref unK, .int 0]))]) hP hD [0, 1, 2, 3, 4, 5, 6, 7, 8, 9, 10] [] rfl rfl (by decide) (by decide) hk1 hFc hP1 hD1
  generalize H1 = H at hP hS ⊢
  have hP : va_P (dC, dI) vwCl [(h0, .inr (9, [.ref w, .ref d, .ref co, .ref un, .ref ma, .ref tm, .int 1, .int 0, .int 0])), (co, .inr (4, [.ref w, .ref d, .ref on, .ref op, .int 0])), (w, .inr (3, [.int 0, .int 0, .ref wL, .ref wP, .ref wS])), (d, .inr (3, [.int 0, .int 0, .ref dL, .ref dP, .ref dS])), (on, .inr (7, [.ref onR, .ref onL, .ref onC, .ref onD, .int 0])), (onL, .inl (cI, 20, .inl (fun _ => 0))), (onC, .inl (cI, 20, .inl u1)), (op, .inr (7, [.ref opR, .ref opL, .ref opC, .ref opD, .int 0])), (opL, .inl (cI, 20, .inl (fun _ => 0))), (opC, .inl (cI, 20, .inl u2)), (un, .inr (5, [.ref unK, .int 0]))] _ := hP
  have hD : va_D A [(h0, .inr (9, [.ref w, .ref d, .ref co, .ref un, .ref ma, .ref tm, .int 1, .int 0, .int 0])), (co, .inr (4, [.ref w, .ref d, .ref on, .ref op, .int 0])), (w, .inr (3, [.int 0, .int 0, .ref wL, .ref wP, .ref wS])), (d, .inr (3, [.int 0, .int 0, .ref dL, .ref dP, .ref dS])), (on, .inr (7, [.ref onR, .ref onL, .ref onC, .ref onD, .int 0])), (onL, .inl (cI, 20, .inl (fun _ => 0))), (onC, .inl (cI, 20, .inl u1)), (op, .inr (7, [.ref opR, .ref opL, .ref opC, .ref opD, .int 0])), (opL, .inl (cI, 20, .inl (fun _ => 0))), (opC, .inl (cI, 20, .inl u2)), (un, .inr (5, [.ref unK, .int 0]))] := hD
  refine lv_aload_n hx hb dX6_netClasses_4 rfl (lv_at hl 0 rfl) ?_
  refine va_get (D := (dC, dI)) (ci := 9) (v := .ref co) (C := RX6) (T := TX6) (N := 9) hx hb hts (fun w h => List.mem_cons_of_mem _ (List.mem_append_left _ (List.mem_append_left _ (List.mem_append_left _ (List.mem_append_left _ (List.mem_append_left _ (List.mem_append_left _ (List.mem_append_right _ (h))))))))) hown hK hP 0 rfl rfl 2 (by decide) (hts (.fieldLink RX6 24 "Netcompare" "colours" "LNetcompare$Colours;") (List.mem_cons_of_mem _ (List.mem_append_left _ (List.mem_append_left _ (List.mem_append_left _ (List.mem_append_left _ (List.mem_append_left _ (List.mem_append_left _ (List.mem_append_left _ (List.mem_append_left _ (List.mem_of_getElem? (i := 0) rfl))))))))))) (fun _ h9 => h9) rfl dX6_netClasses_5 ?_
  refine va_getN (D := (dC, dI)) (ci := 4) (v := .ref on) (C := RX1) (T := TX1) (N := 5) hx hb hts (fun w h => List.mem_cons_of_mem _ (List.mem_append_left _ (List.mem_append_left _ (List.mem_append_left _ (List.mem_append_left _ (List.mem_append_left _ (List.mem_append_right _ (h)))))))) hown hK hP 1 rfl rfl 2 (by decide) (va_Nw.use rfl (hN.1 _ (List.mem_of_getElem? (i := 40) rfl))) (fun _ h9 => h9) rfl dX6_netClasses_8 ?_
  refine va_getN (D := (dC, dI)) (ci := 7) (v := .int 0) (C := RX4) (T := TX4) (N := 5) hx hb hts (fun w h => List.mem_cons_of_mem _ (List.mem_append_left _ (List.mem_append_left _ (List.mem_append_left _ (List.mem_append_left _ (List.mem_append_right _ (h))))))) hown hK hP 4 rfl rfl 4 (by decide) (va_Nw.use rfl (hN.1 _ (List.mem_of_getElem? (i := 38) rfl))) (fun _ h9 => h9) rfl dX6_netClasses_11 ?_
  exact ret _ () _ _ _ _ _ _ (rfl) (hP.sub [] rfl) (hK.sub [] rfl) (hD.sub [] (by decide) rfl) hS (Nat.le_of_ble_eq_true rfl) (Nat.le_of_ble_eq_true rfl) dX6_netClasses_14

set_option maxHeartbeats 4000000 in
set_option maxRecDepth 100000 in
/-- partClasses on a fresh object -/
theorem kX6_partClasses (l : Launch) (dC : Nat → ClassId) (dI : Nat → Nat → Nat) (h0 ma tm un unK co : Nat) (w wL wP wS d dL dP dS : Nat) (on onR onL onC onD op opR opL opC opD : Nat) (cI : ClassId) (gn gp : Nat → Int32) (sz : Nat) : fMi l yX6_partClasses wsX6_partClasses ({ frames := 4, cells := 0, slots := 0, locals := 85 } : Room) dC dI [.ref h0] [(h0, .inr (9, [.ref w, .ref d, .ref co, .ref un, .ref ma, .ref tm, .int 0, .int 0, .int 0])), (co, .inr (4, [.ref w, .ref d, .ref on, .ref op, .int 0])), (w, .inr (3, [.int 0, .int 0, .ref wL, .ref wP, .ref wS])), (d, .inr (3, [.int 0, .int 0, .ref dL, .ref dP, .ref dS])), (on, .inr (7, [.ref onR, .ref onL, .ref onC, .ref onD, .int 0])), (onL, .inl (cI, 20, .inl (fun _ => 0))), (onC, .inl (cI, 20, .inl gn)), (op, .inr (7, [.ref opR, .ref opL, .ref opC, .ref opD, .int 0])), (opL, .inl (cI, 20, .inl (fun _ => 0))), (opC, .inl (cI, 20, .inl gp)), (un, .inr (5, [.ref unK, .int 0]))] [(cI, .int)] sz (fun (r : Int32) (u : Unit) => r = 0) (fun u => []) (fun u => []) := by
  refine oP_i (y := yX6_partClasses) (cc := cX6_partClasses) (maxL := 1) (by decide) rfl (Nat.le_of_ble_eq_true rfl) ?_
  intro p e s m args below meth c ls A Q hx hb hr hml hown hts hN hZ hA hin hlk hP hK hD hl ret
  have hS : va_S A s.heap s.heap [] := va_S.rf
  have hl : lv_has ls 1 [(0, .ref h0)] := hl
  have hP : va_P (dC, dI) vwCl [(h0, .inr (9, [.ref w, .ref d, .ref co, .ref un, .ref ma, .ref tm, .int 0, .int 0, .int 0])), (co, .inr (4, [.ref w, .ref d, .ref on, .ref op, .int 0])), (w, .inr (3, [.int 0, .int 0, .ref wL, .ref wP, .ref wS])), (d, .inr (3, [.int 0, .int 0, .ref dL, .ref dP, .ref dS])), (on, .inr (7, [.ref onR, .ref onL, .ref onC, .ref onD, .int 0])), (onL, .inl (cI, 20, .inl (fun _ => 0))), (onC, .inl (cI, 20, .inl gn)), (op, .inr (7, [.ref opR, .ref opL, .ref opC, .ref opD, .int 0])), (opL, .inl (cI, 20, .inl (fun _ => 0))), (opC, .inl (cI, 20, .inl gp)), (un, .inr (5, [.ref unK, .int 0]))] _ := hP
  have hD : va_D A [(h0, .inr (9, [.ref w, .ref d, .ref co, .ref un, .ref ma, .ref tm, .int 0, .int 0, .int 0])), (co, .inr (4, [.ref w, .ref d, .ref on, .ref op, .int 0])), (w, .inr (3, [.int 0, .int 0, .ref wL, .ref wP, .ref wS])), (d, .inr (3, [.int 0, .int 0, .ref dL, .ref dP, .ref dS])), (on, .inr (7, [.ref onR, .ref onL, .ref onC, .ref onD, .int 0])), (onL, .inl (cI, 20, .inl (fun _ => 0))), (onC, .inl (cI, 20, .inl gn)), (op, .inr (7, [.ref opR, .ref opL, .ref opC, .ref opD, .int 0])), (opL, .inl (cI, 20, .inl (fun _ => 0))), (opC, .inl (cI, 20, .inl gp)), (un, .inr (5, [.ref unK, .int 0]))] := hD
  refine lv_aload_n hx hb dX6_partClasses_0 rfl (lv_at hl 0 rfl) ?_
  have hPc := hP.sub (ws' := [(h0, .inr (9, [.ref w, .ref d, .ref co, .ref un, .ref ma, .ref tm, .int 0, .int 0, .int 0])), (co, .inr (4, [.ref w, .ref d, .ref on, .ref op, .int 0])), (w, .inr (3, [.int 0, .int 0, .ref wL, .ref wP, .ref wS])), (d, .inr (3, [.int 0, .int 0, .ref dL, .ref dP, .ref dS])), (on, .inr (7, [.ref onR, .ref onL, .ref onC, .ref onD, .int 0])), (onL, .inl (cI, 20, .inl (fun _ => 0))), (onC, .inl (cI, 20, .inl gn)), (op, .inr (7, [.ref opR, .ref opL, .ref opC, .ref opD, .int 0])), (opL, .inl (cI, 20, .inl (fun _ => 0))), (opC, .inl (cI, 20, .inl gp)), (un, .inr (5, [.ref unK, .int 0]))]) [0, 1, 2, 3, 4, 5, 6, 7, 8, 9, 10] rfl
  have hDc := hD.sub (ws' := [(h0, .inr (9, [.ref w, .ref d, .ref co, .ref un, .ref ma, .ref tm, .int 0, .int 0, .int 0])), (co, .inr (4, [.ref w, .ref d, .ref on, .ref op, .int 0])), (w, .inr (3, [.int 0, .int 0, .ref wL, .ref wP, .ref wS])), (d, .inr (3, [.int 0, .int 0, .ref dL, .ref dP, .ref dS])), (on, .inr (7, [.ref onR, .ref onL, .ref onC, .ref onD, .int 0])), (onL, .inl (cI, 20, .inl (fun _ => 0))), (onC, .inl (cI, 20, .inl gn)), (op, .inr (7, [.ref opR, .ref opL, .ref opC, .ref opD, .int 0])), (opL, .inl (cI, 20, .inl (fun _ => 0))), (opC, .inl (cI, 20, .inl gp)), (un, .inr (5, [.ref unK, .int 0]))]) [0, 1, 2, 3, 4, 5, 6, 7, 8, 9, 10] (by decide) rfl
  have hKc := hK.sub (tys' := [(cI, .int)]) [0] rfl
  have hFc := va_free (wc := [(h0, .inr (9, [.ref w, .ref d, .ref co, .ref un, .ref ma, .ref tm, .int 0, .int 0, .int 0])), (co, .inr (4, [.ref w, .ref d, .ref on, .ref op, .int 0])), (w, .inr (3, [.int 0, .int 0, .ref wL, .ref wP, .ref wS])), (d, .inr (3, [.int 0, .int 0, .ref dL, .ref dP, .ref dS])), (on, .inr (7, [.ref onR, .ref onL, .ref onC, .ref onD, .int 0])), (onL, .inl (cI, 20, .inl (fun _ => 0))), (onC, .inl (cI, 20, .inl gn)), (op, .inr (7, [.ref opR, .ref opL, .ref opC, .ref opD, .int 0])), (opL, .inl (cI, 20, .inl (fun _ => 0))), (opC, .inl (cI, 20, .inl gp)), (un, .inr (5, [.ref unK, .int 0]))]) hD hS hA [0, 1, 2, 3, 4, 5, 6, 7, 8, 9, 10] rfl
  refine va_callv (va_runV (As := []) (rest := []) ⟨hx, hb, hml, hown, hts⟩ (kX6_colour l dC dI h0 ma tm un unK co w wL wP wS d dL dP dS on onR onL onC onD op opR opL opC opD cI gn gp s.heap.size) (cwV 0 hts gX6_partClasses_X6_colour rfl rfl rfl (by decide +kernel) ⟨Nat.le_of_ble_eq_true rfl, Nat.le_of_ble_eq_true rfl⟩) (fPreV hN hZ hS (fun q h => hFc q h) hPc hKc hDc (ci := 9) (q0 := 0) rfl rfl) rfl rfl hl.1 rfl (lv_room (Nat.le_of_ble_eq_true rfl)) dX6_partClasses_1 ⟨Nat.le_of_ble_eq_true rfl, Nat.le_of_ble_eq_true rfl⟩) hS (fun q _ h => hFc q h) hFc (fun u t H1 locs ht hvm hw hB hz1 hk1 hS => ?_)
  obtain ⟨hP1, hK1, hD1⟩ := hB
  rw [ht] at hP1
  have hK1 := va_K.moved hvm.symm hK1
  obtain ⟨u1, u2⟩ := u
  obtain ⟨hP, hD⟩ := va_join (wr := []) (w1 := [(h0, .inr (9, [.ref w, .ref d, .ref co, .ref un, .ref ma, .ref tm, .int 1, .int 0, .int 0])), (co, .inr (4, [.ref w, .ref d, .ref on, .ref op, .int 0])), (w, .inr (3, [.int 0, .int 0, .ref wL, .ref wP, .ref wS])), (d, .inr (3, [.int 0, .int 0, .ref dL, .ref dP, .ref dS])), (on, .inr (7, [.ref onR, .ref onL, .ref onC, .ref onD, .int 0])), (onL, .inl (cI, 20, .inl (fun _ => 0))), (onC, .inl (cI, 20, .inl u1)), (op, .inr (7, [.ref opR, .ref opL, .ref opC, .ref opD, .int 0])), (opL, .inl (cI, 20, .inl (fun _ => 0))), (opC, .inl (cI, 20, .inl u2)), (un, .inr (5, [.ref unK, .int 0]))]) hP hD [0, 1, 2, 3, 4, 5, 6, 7, 8, 9, 10] [] rfl rfl (by decide) (by decide) hk1 hFc hP1 hD1
  generalize H1 = H at hP hS ⊢
  have hP : va_P (dC, dI) vwCl [(h0, .inr (9, [.ref w, .ref d, .ref co, .ref un, .ref ma, .ref tm, .int 1, .int 0, .int 0])), (co, .inr (4, [.ref w, .ref d, .ref on, .ref op, .int 0])), (w, .inr (3, [.int 0, .int 0, .ref wL, .ref wP, .ref wS])), (d, .inr (3, [.int 0, .int 0, .ref dL, .ref dP, .ref dS])), (on, .inr (7, [.ref onR, .ref onL, .ref onC, .ref onD, .int 0])), (onL, .inl (cI, 20, .inl (fun _ => 0))), (onC, .inl (cI, 20, .inl u1)), (op, .inr (7, [.ref opR, .ref opL, .ref opC, .ref opD, .int 0])), (opL, .inl (cI, 20, .inl (fun _ => 0))), (opC, .inl (cI, 20, .inl u2)), (un, .inr (5, [.ref unK, .int 0]))] _ := hP
  have hD : va_D A [(h0, .inr (9, [.ref w, .ref d, .ref co, .ref un, .ref ma, .ref tm, .int 1, .int 0, .int 0])), (co, .inr (4, [.ref w, .ref d, .ref on, .ref op, .int 0])), (w, .inr (3, [.int 0, .int 0, .ref wL, .ref wP, .ref wS])), (d, .inr (3, [.int 0, .int 0, .ref dL, .ref dP, .ref dS])), (on, .inr (7, [.ref onR, .ref onL, .ref onC, .ref onD, .int 0])), (onL, .inl (cI, 20, .inl (fun _ => 0))), (onC, .inl (cI, 20, .inl u1)), (op, .inr (7, [.ref opR, .ref opL, .ref opC, .ref opD, .int 0])), (opL, .inl (cI, 20, .inl (fun _ => 0))), (opC, .inl (cI, 20, .inl u2)), (un, .inr (5, [.ref unK, .int 0]))] := hD
  refine lv_aload_n hx hb dX6_partClasses_4 rfl (lv_at hl 0 rfl) ?_
  refine va_get (D := (dC, dI)) (ci := 9) (v := .ref co) (C := RX6) (T := TX6) (N := 9) hx hb hts (fun w h => List.mem_cons_of_mem _ (List.mem_append_left _ (List.mem_append_left _ (List.mem_append_left _ (List.mem_append_left _ (List.mem_append_left _ (List.mem_append_left _ (List.mem_append_right _ (h))))))))) hown hK hP 0 rfl rfl 2 (by decide) (hts (.fieldLink RX6 24 "Netcompare" "colours" "LNetcompare$Colours;") (List.mem_cons_of_mem _ (List.mem_append_left _ (List.mem_append_left _ (List.mem_append_left _ (List.mem_append_left _ (List.mem_append_left _ (List.mem_append_left _ (List.mem_append_left _ (List.mem_append_left _ (List.mem_of_getElem? (i := 0) rfl))))))))))) (fun _ h9 => h9) rfl dX6_partClasses_5 ?_
  refine va_getN (D := (dC, dI)) (ci := 4) (v := .ref op) (C := RX1) (T := TX1) (N := 5) hx hb hts (fun w h => List.mem_cons_of_mem _ (List.mem_append_left _ (List.mem_append_left _ (List.mem_append_left _ (List.mem_append_left _ (List.mem_append_left _ (List.mem_append_right _ (h)))))))) hown hK hP 1 rfl rfl 3 (by decide) (va_Nw.use rfl (hN.1 _ (List.mem_of_getElem? (i := 42) rfl))) (fun _ h9 => h9) rfl dX6_partClasses_8 ?_
  refine va_getN (D := (dC, dI)) (ci := 7) (v := .int 0) (C := RX4) (T := TX4) (N := 5) hx hb hts (fun w h => List.mem_cons_of_mem _ (List.mem_append_left _ (List.mem_append_left _ (List.mem_append_left _ (List.mem_append_left _ (List.mem_append_right _ (h))))))) hown hK hP 7 rfl rfl 4 (by decide) (va_Nw.use rfl (hN.1 _ (List.mem_of_getElem? (i := 38) rfl))) (fun _ h9 => h9) rfl dX6_partClasses_11 ?_
  exact ret _ () _ _ _ _ _ _ (rfl) (hP.sub [] rfl) (hK.sub [] rfl) (hD.sub [] (by decide) rfl) hS (Nat.le_of_ble_eq_true rfl) (Nat.le_of_ble_eq_true rfl) dX6_partClasses_14

set_option maxHeartbeats 4000000 in
set_option maxRecDepth 100000 in
/-- differences on a fresh object -/
theorem kX6_differences (l : Launch) (dC : Nat → ClassId) (dI : Nat → Nat → Nat) (h0 ma tm un unK co : Nat) (w wL wP wS d dL dP dS : Nat) (on onR onL onC onD op opR opL opC opD : Nat) (cI : ClassId) (gn gp : Nat → Int32) (sz : Nat) : fMi l yX6_differences wsX6_differences ({ frames := 4, cells := 0, slots := 0, locals := 85 } : Room) dC dI [.ref h0] [(h0, .inr (9, [.ref w, .ref d, .ref co, .ref un, .ref ma, .ref tm, .int 0, .int 0, .int 0])), (co, .inr (4, [.ref w, .ref d, .ref on, .ref op, .int 0])), (w, .inr (3, [.int 0, .int 0, .ref wL, .ref wP, .ref wS])), (d, .inr (3, [.int 0, .int 0, .ref dL, .ref dP, .ref dS])), (on, .inr (7, [.ref onR, .ref onL, .ref onC, .ref onD, .int 0])), (onL, .inl (cI, 20, .inl (fun _ => 0))), (onC, .inl (cI, 20, .inl gn)), (op, .inr (7, [.ref opR, .ref opL, .ref opC, .ref opD, .int 0])), (opL, .inl (cI, 20, .inl (fun _ => 0))), (opC, .inl (cI, 20, .inl gp)), (un, .inr (5, [.ref unK, .int 0]))] [(cI, .int)] sz (fun (r : Int32) (u : Unit) => r = 0) (fun u => []) (fun u => []) := by
  refine oP_i (y := yX6_differences) (cc := cX6_differences) (maxL := 1) (by decide) rfl (Nat.le_of_ble_eq_true rfl) ?_
  intro p e s m args below meth c ls A Q hx hb hr hml hown hts hN hZ hA hin hlk hP hK hD hl ret
  have hS : va_S A s.heap s.heap [] := va_S.rf
  have hl : lv_has ls 1 [(0, .ref h0)] := hl
  have hP : va_P (dC, dI) vwCl [(h0, .inr (9, [.ref w, .ref d, .ref co, .ref un, .ref ma, .ref tm, .int 0, .int 0, .int 0])), (co, .inr (4, [.ref w, .ref d, .ref on, .ref op, .int 0])), (w, .inr (3, [.int 0, .int 0, .ref wL, .ref wP, .ref wS])), (d, .inr (3, [.int 0, .int 0, .ref dL, .ref dP, .ref dS])), (on, .inr (7, [.ref onR, .ref onL, .ref onC, .ref onD, .int 0])), (onL, .inl (cI, 20, .inl (fun _ => 0))), (onC, .inl (cI, 20, .inl gn)), (op, .inr (7, [.ref opR, .ref opL, .ref opC, .ref opD, .int 0])), (opL, .inl (cI, 20, .inl (fun _ => 0))), (opC, .inl (cI, 20, .inl gp)), (un, .inr (5, [.ref unK, .int 0]))] _ := hP
  have hD : va_D A [(h0, .inr (9, [.ref w, .ref d, .ref co, .ref un, .ref ma, .ref tm, .int 0, .int 0, .int 0])), (co, .inr (4, [.ref w, .ref d, .ref on, .ref op, .int 0])), (w, .inr (3, [.int 0, .int 0, .ref wL, .ref wP, .ref wS])), (d, .inr (3, [.int 0, .int 0, .ref dL, .ref dP, .ref dS])), (on, .inr (7, [.ref onR, .ref onL, .ref onC, .ref onD, .int 0])), (onL, .inl (cI, 20, .inl (fun _ => 0))), (onC, .inl (cI, 20, .inl gn)), (op, .inr (7, [.ref opR, .ref opL, .ref opC, .ref opD, .int 0])), (opL, .inl (cI, 20, .inl (fun _ => 0))), (opC, .inl (cI, 20, .inl gp)), (un, .inr (5, [.ref unK, .int 0]))] := hD
  refine lv_aload_n hx hb dX6_differences_0 rfl (lv_at hl 0 rfl) ?_
  have hPc := hP.sub (ws' := [(h0, .inr (9, [.ref w, .ref d, .ref co, .ref un, .ref ma, .ref tm, .int 0, .int 0, .int 0])), (co, .inr (4, [.ref w, .ref d, .ref on, .ref op, .int 0])), (w, .inr (3, [.int 0, .int 0, .ref wL, .ref wP, .ref wS])), (d, .inr (3, [.int 0, .int 0, .ref dL, .ref dP, .ref dS])), (on, .inr (7, [.ref onR, .ref onL, .ref onC, .ref onD, .int 0])), (onL, .inl (cI, 20, .inl (fun _ => 0))), (onC, .inl (cI, 20, .inl gn)), (op, .inr (7, [.ref opR, .ref opL, .ref opC, .ref opD, .int 0])), (opL, .inl (cI, 20, .inl (fun _ => 0))), (opC, .inl (cI, 20, .inl gp)), (un, .inr (5, [.ref unK, .int 0]))]) [0, 1, 2, 3, 4, 5, 6, 7, 8, 9, 10] rfl
  have hDc := hD.sub (ws' := [(h0, .inr (9, [.ref w, .ref d, .ref co, .ref un, .ref ma, .ref tm, .int 0, .int 0, .int 0])), (co, .inr (4, [.ref w, .ref d, .ref on, .ref op, .int 0])), (w, .inr (3, [.int 0, .int 0, .ref wL, .ref wP, .ref wS])), (d, .inr (3, [.int 0, .int 0, .ref dL, .ref dP, .ref dS])), (on, .inr (7, [.ref onR, .ref onL, .ref onC, .ref onD, .int 0])), (onL, .inl (cI, 20, .inl (fun _ => 0))), (onC, .inl (cI, 20, .inl gn)), (op, .inr (7, [.ref opR, .ref opL, .ref opC, .ref opD, .int 0])), (opL, .inl (cI, 20, .inl (fun _ => 0))), (opC, .inl (cI, 20, .inl gp)), (un, .inr (5, [.ref unK, .int 0]))]) [0, 1, 2, 3, 4, 5, 6, 7, 8, 9, 10] (by decide) rfl
  have hKc := hK.sub (tys' := [(cI, .int)]) [0] rfl
  have hFc := va_free (wc := [(h0, .inr (9, [.ref w, .ref d, .ref co, .ref un, .ref ma, .ref tm, .int 0, .int 0, .int 0])), (co, .inr (4, [.ref w, .ref d, .ref on, .ref op, .int 0])), (w, .inr (3, [.int 0, .int 0, .ref wL, .ref wP, .ref wS])), (d, .inr (3, [.int 0, .int 0, .ref dL, .ref dP, .ref dS])), (on, .inr (7, [.ref onR, .ref onL, .ref onC, .ref onD, .int 0])), (onL, .inl (cI, 20, .inl (fun _ => 0))), (onC, .inl (cI, 20, .inl gn)), (op, .inr (7, [.ref opR, .ref opL, .ref opC, .ref opD, .int 0])), (opL, .inl (cI, 20, .inl (fun _ => 0))), (opC, .inl (cI, 20, .inl gp)), (un, .inr (5, [.ref unK, .int 0]))]) hD hS hA [0, 1, 2, 3, 4, 5, 6, 7, 8, 9, 10] rfl
  refine va_callv (va_runV (As := []) (rest := []) ⟨hx, hb, hml, hown, hts⟩ (kX6_colour l dC dI h0 ma tm un unK co w wL wP wS d dL dP dS on onR onL onC onD op opR opL opC opD cI gn gp s.heap.size) (cwV 0 hts gX6_differences_X6_colour rfl rfl rfl (by decide +kernel) ⟨Nat.le_of_ble_eq_true rfl, Nat.le_of_ble_eq_true rfl⟩) (fPreV hN hZ hS (fun q h => hFc q h) hPc hKc hDc (ci := 9) (q0 := 0) rfl rfl) rfl rfl hl.1 rfl (lv_room (Nat.le_of_ble_eq_true rfl)) dX6_differences_1 ⟨Nat.le_of_ble_eq_true rfl, Nat.le_of_ble_eq_true rfl⟩) hS (fun q _ h => hFc q h) hFc (fun u t H1 locs ht hvm hw hB hz1 hk1 hS => ?_)
  obtain ⟨hP1, hK1, hD1⟩ := hB
  rw [ht] at hP1
  have hK1 := va_K.moved hvm.symm hK1
  obtain ⟨u1, u2⟩ := u
  obtain ⟨hP, hD⟩ := va_join (wr := []) (w1 := [(h0, .inr (9, [.ref w, .ref d, .ref co, .ref un, .ref ma, .ref tm, .int 1, .int 0, .int 0])), (co, .inr (4, [.ref w, .ref d, .ref on, .ref op, .int 0])), (w, .inr (3, [.int 0, .int 0, .ref wL, .ref wP, .ref wS])), (d, .inr (3, [.int 0, .int 0, .ref dL, .ref dP, .ref dS])), (on, .inr (7, [.ref onR, .ref onL, .ref onC, .ref onD, .int 0])), (onL, .inl (cI, 20, .inl (fun _ => 0))), (onC, .inl (cI, 20, .inl u1)), (op, .inr (7, [.ref opR, .ref opL, .ref opC, .ref opD, .int 0])), (opL, .inl (cI, 20, .inl (fun _ => 0))), (opC, .inl (cI, 20, .inl u2)), (un, .inr (5, [.ref unK, .int 0]))]) hP hD [0, 1, 2, 3, 4, 5, 6, 7, 8, 9, 10] [] rfl rfl (by decide) (by decide) hk1 hFc hP1 hD1
  generalize H1 = H at hP hS ⊢
  have hP : va_P (dC, dI) vwCl [(h0, .inr (9, [.ref w, .ref d, .ref co, .ref un, .ref ma, .ref tm, .int 1, .int 0, .int 0])), (co, .inr (4, [.ref w, .ref d, .ref on, .ref op, .int 0])), (w, .inr (3, [.int 0, .int 0, .ref wL, .ref wP, .ref wS])), (d, .inr (3, [.int 0, .int 0, .ref dL, .ref dP, .ref dS])), (on, .inr (7, [.ref onR, .ref onL, .ref onC, .ref onD, .int 0])), (onL, .inl (cI, 20, .inl (fun _ => 0))), (onC, .inl (cI, 20, .inl u1)), (op, .inr (7, [.ref opR, .ref opL, .ref opC, .ref opD, .int 0])), (opL, .inl (cI, 20, .inl (fun _ => 0))), (opC, .inl (cI, 20, .inl u2)), (un, .inr (5, [.ref unK, .int 0]))] _ := hP
  have hD : va_D A [(h0, .inr (9, [.ref w, .ref d, .ref co, .ref un, .ref ma, .ref tm, .int 1, .int 0, .int 0])), (co, .inr (4, [.ref w, .ref d, .ref on, .ref op, .int 0])), (w, .inr (3, [.int 0, .int 0, .ref wL, .ref wP, .ref wS])), (d, .inr (3, [.int 0, .int 0, .ref dL, .ref dP, .ref dS])), (on, .inr (7, [.ref onR, .ref onL, .ref onC, .ref onD, .int 0])), (onL, .inl (cI, 20, .inl (fun _ => 0))), (onC, .inl (cI, 20, .inl u1)), (op, .inr (7, [.ref opR, .ref opL, .ref opC, .ref opD, .int 0])), (opL, .inl (cI, 20, .inl (fun _ => 0))), (opC, .inl (cI, 20, .inl u2)), (un, .inr (5, [.ref unK, .int 0]))] := hD
  refine lv_aload_n hx hb dX6_differences_4 rfl (lv_at hl 0 rfl) ?_
  refine va_get (D := (dC, dI)) (ci := 9) (v := .ref un) (C := RX6) (T := TX6) (N := 9) hx hb hts (fun w h => List.mem_cons_of_mem _ (List.mem_append_left _ (List.mem_append_left _ (List.mem_append_left _ (List.mem_append_left _ (List.mem_append_left _ (List.mem_append_left _ (List.mem_append_right _ (h))))))))) hown hK hP 0 rfl rfl 3 (by decide) (hts (.fieldLink RX6 31 "Netcompare" "unequal" "LNetcompare$Differences;") (List.mem_cons_of_mem _ (List.mem_append_left _ (List.mem_append_left _ (List.mem_append_left _ (List.mem_append_left _ (List.mem_append_left _ (List.mem_append_left _ (List.mem_append_left _ (List.mem_append_left _ (List.mem_of_getElem? (i := 0) rfl))))))))))) (fun _ h9 => h9) rfl dX6_differences_5 ?_
  refine va_getN (D := (dC, dI)) (ci := 5) (v := .int 0) (C := RX2) (T := TX2) (N := 2) hx hb hts (fun w h => List.mem_cons_of_mem _ (List.mem_append_left _ (List.mem_append_left _ (List.mem_append_left _ (List.mem_append_left _ (List.mem_append_left _ (List.mem_append_right _ (h)))))))) hown hK hP 10 rfl rfl 1 (by decide) (va_Nw.use rfl (hN.1 _ (List.mem_of_getElem? (i := 44) rfl))) (fun _ h9 => h9) rfl dX6_differences_8 ?_
  exact ret _ () _ _ _ _ _ _ (rfl) (hP.sub [] rfl) (hK.sub [] rfl) (hD.sub [] (by decide) rfl) hS (Nat.le_of_ble_eq_true rfl) (Nat.le_of_ble_eq_true rfl) dX6_differences_11

set_option maxHeartbeats 4000000 in
set_option maxRecDepth 100000 in
/-- netsLike on a fresh object -/
theorem kX6_netsLike (l : Launch) (hfl : l.stackTraces = false) (dC : Nat → ClassId) (dI : Nat → Nat → Nat) (h0 w d co un ma tm : Nat) (wL wP wS dL dP dS : Nat) (p0 p1 p2 : Int32) (sz : Nat) : fXi l yX6_netsLike wsX6_netsLike ({ frames := 8, cells := 3, slots := 18, locals := 123 } : Room) dC dI [.ref h0, .int p0, .int p1, .int p2] [(h0, .inr (9, [.ref w, .ref d, .ref co, .ref un, .ref ma, .ref tm, .int 0, .int 0, .int 0])), (w, .inr (3, [.int 0, .int 0, .ref wL, .ref wP, .ref wS])), (d, .inr (3, [.int 0, .int 0, .ref dL, .ref dP, .ref dS]))] [] sz (fun E : String => E = "java/lang/IllegalArgumentException" ∧ ((¬ ((p0 = 0) ∨ (p0 = 1))) ∨ (¬ ((p2 = 0) ∨ (p2 = 1)))) ∨ E = "java/util/NoSuchElementException" ∧ (¬ ((¬ ((p0 = 0) ∨ (p0 = 1))) ∨ (¬ ((p2 = 0) ∨ (p2 = 1)))))) (fun (r : Int32) (u : Unit) => False) (fun u => []) (fun u => []) := by
  refine oX_i hfl (y := yX6_netsLike) (cc := cX6_netsLike) (maxL := 5) (by decide) rfl (Nat.le_of_ble_eq_true rfl) ?_
  intro p e s m args below meth c ls A Q hx hb hr hml hown hts hN hZ hA hin hlk hP hK hD hl ret thr thn
  have hS : va_S A s.heap s.heap [] := va_S.rf
  have hl : lv_has ls 5 [(0, .ref h0), (1, .int p0), (2, .int p1), (3, .int p2)] := hl
  have hP : va_P (dC, dI) vwCl [(h0, .inr (9, [.ref w, .ref d, .ref co, .ref un, .ref ma, .ref tm, .int 0, .int 0, .int 0])), (w, .inr (3, [.int 0, .int 0, .ref wL, .ref wP, .ref wS])), (d, .inr (3, [.int 0, .int 0, .ref dL, .ref dP, .ref dS]))] _ := hP
  have hD : va_D A [(h0, .inr (9, [.ref w, .ref d, .ref co, .ref un, .ref ma, .ref tm, .int 0, .int 0, .int 0])), (w, .inr (3, [.int 0, .int 0, .ref wL, .ref wP, .ref wS])), (d, .inr (3, [.int 0, .int 0, .ref dL, .ref dP, .ref dS]))] := hD
  refine lv_aload_n hx hb dX6_netsLike_0 rfl (lv_at hl 0 rfl) ?_
  refine lv_iload_n hx hb dX6_netsLike_1 rfl (lv_at hl 1 rfl) ?_
  have hPc := hP.sub (ws' := [(h0, .inr (9, [.ref w, .ref d, .ref co, .ref un, .ref ma, .ref tm, .int 0, .int 0, .int 0]))]) [0] rfl
  have hDc := hD.sub (ws' := [(h0, .inr (9, [.ref w, .ref d, .ref co, .ref un, .ref ma, .ref tm, .int 0, .int 0, .int 0]))]) [0] (by decide) rfl
  have hKc := hK.sub (tys' := []) [] rfl
  have hFc := va_free (wc := [(h0, .inr (9, [.ref w, .ref d, .ref co, .ref un, .ref ma, .ref tm, .int 0, .int 0, .int 0]))]) hD hS hA [0] rfl
  refine vx_callq (vx_runV (As := [.int p0]) (rest := []) ⟨hx, hb, hml, hown, hts⟩ (kX6_circuitAt l hfl dC dI h0 w d co un ma tm p0 s.heap.size) (cwV 1 hts gX6_netsLike_X6_circuitAt rfl rfl rfl (by decide +kernel) ⟨Nat.le_of_ble_eq_true rfl, Nat.le_of_ble_eq_true rfl⟩) (fPreV hN hZ hS (fun q h => hFc q h) hPc hKc hDc (ci := 9) (q0 := 0) rfl rfl) rfl rfl hl.1 rfl (lv_room (Nat.le_of_ble_eq_true rfl)) dX6_netsLike_2 ⟨Nat.le_of_ble_eq_true rfl, Nat.le_of_ble_eq_true rfl⟩) hS (fun q _ h => hFc q h) hFc (fun q _ h => hFc q h) (fun E ce q9 u t H locs ht hvm hpx hE hz1 hk1 hS hq9 hv9 hc9 => ?_) (fun r u t H1 locs ht hvm hw hB hz1 hk1 hS => ?_)
  · skip
    exact thr E ce q9 _ _ _ _ _ _ _ (Or.inl (⟨hE.1, Or.inl (hE.2)⟩)) hq9 hv9 hc9 hS (Nat.le_of_ble_eq_true rfl) (Nat.le_of_ble_eq_true rfl)
  · skip
    obtain ⟨hP1, hK1, hD1⟩ := hB
    rw [ht] at hP1
    have hK1 := va_K.moved hvm.symm hK1
    obtain ⟨hP, hD⟩ := va_join (wr := [(w, .inr (3, [.int 0, .int 0, .ref wL, .ref wP, .ref wS])), (d, .inr (3, [.int 0, .int 0, .ref dL, .ref dP, .ref dS]))]) (w1 := [(h0, .inr (9, [.ref w, .ref d, .ref co, .ref un, .ref ma, .ref tm, .int 0, .int 0, .int 0]))]) hP hD [0] [1, 2] rfl rfl (by decide) (by decide) hk1 hFc hP1 hD1
    generalize H1 = H at hP hS ⊢
    have hP : va_P (dC, dI) vwCl [(w, .inr (3, [.int 0, .int 0, .ref wL, .ref wP, .ref wS])), (d, .inr (3, [.int 0, .int 0, .ref dL, .ref dP, .ref dS])), (h0, .inr (9, [.ref w, .ref d, .ref co, .ref un, .ref ma, .ref tm, .int 0, .int 0, .int 0]))] _ := hP
    have hD : va_D A [(w, .inr (3, [.int 0, .int 0, .ref wL, .ref wP, .ref wS])), (d, .inr (3, [.int 0, .int 0, .ref dL, .ref dP, .ref dS])), (h0, .inr (9, [.ref w, .ref d, .ref co, .ref un, .ref ma, .ref tm, .int 0, .int 0, .int 0]))] := hD
    refine W.widen (k := 1) (n := 6) (Nat.le_of_ble_eq_true rfl) (Nat.le_of_ble_eq_true rfl) ?_
    rcases hw with ⟨hc0, rfl⟩ | ⟨hc1, rfl⟩
    · skip
      refine W.eq (g2 := F0 m 5 ls [.ref w]) rfl ?_
      refine lv_astore (lv' := [(4, .ref w), (0, .ref h0), (1, .int p0), (2, .int p1), (3, .int p2)]) hx hb dX6_netsLike_5 hl (Nat.le_of_ble_eq_true rfl) rfl (fun ls hl => ?_)
      refine lv_iload_n hx hb dX6_netsLike_7 rfl (lv_at hl 4 rfl) ?_
      have hPc := hP.sub (ws' := []) [] rfl
      have hDc := hD.sub (ws' := []) [] (by decide) rfl
      have hKc := hK.sub (tys' := []) [] rfl
      have hFc := va_free (wc := []) hD hS hA [] rfl
      refine vx_callv (vx_runS (As := [.int p2]) (rest := []) ⟨hx, hb, hml, hown, hts⟩ (kX6_requireCircuit l hfl dC dI p2 H.size) (va_cwS 1 hts gX6_netsLike_X6_requireCircuit rfl rfl rfl (by decide +kernel) ⟨Nat.le_of_ble_eq_true rfl, Nat.le_of_ble_eq_true rfl⟩) (fPreS hN hZ hS (fun q h => hFc q h) hPc hKc hDc) rfl rfl hl.1 rfl (lv_room (Nat.le_of_ble_eq_true rfl)) dX6_netsLike_8 ⟨Nat.le_of_ble_eq_true rfl, Nat.le_of_ble_eq_true rfl⟩) hS (fun q _ h => hFc q h) hFc (fun q _ h => hFc q h) (fun E ce q9 u t H locs ht hvm hpx hE hz1 hk1 hS hq9 hv9 hc9 => ?_) (fun u t H1 locs ht hvm hw hB hz1 hk1 hS => ?_)
      · skip
        exact thr E ce q9 _ _ _ _ _ _ _ (Or.inl (⟨hE.1, Or.inr (hE.2)⟩)) hq9 hv9 hc9 hS (Nat.le_of_ble_eq_true rfl) (Nat.le_of_ble_eq_true rfl)
      · skip
        obtain ⟨hP1, hK1, hD1⟩ := hB
        rw [ht] at hP1
        have hK1 := va_K.moved hvm.symm hK1
        obtain ⟨hP, hD⟩ := va_join (wr := [(w, .inr (3, [.int 0, .int 0, .ref wL, .ref wP, .ref wS])), (d, .inr (3, [.int 0, .int 0, .ref dL, .ref dP, .ref dS])), (h0, .inr (9, [.ref w, .ref d, .ref co, .ref un, .ref ma, .ref tm, .int 0, .int 0, .int 0]))]) (w1 := []) hP hD [] [0, 1, 2] rfl rfl (by decide) (by decide) hk1 hFc hP1 hD1
        generalize H1 = H at hP hS ⊢
        have hP : va_P (dC, dI) vwCl [(w, .inr (3, [.int 0, .int 0, .ref wL, .ref wP, .ref wS])), (d, .inr (3, [.int 0, .int 0, .ref dL, .ref dP, .ref dS])), (h0, .inr (9, [.ref w, .ref d, .ref co, .ref un, .ref ma, .ref tm, .int 0, .int 0, .int 0]))] _ := hP
        have hD : va_D A [(w, .inr (3, [.int 0, .int 0, .ref wL, .ref wP, .ref wS])), (d, .inr (3, [.int 0, .int 0, .ref dL, .ref dP, .ref dS])), (h0, .inr (9, [.ref w, .ref d, .ref co, .ref un, .ref ma, .ref tm, .int 0, .int 0, .int 0]))] := hD
        refine W.widen (k := 2) (n := 12) (Nat.le_of_ble_eq_true rfl) (Nat.le_of_ble_eq_true rfl) ?_
        refine lv_aload hx hb dX6_netsLike_11 (lv_at hl 0 rfl) ?_
        refine lv_iload_n hx hb dX6_netsLike_13 rfl (lv_at hl 3 rfl) ?_
        have hPc := hP.sub (ws' := [(w, .inr (3, [.int 0, .int 0, .ref wL, .ref wP, .ref wS]))]) [0] rfl
        have hDc := hD.sub (ws' := [(w, .inr (3, [.int 0, .int 0, .ref wL, .ref wP, .ref wS]))]) [0] (by decide) rfl
        have hKc := hK.sub (tys' := []) [] rfl
        have hFc := va_free (wc := [(w, .inr (3, [.int 0, .int 0, .ref wL, .ref wP, .ref wS]))]) hD hS hA [0] rfl
        refine vx_callv (vx_runS (As := [.ref w, .int p1]) (rest := []) ⟨hx, hb, hml, hown, hts⟩ (kX6_requireNet l hfl dC dI w wL wP wS p1 H.size) (va_cwS 2 hts gX6_netsLike_X6_requireNet rfl rfl rfl (by decide +kernel) ⟨Nat.le_of_ble_eq_true rfl, Nat.le_of_ble_eq_true rfl⟩) (fPreS hN hZ hS (fun q h => hFc q h) hPc hKc hDc) rfl rfl hl.1 rfl (lv_room (Nat.le_of_ble_eq_true rfl)) dX6_netsLike_14 ⟨Nat.le_of_ble_eq_true rfl, Nat.le_of_ble_eq_true rfl⟩) hS (fun q _ h => hFc q h) hFc (fun q _ h => hFc q h) (fun E ce q9 u t H locs ht hvm hpx hE hz1 hk1 hS hq9 hv9 hc9 => ?_) (fun u t H1 locs ht hvm hw hB hz1 hk1 hS => ?_)
        · skip
          exact thr E ce q9 _ _ _ _ _ _ _ (Or.inr (⟨hE, (fun h9 => h9.elim ((fun h9 => h9 (Or.inl (hc0)))) ((fun h9 => h9 (hw))))⟩)) hq9 hv9 hc9 hS (Nat.le_of_ble_eq_true rfl) (Nat.le_of_ble_eq_true rfl)
        · skip
          exact hw.elim
    · skip
      refine W.eq (g2 := F0 m 5 ls [.ref d]) rfl ?_
      refine lv_astore (lv' := [(4, .ref d), (0, .ref h0), (1, .int p0), (2, .int p1), (3, .int p2)]) hx hb dX6_netsLike_5 hl (Nat.le_of_ble_eq_true rfl) rfl (fun ls hl => ?_)
      refine lv_iload_n hx hb dX6_netsLike_7 rfl (lv_at hl 4 rfl) ?_
      have hPc := hP.sub (ws' := []) [] rfl
      have hDc := hD.sub (ws' := []) [] (by decide) rfl
      have hKc := hK.sub (tys' := []) [] rfl
      have hFc := va_free (wc := []) hD hS hA [] rfl
      refine vx_callv (vx_runS (As := [.int p2]) (rest := []) ⟨hx, hb, hml, hown, hts⟩ (kX6_requireCircuit l hfl dC dI p2 H.size) (va_cwS 1 hts gX6_netsLike_X6_requireCircuit rfl rfl rfl (by decide +kernel) ⟨Nat.le_of_ble_eq_true rfl, Nat.le_of_ble_eq_true rfl⟩) (fPreS hN hZ hS (fun q h => hFc q h) hPc hKc hDc) rfl rfl hl.1 rfl (lv_room (Nat.le_of_ble_eq_true rfl)) dX6_netsLike_8 ⟨Nat.le_of_ble_eq_true rfl, Nat.le_of_ble_eq_true rfl⟩) hS (fun q _ h => hFc q h) hFc (fun q _ h => hFc q h) (fun E ce q9 u t H locs ht hvm hpx hE hz1 hk1 hS hq9 hv9 hc9 => ?_) (fun u t H1 locs ht hvm hw hB hz1 hk1 hS => ?_)
      · skip
        exact thr E ce q9 _ _ _ _ _ _ _ (Or.inl (⟨hE.1, Or.inr (hE.2)⟩)) hq9 hv9 hc9 hS (Nat.le_of_ble_eq_true rfl) (Nat.le_of_ble_eq_true rfl)
      · skip
        obtain ⟨hP1, hK1, hD1⟩ := hB
        rw [ht] at hP1
        have hK1 := va_K.moved hvm.symm hK1
        obtain ⟨hP, hD⟩ := va_join (wr := [(w, .inr (3, [.int 0, .int 0, .ref wL, .ref wP, .ref wS])), (d, .inr (3, [.int 0, .int 0, .ref dL, .ref dP, .ref dS])), (h0, .inr (9, [.ref w, .ref d, .ref co, .ref un, .ref ma, .ref tm, .int 0, .int 0, .int 0]))]) (w1 := []) hP hD [] [0, 1, 2] rfl rfl (by decide) (by decide) hk1 hFc hP1 hD1
        generalize H1 = H at hP hS ⊢
        have hP : va_P (dC, dI) vwCl [(w, .inr (3, [.int 0, .int 0, .ref wL, .ref wP, .ref wS])), (d, .inr (3, [.int 0, .int 0, .ref dL, .ref dP, .ref dS])), (h0, .inr (9, [.ref w, .ref d, .ref co, .ref un, .ref ma, .ref tm, .int 0, .int 0, .int 0]))] _ := hP
        have hD : va_D A [(w, .inr (3, [.int 0, .int 0, .ref wL, .ref wP, .ref wS])), (d, .inr (3, [.int 0, .int 0, .ref dL, .ref dP, .ref dS])), (h0, .inr (9, [.ref w, .ref d, .ref co, .ref un, .ref ma, .ref tm, .int 0, .int 0, .int 0]))] := hD
        refine W.widen (k := 2) (n := 12) (Nat.le_of_ble_eq_true rfl) (Nat.le_of_ble_eq_true rfl) ?_
        refine lv_aload hx hb dX6_netsLike_11 (lv_at hl 0 rfl) ?_
        refine lv_iload_n hx hb dX6_netsLike_13 rfl (lv_at hl 3 rfl) ?_
        have hPc := hP.sub (ws' := [(d, .inr (3, [.int 0, .int 0, .ref dL, .ref dP, .ref dS]))]) [1] rfl
        have hDc := hD.sub (ws' := [(d, .inr (3, [.int 0, .int 0, .ref dL, .ref dP, .ref dS]))]) [1] (by decide) rfl
        have hKc := hK.sub (tys' := []) [] rfl
        have hFc := va_free (wc := [(d, .inr (3, [.int 0, .int 0, .ref dL, .ref dP, .ref dS]))]) hD hS hA [1] rfl
        refine vx_callv (vx_runS (As := [.ref d, .int p1]) (rest := []) ⟨hx, hb, hml, hown, hts⟩ (kX6_requireNet l hfl dC dI d dL dP dS p1 H.size) (va_cwS 2 hts gX6_netsLike_X6_requireNet rfl rfl rfl (by decide +kernel) ⟨Nat.le_of_ble_eq_true rfl, Nat.le_of_ble_eq_true rfl⟩) (fPreS hN hZ hS (fun q h => hFc q h) hPc hKc hDc) rfl rfl hl.1 rfl (lv_room (Nat.le_of_ble_eq_true rfl)) dX6_netsLike_14 ⟨Nat.le_of_ble_eq_true rfl, Nat.le_of_ble_eq_true rfl⟩) hS (fun q _ h => hFc q h) hFc (fun q _ h => hFc q h) (fun E ce q9 u t H locs ht hvm hpx hE hz1 hk1 hS hq9 hv9 hc9 => ?_) (fun u t H1 locs ht hvm hw hB hz1 hk1 hS => ?_)
        · skip
          exact thr E ce q9 _ _ _ _ _ _ _ (Or.inr (⟨hE, (fun h9 => h9.elim ((fun h9 => h9 (Or.inr (hc1)))) ((fun h9 => h9 (hw))))⟩)) hq9 hv9 hc9 hS (Nat.le_of_ble_eq_true rfl) (Nat.le_of_ble_eq_true rfl)
        · skip
          exact hw.elim

set_option maxHeartbeats 4000000 in
set_option maxRecDepth 100000 in
/-- partsLike on a fresh object -/
theorem kX6_partsLike (l : Launch) (hfl : l.stackTraces = false) (dC : Nat → ClassId) (dI : Nat → Nat → Nat) (h0 w d co un ma tm : Nat) (wL wP wS dL dP dS : Nat) (p0 p1 p2 : Int32) (sz : Nat) : fXi l yX6_partsLike wsX6_partsLike ({ frames := 8, cells := 3, slots := 18, locals := 123 } : Room) dC dI [.ref h0, .int p0, .int p1, .int p2] [(h0, .inr (9, [.ref w, .ref d, .ref co, .ref un, .ref ma, .ref tm, .int 0, .int 0, .int 0])), (w, .inr (3, [.int 0, .int 0, .ref wL, .ref wP, .ref wS])), (d, .inr (3, [.int 0, .int 0, .ref dL, .ref dP, .ref dS]))] [] sz (fun E : String => E = "java/lang/IllegalArgumentException" ∧ ((¬ ((p0 = 0) ∨ (p0 = 1))) ∨ (¬ ((p2 = 0) ∨ (p2 = 1)))) ∨ E = "java/util/NoSuchElementException" ∧ (¬ ((¬ ((p0 = 0) ∨ (p0 = 1))) ∨ (¬ ((p2 = 0) ∨ (p2 = 1)))))) (fun (r : Int32) (u : Unit) => False) (fun u => []) (fun u => []) := by
  refine oX_i hfl (y := yX6_partsLike) (cc := cX6_partsLike) (maxL := 5) (by decide) rfl (Nat.le_of_ble_eq_true rfl) ?_
  intro p e s m args below meth c ls A Q hx hb hr hml hown hts hN hZ hA hin hlk hP hK hD hl ret thr thn
  have hS : va_S A s.heap s.heap [] := va_S.rf
  have hl : lv_has ls 5 [(0, .ref h0), (1, .int p0), (2, .int p1), (3, .int p2)] := hl
  have hP : va_P (dC, dI) vwCl [(h0, .inr (9, [.ref w, .ref d, .ref co, .ref un, .ref ma, .ref tm, .int 0, .int 0, .int 0])), (w, .inr (3, [.int 0, .int 0, .ref wL, .ref wP, .ref wS])), (d, .inr (3, [.int 0, .int 0, .ref dL, .ref dP, .ref dS]))] _ := hP
  have hD : va_D A [(h0, .inr (9, [.ref w, .ref d, .ref co, .ref un, .ref ma, .ref tm, .int 0, .int 0, .int 0])), (w, .inr (3, [.int 0, .int 0, .ref wL, .ref wP, .ref wS])), (d, .inr (3, [.int 0, .int 0, .ref dL, .ref dP, .ref dS]))] := hD
  refine lv_aload_n hx hb dX6_partsLike_0 rfl (lv_at hl 0 rfl) ?_
  refine lv_iload_n hx hb dX6_partsLike_1 rfl (lv_at hl 1 rfl) ?_
  have hPc := hP.sub (ws' := [(h0, .inr (9, [.ref w, .ref d, .ref co, .ref un, .ref ma, .ref tm, .int 0, .int 0, .int 0]))]) [0] rfl
  have hDc := hD.sub (ws' := [(h0, .inr (9, [.ref w, .ref d, .ref co, .ref un, .ref ma, .ref tm, .int 0, .int 0, .int 0]))]) [0] (by decide) rfl
  have hKc := hK.sub (tys' := []) [] rfl
  have hFc := va_free (wc := [(h0, .inr (9, [.ref w, .ref d, .ref co, .ref un, .ref ma, .ref tm, .int 0, .int 0, .int 0]))]) hD hS hA [0] rfl
  refine vx_callq (vx_runV (As := [.int p0]) (rest := []) ⟨hx, hb, hml, hown, hts⟩ (kX6_circuitAt l hfl dC dI h0 w d co un ma tm p0 s.heap.size) (cwV 1 hts gX6_partsLike_X6_circuitAt rfl rfl rfl (by decide +kernel) ⟨Nat.le_of_ble_eq_true rfl, Nat.le_of_ble_eq_true rfl⟩) (fPreV hN hZ hS (fun q h => hFc q h) hPc hKc hDc (ci := 9) (q0 := 0) rfl rfl) rfl rfl hl.1 rfl (lv_room (Nat.le_of_ble_eq_true rfl)) dX6_partsLike_2 ⟨Nat.le_of_ble_eq_true rfl, Nat.le_of_ble_eq_true rfl⟩) hS (fun q _ h => hFc q h) hFc (fun q _ h => hFc q h) (fun E ce q9 u t H locs ht hvm hpx hE hz1 hk1 hS hq9 hv9 hc9 => ?_) (fun r u t H1 locs ht hvm hw hB hz1 hk1 hS => ?_)
  · skip
    exact thr E ce q9 _ _ _ _ _ _ _ (Or.inl (⟨hE.1, Or.inl (hE.2)⟩)) hq9 hv9 hc9 hS (Nat.le_of_ble_eq_true rfl) (Nat.le_of_ble_eq_true rfl)
  · skip
    obtain ⟨hP1, hK1, hD1⟩ := hB
    rw [ht] at hP1
    have hK1 := va_K.moved hvm.symm hK1
    obtain ⟨hP, hD⟩ := va_join (wr := [(w, .inr (3, [.int 0, .int 0, .ref wL, .ref wP, .ref wS])), (d, .inr (3, [.int 0, .int 0, .ref dL, .ref dP, .ref dS]))]) (w1 := [(h0, .inr (9, [.ref w, .ref d, .ref co, .ref un, .ref ma, .ref tm, .int 0, .int 0, .int 0]))]) hP hD [0] [1, 2] rfl rfl (by decide) (by decide) hk1 hFc hP1 hD1
    generalize H1 = H at hP hS ⊢
    have hP : va_P (dC, dI) vwCl [(w, .inr (3, [.int 0, .int 0, .ref wL, .ref wP, .ref wS])), (d, .inr (3, [.int 0, .int 0, .ref dL, .ref dP, .ref dS])), (h0, .inr (9, [.ref w, .ref d, .ref co, .ref un, .ref ma, .ref tm, .int 0, .int 0, .int 0]))] _ := hP
    have hD : va_D A [(w, .inr (3, [.int 0, .int 0, .ref wL, .ref wP, .ref wS])), (d, .inr (3, [.int 0, .int 0, .ref dL, .ref dP, .ref dS])), (h0, .inr (9, [.ref w, .ref d, .ref co, .ref un, .ref ma, .ref tm, .int 0, .int 0, .int 0]))] := hD
    refine W.widen (k := 1) (n := 6) (Nat.le_of_ble_eq_true rfl) (Nat.le_of_ble_eq_true rfl) ?_
    rcases hw with ⟨hc0, rfl⟩ | ⟨hc1, rfl⟩
    · skip
      refine W.eq (g2 := F0 m 5 ls [.ref w]) rfl ?_
      refine lv_astore (lv' := [(4, .ref w), (0, .ref h0), (1, .int p0), (2, .int p1), (3, .int p2)]) hx hb dX6_partsLike_5 hl (Nat.le_of_ble_eq_true rfl) rfl (fun ls hl => ?_)
      refine lv_iload_n hx hb dX6_partsLike_7 rfl (lv_at hl 4 rfl) ?_
      have hPc := hP.sub (ws' := []) [] rfl
      have hDc := hD.sub (ws' := []) [] (by decide) rfl
      have hKc := hK.sub (tys' := []) [] rfl
      have hFc := va_free (wc := []) hD hS hA [] rfl
      refine vx_callv (vx_runS (As := [.int p2]) (rest := []) ⟨hx, hb, hml, hown, hts⟩ (kX6_requireCircuit l hfl dC dI p2 H.size) (va_cwS 1 hts gX6_partsLike_X6_requireCircuit rfl rfl rfl (by decide +kernel) ⟨Nat.le_of_ble_eq_true rfl, Nat.le_of_ble_eq_true rfl⟩) (fPreS hN hZ hS (fun q h => hFc q h) hPc hKc hDc) rfl rfl hl.1 rfl (lv_room (Nat.le_of_ble_eq_true rfl)) dX6_partsLike_8 ⟨Nat.le_of_ble_eq_true rfl, Nat.le_of_ble_eq_true rfl⟩) hS (fun q _ h => hFc q h) hFc (fun q _ h => hFc q h) (fun E ce q9 u t H locs ht hvm hpx hE hz1 hk1 hS hq9 hv9 hc9 => ?_) (fun u t H1 locs ht hvm hw hB hz1 hk1 hS => ?_)
      · skip
        exact thr E ce q9 _ _ _ _ _ _ _ (Or.inl (⟨hE.1, Or.inr (hE.2)⟩)) hq9 hv9 hc9 hS (Nat.le_of_ble_eq_true rfl) (Nat.le_of_ble_eq_true rfl)
      · skip
        obtain ⟨hP1, hK1, hD1⟩ := hB
        rw [ht] at hP1
        have hK1 := va_K.moved hvm.symm hK1
        obtain ⟨hP, hD⟩ := va_join (wr := [(w, .inr (3, [.int 0, .int 0, .ref wL, .ref wP, .ref wS])), (d, .inr (3, [.int 0, .int 0, .ref dL, .ref dP, .ref dS])), (h0, .inr (9, [.ref w, .ref d, .ref co, .ref un, .ref ma, .ref tm, .int 0, .int 0, .int 0]))]) (w1 := []) hP hD [] [0, 1, 2] rfl rfl (by decide) (by decide) hk1 hFc hP1 hD1
        generalize H1 = H at hP hS ⊢
        have hP : va_P (dC, dI) vwCl [(w, .inr (3, [.int 0, .int 0, .ref wL, .ref wP, .ref wS])), (d, .inr (3, [.int 0, .int 0, .ref dL, .ref dP, .ref dS])), (h0, .inr (9, [.ref w, .ref d, .ref co, .ref un, .ref ma, .ref tm, .int 0, .int 0, .int 0]))] _ := hP
        have hD : va_D A [(w, .inr (3, [.int 0, .int 0, .ref wL, .ref wP, .ref wS])), (d, .inr (3, [.int 0, .int 0, .ref dL, .ref dP, .ref dS])), (h0, .inr (9, [.ref w, .ref d, .ref co, .ref un, .ref ma, .ref tm, .int 0, .int 0, .int 0]))] := hD
        refine W.widen (k := 2) (n := 12) (Nat.le_of_ble_eq_true rfl) (Nat.le_of_ble_eq_true rfl) ?_
        refine lv_aload hx hb dX6_partsLike_11 (lv_at hl 0 rfl) ?_
        refine lv_iload_n hx hb dX6_partsLike_13 rfl (lv_at hl 3 rfl) ?_
        have hPc := hP.sub (ws' := [(w, .inr (3, [.int 0, .int 0, .ref wL, .ref wP, .ref wS]))]) [0] rfl
        have hDc := hD.sub (ws' := [(w, .inr (3, [.int 0, .int 0, .ref wL, .ref wP, .ref wS]))]) [0] (by decide) rfl
        have hKc := hK.sub (tys' := []) [] rfl
        have hFc := va_free (wc := [(w, .inr (3, [.int 0, .int 0, .ref wL, .ref wP, .ref wS]))]) hD hS hA [0] rfl
        refine vx_callv (vx_runS (As := [.ref w, .int p1]) (rest := []) ⟨hx, hb, hml, hown, hts⟩ (kX6_requirePart l hfl dC dI w wL wP wS p1 H.size) (va_cwS 2 hts gX6_partsLike_X6_requirePart rfl rfl rfl (by decide +kernel) ⟨Nat.le_of_ble_eq_true rfl, Nat.le_of_ble_eq_true rfl⟩) (fPreS hN hZ hS (fun q h => hFc q h) hPc hKc hDc) rfl rfl hl.1 rfl (lv_room (Nat.le_of_ble_eq_true rfl)) dX6_partsLike_14 ⟨Nat.le_of_ble_eq_true rfl, Nat.le_of_ble_eq_true rfl⟩) hS (fun q _ h => hFc q h) hFc (fun q _ h => hFc q h) (fun E ce q9 u t H locs ht hvm hpx hE hz1 hk1 hS hq9 hv9 hc9 => ?_) (fun u t H1 locs ht hvm hw hB hz1 hk1 hS => ?_)
        · skip
          exact thr E ce q9 _ _ _ _ _ _ _ (Or.inr (⟨hE, (fun h9 => h9.elim ((fun h9 => h9 (Or.inl (hc0)))) ((fun h9 => h9 (hw))))⟩)) hq9 hv9 hc9 hS (Nat.le_of_ble_eq_true rfl) (Nat.le_of_ble_eq_true rfl)
        · skip
          exact hw.elim
    · skip
      refine W.eq (g2 := F0 m 5 ls [.ref d]) rfl ?_
      refine lv_astore (lv' := [(4, .ref d), (0, .ref h0), (1, .int p0), (2, .int p1), (3, .int p2)]) hx hb dX6_partsLike_5 hl (Nat.le_of_ble_eq_true rfl) rfl (fun ls hl => ?_)
      refine lv_iload_n hx hb dX6_partsLike_7 rfl (lv_at hl 4 rfl) ?_
      have hPc := hP.sub (ws' := []) [] rfl
      have hDc := hD.sub (ws' := []) [] (by decide) rfl
      have hKc := hK.sub (tys' := []) [] rfl
      have hFc := va_free (wc := []) hD hS hA [] rfl
      refine vx_callv (vx_runS (As := [.int p2]) (rest := []) ⟨hx, hb, hml, hown, hts⟩ (kX6_requireCircuit l hfl dC dI p2 H.size) (va_cwS 1 hts gX6_partsLike_X6_requireCircuit rfl rfl rfl (by decide +kernel) ⟨Nat.le_of_ble_eq_true rfl, Nat.le_of_ble_eq_true rfl⟩) (fPreS hN hZ hS (fun q h => hFc q h) hPc hKc hDc) rfl rfl hl.1 rfl (lv_room (Nat.le_of_ble_eq_true rfl)) dX6_partsLike_8 ⟨Nat.le_of_ble_eq_true rfl, Nat.le_of_ble_eq_true rfl⟩) hS (fun q _ h => hFc q h) hFc (fun q _ h => hFc q h) (fun E ce q9 u t H locs ht hvm hpx hE hz1 hk1 hS hq9 hv9 hc9 => ?_) (fun u t H1 locs ht hvm hw hB hz1 hk1 hS => ?_)
      · skip
        exact thr E ce q9 _ _ _ _ _ _ _ (Or.inl (⟨hE.1, Or.inr (hE.2)⟩)) hq9 hv9 hc9 hS (Nat.le_of_ble_eq_true rfl) (Nat.le_of_ble_eq_true rfl)
      · skip
        obtain ⟨hP1, hK1, hD1⟩ := hB
        rw [ht] at hP1
        have hK1 := va_K.moved hvm.symm hK1
        obtain ⟨hP, hD⟩ := va_join (wr := [(w, .inr (3, [.int 0, .int 0, .ref wL, .ref wP, .ref wS])), (d, .inr (3, [.int 0, .int 0, .ref dL, .ref dP, .ref dS])), (h0, .inr (9, [.ref w, .ref d, .ref co, .ref un, .ref ma, .ref tm, .int 0, .int 0, .int 0]))]) (w1 := []) hP hD [] [0, 1, 2] rfl rfl (by decide) (by decide) hk1 hFc hP1 hD1
        generalize H1 = H at hP hS ⊢
        have hP : va_P (dC, dI) vwCl [(w, .inr (3, [.int 0, .int 0, .ref wL, .ref wP, .ref wS])), (d, .inr (3, [.int 0, .int 0, .ref dL, .ref dP, .ref dS])), (h0, .inr (9, [.ref w, .ref d, .ref co, .ref un, .ref ma, .ref tm, .int 0, .int 0, .int 0]))] _ := hP
        have hD : va_D A [(w, .inr (3, [.int 0, .int 0, .ref wL, .ref wP, .ref wS])), (d, .inr (3, [.int 0, .int 0, .ref dL, .ref dP, .ref dS])), (h0, .inr (9, [.ref w, .ref d, .ref co, .ref un, .ref ma, .ref tm, .int 0, .int 0, .int 0]))] := hD
        refine W.widen (k := 2) (n := 12) (Nat.le_of_ble_eq_true rfl) (Nat.le_of_ble_eq_true rfl) ?_
        refine lv_aload hx hb dX6_partsLike_11 (lv_at hl 0 rfl) ?_
        refine lv_iload_n hx hb dX6_partsLike_13 rfl (lv_at hl 3 rfl) ?_
        have hPc := hP.sub (ws' := [(d, .inr (3, [.int 0, .int 0, .ref dL, .ref dP, .ref dS]))]) [1] rfl
        have hDc := hD.sub (ws' := [(d, .inr (3, [.int 0, .int 0, .ref dL, .ref dP, .ref dS]))]) [1] (by decide) rfl
        have hKc := hK.sub (tys' := []) [] rfl
        have hFc := va_free (wc := [(d, .inr (3, [.int 0, .int 0, .ref dL, .ref dP, .ref dS]))]) hD hS hA [1] rfl
        refine vx_callv (vx_runS (As := [.ref d, .int p1]) (rest := []) ⟨hx, hb, hml, hown, hts⟩ (kX6_requirePart l hfl dC dI d dL dP dS p1 H.size) (va_cwS 2 hts gX6_partsLike_X6_requirePart rfl rfl rfl (by decide +kernel) ⟨Nat.le_of_ble_eq_true rfl, Nat.le_of_ble_eq_true rfl⟩) (fPreS hN hZ hS (fun q h => hFc q h) hPc hKc hDc) rfl rfl hl.1 rfl (lv_room (Nat.le_of_ble_eq_true rfl)) dX6_partsLike_14 ⟨Nat.le_of_ble_eq_true rfl, Nat.le_of_ble_eq_true rfl⟩) hS (fun q _ h => hFc q h) hFc (fun q _ h => hFc q h) (fun E ce q9 u t H locs ht hvm hpx hE hz1 hk1 hS hq9 hv9 hc9 => ?_) (fun u t H1 locs ht hvm hw hB hz1 hk1 hS => ?_)
        · skip
          exact thr E ce q9 _ _ _ _ _ _ _ (Or.inr (⟨hE, (fun h9 => h9.elim ((fun h9 => h9 (Or.inr (hc1)))) ((fun h9 => h9 (hw))))⟩)) hq9 hv9 hc9 hS (Nat.le_of_ble_eq_true rfl) (Nat.le_of_ble_eq_true rfl)
        · skip
          exact hw.elim

set_option maxHeartbeats 4000000 in
set_option maxRecDepth 100000 in
/-- areAlike on a fresh object -/
theorem kX6_areAlike (l : Launch) (hfl : l.stackTraces = false) (dC : Nat → ClassId) (dI : Nat → Nat → Nat) (h0 w d co un ma tm : Nat) (wL wP wS dL dP dS : Nat) (p0 p1 : Int32) (sz : Nat) : fXi l yX6_areAlike wsX6_areAlike ({ frames := 7, cells := 1, slots := 6, locals := 103 } : Room) dC dI [.ref h0, .int p0, .int p1] [(h0, .inr (9, [.ref w, .ref d, .ref co, .ref un, .ref ma, .ref tm, .int 0, .int 0, .int 0])), (w, .inr (3, [.int 0, .int 0, .ref wL, .ref wP, .ref wS])), (d, .inr (3, [.int 0, .int 0, .ref dL, .ref dP, .ref dS]))] [] sz (fun E : String => E = "java/util/NoSuchElementException") (fun (r : Int32) (u : Unit) => False) (fun u => []) (fun u => []) := by
  refine oX_z hfl (y := yX6_areAlike) (cc := cX6_areAlike) (maxL := 3) (by decide) rfl (Nat.le_of_ble_eq_true rfl) ?_
  intro p e s m args below meth c ls A Q hx hb hr hml hown hts hN hZ hA hin hlk hP hK hD hl ret thr thn
  have hS : va_S A s.heap s.heap [] := va_S.rf
  have hl : lv_has ls 3 [(0, .ref h0), (1, .int p0), (2, .int p1)] := hl
  have hP : va_P (dC, dI) vwCl [(h0, .inr (9, [.ref w, .ref d, .ref co, .ref un, .ref ma, .ref tm, .int 0, .int 0, .int 0])), (w, .inr (3, [.int 0, .int 0, .ref wL, .ref wP, .ref wS])), (d, .inr (3, [.int 0, .int 0, .ref dL, .ref dP, .ref dS]))] _ := hP
  have hD : va_D A [(h0, .inr (9, [.ref w, .ref d, .ref co, .ref un, .ref ma, .ref tm, .int 0, .int 0, .int 0])), (w, .inr (3, [.int 0, .int 0, .ref wL, .ref wP, .ref wS])), (d, .inr (3, [.int 0, .int 0, .ref dL, .ref dP, .ref dS]))] := hD
  refine lv_aload_n hx hb dX6_areAlike_0 rfl (lv_at hl 0 rfl) ?_
  refine va_get (D := (dC, dI)) (ci := 9) (v := .ref w) (C := RX6) (T := TX6) (N := 9) hx hb hts (fun w h => List.mem_cons_of_mem _ (List.mem_append_left _ (List.mem_append_left _ (List.mem_append_left _ (List.mem_append_left _ (List.mem_append_left _ (List.mem_append_left _ (List.mem_append_left _ (List.mem_append_right _ (h)))))))))) hown hK hP 0 rfl rfl 0 (by decide) (hts (.fieldLink RX6 10 "Netcompare" "wished" "LNetcompare$Circuit;") (List.mem_cons_of_mem _ (List.mem_append_left _ (List.mem_append_left _ (List.mem_append_left _ (List.mem_append_left _ (List.mem_append_left _ (List.mem_append_left _ (List.mem_append_left _ (List.mem_append_left _ (List.mem_append_left _ (List.mem_of_getElem? (i := 0) rfl)))))))))))) (fun _ h9 => h9) rfl dX6_areAlike_1 ?_
  refine lv_iload_n hx hb dX6_areAlike_4 rfl (lv_at hl 1 rfl) ?_
  have hPc := hP.sub (ws' := [(w, .inr (3, [.int 0, .int 0, .ref wL, .ref wP, .ref wS]))]) [1] rfl
  have hDc := hD.sub (ws' := [(w, .inr (3, [.int 0, .int 0, .ref wL, .ref wP, .ref wS]))]) [1] (by decide) rfl
  have hKc := hK.sub (tys' := []) [] rfl
  have hFc := va_free (wc := [(w, .inr (3, [.int 0, .int 0, .ref wL, .ref wP, .ref wS]))]) hD hS hA [1] rfl
  refine vx_callv (vx_runS (As := [.ref w, .int p0]) (rest := []) ⟨hx, hb, hml, hown, hts⟩ (kX6_requireNet l hfl dC dI w wL wP wS p0 s.heap.size) (va_cwS 2 hts gX6_areAlike_X6_requireNet rfl rfl rfl (by decide +kernel) ⟨Nat.le_of_ble_eq_true rfl, Nat.le_of_ble_eq_true rfl⟩) (fPreS hN hZ hS (fun q h => hFc q h) hPc hKc hDc) rfl rfl hl.1 rfl (lv_room (Nat.le_of_ble_eq_true rfl)) dX6_areAlike_5 ⟨Nat.le_of_ble_eq_true rfl, Nat.le_of_ble_eq_true rfl⟩) hS (fun q _ h => hFc q h) hFc (fun q _ h => hFc q h) (fun E ce q9 u t H locs ht hvm hpx hE hz1 hk1 hS hq9 hv9 hc9 => ?_) (fun u t H1 locs ht hvm hw hB hz1 hk1 hS => ?_)
  · skip
    exact thr E ce q9 _ _ _ _ _ _ _ (hE) hq9 hv9 hc9 hS (Nat.le_of_ble_eq_true rfl) (Nat.le_of_ble_eq_true rfl)
  · skip
    exact hw.elim

set_option maxHeartbeats 4000000 in
set_option maxRecDepth 100000 in
/-- isMatched on a fresh object -/
theorem kX6_isMatched (l : Launch) (dC : Nat → ClassId) (dI : Nat → Nat → Nat) (h0 ma tm un unK co : Nat) (w wL wP wS d dL dP dS : Nat) (on onR onL onC onD op opR opL opC opD : Nat) (cI : ClassId) (gn gp : Nat → Int32) (maI maO maP : Nat) (gi go : Nat → Int32) (sz : Nat) : fMi l yX6_isMatched wsX6_isMatched ({ frames := 5, cells := 0, slots := 0, locals := 105 } : Room) dC dI [.ref h0] [(h0, .inr (9, [.ref w, .ref d, .ref co, .ref un, .ref ma, .ref tm, .int 0, .int 0, .int 0])), (co, .inr (4, [.ref w, .ref d, .ref on, .ref op, .int 0])), (w, .inr (3, [.int 0, .int 0, .ref wL, .ref wP, .ref wS])), (d, .inr (3, [.int 0, .int 0, .ref dL, .ref dP, .ref dS])), (on, .inr (7, [.ref onR, .ref onL, .ref onC, .ref onD, .int 0])), (onL, .inl (cI, 20, .inl (fun _ => 0))), (onC, .inl (cI, 20, .inl gn)), (op, .inr (7, [.ref opR, .ref opL, .ref opC, .ref opD, .int 0])), (opL, .inl (cI, 20, .inl (fun _ => 0))), (opC, .inl (cI, 20, .inl gp)), (un, .inr (5, [.ref unK, .int 0])), (ma, .inr (6, [.ref w, .ref d, .ref maI, .ref maO, .ref maP, .int 0])), (maI, .inl (cI, 10, .inl gi)), (maO, .inl (cI, 10, .inl go))] [(cI, .int)] sz (fun (r : Int32) (u : Unit) => r = 1) (fun u => []) (fun u => []) := by
  refine oP_z (y := yX6_isMatched) (cc := cX6_isMatched) (maxL := 1) (by decide) rfl (Nat.le_of_ble_eq_true rfl) ?_
  intro p e s m args below meth c ls A Q hx hb hr hml hown hts hN hZ hA hin hlk hP hK hD hl ret
  have hS : va_S A s.heap s.heap [] := va_S.rf
  have hl : lv_has ls 1 [(0, .ref h0)] := hl
  have hP : va_P (dC, dI) vwCl [(h0, .inr (9, [.ref w, .ref d, .ref co, .ref un, .ref ma, .ref tm, .int 0, .int 0, .int 0])), (co, .inr (4, [.ref w, .ref d, .ref on, .ref op, .int 0])), (w, .inr (3, [.int 0, .int 0, .ref wL, .ref wP, .ref wS])), (d, .inr (3, [.int 0, .int 0, .ref dL, .ref dP, .ref dS])), (on, .inr (7, [.ref onR, .ref onL, .ref onC, .ref onD, .int 0])), (onL, .inl (cI, 20, .inl (fun _ => 0))), (onC, .inl (cI, 20, .inl gn)), (op, .inr (7, [.ref opR, .ref opL, .ref opC, .ref opD, .int 0])), (opL, .inl (cI, 20, .inl (fun _ => 0))), (opC, .inl (cI, 20, .inl gp)), (un, .inr (5, [.ref unK, .int 0])), (ma, .inr (6, [.ref w, .ref d, .ref maI, .ref maO, .ref maP, .int 0])), (maI, .inl (cI, 10, .inl gi)), (maO, .inl (cI, 10, .inl go))] _ := hP
  have hD : va_D A [(h0, .inr (9, [.ref w, .ref d, .ref co, .ref un, .ref ma, .ref tm, .int 0, .int 0, .int 0])), (co, .inr (4, [.ref w, .ref d, .ref on, .ref op, .int 0])), (w, .inr (3, [.int 0, .int 0, .ref wL, .ref wP, .ref wS])), (d, .inr (3, [.int 0, .int 0, .ref dL, .ref dP, .ref dS])), (on, .inr (7, [.ref onR, .ref onL, .ref onC, .ref onD, .int 0])), (onL, .inl (cI, 20, .inl (fun _ => 0))), (onC, .inl (cI, 20, .inl gn)), (op, .inr (7, [.ref opR, .ref opL, .ref opC, .ref opD, .int 0])), (opL, .inl (cI, 20, .inl (fun _ => 0))), (opC, .inl (cI, 20, .inl gp)), (un, .inr (5, [.ref unK, .int 0])), (ma, .inr (6, [.ref w, .ref d, .ref maI, .ref maO, .ref maP, .int 0])), (maI, .inl (cI, 10, .inl gi)), (maO, .inl (cI, 10, .inl go))] := hD
  refine lv_aload_n hx hb dX6_isMatched_0 rfl (lv_at hl 0 rfl) ?_
  have hPc := hP.sub (ws' := [(h0, .inr (9, [.ref w, .ref d, .ref co, .ref un, .ref ma, .ref tm, .int 0, .int 0, .int 0])), (co, .inr (4, [.ref w, .ref d, .ref on, .ref op, .int 0])), (w, .inr (3, [.int 0, .int 0, .ref wL, .ref wP, .ref wS])), (d, .inr (3, [.int 0, .int 0, .ref dL, .ref dP, .ref dS])), (on, .inr (7, [.ref onR, .ref onL, .ref onC, .ref onD, .int 0])), (onL, .inl (cI, 20, .inl (fun _ => 0))), (onC, .inl (cI, 20, .inl gn)), (op, .inr (7, [.ref opR, .ref opL, .ref opC, .ref opD, .int 0])), (opL, .inl (cI, 20, .inl (fun _ => 0))), (opC, .inl (cI, 20, .inl gp)), (un, .inr (5, [.ref unK, .int 0])), (ma, .inr (6, [.ref w, .ref d, .ref maI, .ref maO, .ref maP, .int 0])), (maI, .inl (cI, 10, .inl gi)), (maO, .inl (cI, 10, .inl go))]) [0, 1, 2, 3, 4, 5, 6, 7, 8, 9, 10, 11, 12, 13] rfl
  have hDc := hD.sub (ws' := [(h0, .inr (9, [.ref w, .ref d, .ref co, .ref un, .ref ma, .ref tm, .int 0, .int 0, .int 0])), (co, .inr (4, [.ref w, .ref d, .ref on, .ref op, .int 0])), (w, .inr (3, [.int 0, .int 0, .ref wL, .ref wP, .ref wS])), (d, .inr (3, [.int 0, .int 0, .ref dL, .ref dP, .ref dS])), (on, .inr (7, [.ref onR, .ref onL, .ref onC, .ref onD, .int 0])), (onL, .inl (cI, 20, .inl (fun _ => 0))), (onC, .inl (cI, 20, .inl gn)), (op, .inr (7, [.ref opR, .ref opL, .ref opC, .ref opD, .int 0])), (opL, .inl (cI, 20, .inl (fun _ => 0))), (opC, .inl (cI, 20, .inl gp)), (un, .inr (5, [.ref unK, .int 0])), (ma, .inr (6, [.ref w, .ref d, .ref maI, .ref maO, .ref maP, .int 0])), (maI, .inl (cI, 10, .inl gi)), (maO, .inl (cI, 10, .inl go))]) [0, 1, 2, 3, 4, 5, 6, 7, 8, 9, 10, 11, 12, 13] (by decide) rfl
  have hKc := hK.sub (tys' := [(cI, .int)]) [0] rfl
  have hFc := va_free (wc := [(h0, .inr (9, [.ref w, .ref d, .ref co, .ref un, .ref ma, .ref tm, .int 0, .int 0, .int 0])), (co, .inr (4, [.ref w, .ref d, .ref on, .ref op, .int 0])), (w, .inr (3, [.int 0, .int 0, .ref wL, .ref wP, .ref wS])), (d, .inr (3, [.int 0, .int 0, .ref dL, .ref dP, .ref dS])), (on, .inr (7, [.ref onR, .ref onL, .ref onC, .ref onD, .int 0])), (onL, .inl (cI, 20, .inl (fun _ => 0))), (onC, .inl (cI, 20, .inl gn)), (op, .inr (7, [.ref opR, .ref opL, .ref opC, .ref opD, .int 0])), (opL, .inl (cI, 20, .inl (fun _ => 0))), (opC, .inl (cI, 20, .inl gp)), (un, .inr (5, [.ref unK, .int 0])), (ma, .inr (6, [.ref w, .ref d, .ref maI, .ref maO, .ref maP, .int 0])), (maI, .inl (cI, 10, .inl gi)), (maO, .inl (cI, 10, .inl go))]) hD hS hA [0, 1, 2, 3, 4, 5, 6, 7, 8, 9, 10, 11, 12, 13] rfl
  refine va_callv (va_runV (As := []) (rest := []) ⟨hx, hb, hml, hown, hts⟩ (kX6_search l dC dI h0 ma tm un unK co w wL wP wS d dL dP dS on onR onL onC onD op opR opL opC opD cI gn gp maI maO maP gi go s.heap.size) (cwV 0 hts gX6_isMatched_X6_search rfl rfl rfl (by decide +kernel) ⟨Nat.le_of_ble_eq_true rfl, Nat.le_of_ble_eq_true rfl⟩) (fPreV hN hZ hS (fun q h => hFc q h) hPc hKc hDc (ci := 9) (q0 := 0) rfl rfl) rfl rfl hl.1 rfl (lv_room (Nat.le_of_ble_eq_true rfl)) dX6_isMatched_1 ⟨Nat.le_of_ble_eq_true rfl, Nat.le_of_ble_eq_true rfl⟩) hS (fun q _ h => hFc q h) hFc (fun u t H1 locs ht hvm hw hB hz1 hk1 hS => ?_)
  obtain ⟨hP1, hK1, hD1⟩ := hB
  rw [ht] at hP1
  have hK1 := va_K.moved hvm.symm hK1
  obtain ⟨u1, u2, u3, u4⟩ := u
  obtain ⟨hP, hD⟩ := va_join (wr := []) (w1 := [(h0, .inr (9, [.ref w, .ref d, .ref co, .ref un, .ref ma, .ref tm, .int 1, .int 1, .int 0])), (co, .inr (4, [.ref w, .ref d, .ref on, .ref op, .int 0])), (w, .inr (3, [.int 0, .int 0, .ref wL, .ref wP, .ref wS])), (d, .inr (3, [.int 0, .int 0, .ref dL, .ref dP, .ref dS])), (on, .inr (7, [.ref onR, .ref onL, .ref onC, .ref onD, .int 0])), (onL, .inl (cI, 20, .inl (fun _ => 0))), (onC, .inl (cI, 20, .inl u1)), (op, .inr (7, [.ref opR, .ref opL, .ref opC, .ref opD, .int 0])), (opL, .inl (cI, 20, .inl (fun _ => 0))), (opC, .inl (cI, 20, .inl u2)), (un, .inr (5, [.ref unK, .int 0])), (ma, .inr (6, [.ref w, .ref d, .ref maI, .ref maO, .ref maP, .int 1])), (maI, .inl (cI, 10, .inl u3)), (maO, .inl (cI, 10, .inl u4))]) hP hD [0, 1, 2, 3, 4, 5, 6, 7, 8, 9, 10, 11, 12, 13] [] rfl rfl (by decide) (by decide) hk1 hFc hP1 hD1
  generalize H1 = H at hP hS ⊢
  have hP : va_P (dC, dI) vwCl [(h0, .inr (9, [.ref w, .ref d, .ref co, .ref un, .ref ma, .ref tm, .int 1, .int 1, .int 0])), (co, .inr (4, [.ref w, .ref d, .ref on, .ref op, .int 0])), (w, .inr (3, [.int 0, .int 0, .ref wL, .ref wP, .ref wS])), (d, .inr (3, [.int 0, .int 0, .ref dL, .ref dP, .ref dS])), (on, .inr (7, [.ref onR, .ref onL, .ref onC, .ref onD, .int 0])), (onL, .inl (cI, 20, .inl (fun _ => 0))), (onC, .inl (cI, 20, .inl u1)), (op, .inr (7, [.ref opR, .ref opL, .ref opC, .ref opD, .int 0])), (opL, .inl (cI, 20, .inl (fun _ => 0))), (opC, .inl (cI, 20, .inl u2)), (un, .inr (5, [.ref unK, .int 0])), (ma, .inr (6, [.ref w, .ref d, .ref maI, .ref maO, .ref maP, .int 1])), (maI, .inl (cI, 10, .inl u3)), (maO, .inl (cI, 10, .inl u4))] _ := hP
  have hD : va_D A [(h0, .inr (9, [.ref w, .ref d, .ref co, .ref un, .ref ma, .ref tm, .int 1, .int 1, .int 0])), (co, .inr (4, [.ref w, .ref d, .ref on, .ref op, .int 0])), (w, .inr (3, [.int 0, .int 0, .ref wL, .ref wP, .ref wS])), (d, .inr (3, [.int 0, .int 0, .ref dL, .ref dP, .ref dS])), (on, .inr (7, [.ref onR, .ref onL, .ref onC, .ref onD, .int 0])), (onL, .inl (cI, 20, .inl (fun _ => 0))), (onC, .inl (cI, 20, .inl u1)), (op, .inr (7, [.ref opR, .ref opL, .ref opC, .ref opD, .int 0])), (opL, .inl (cI, 20, .inl (fun _ => 0))), (opC, .inl (cI, 20, .inl u2)), (un, .inr (5, [.ref unK, .int 0])), (ma, .inr (6, [.ref w, .ref d, .ref maI, .ref maO, .ref maP, .int 1])), (maI, .inl (cI, 10, .inl u3)), (maO, .inl (cI, 10, .inl u4))] := hD
  refine lv_aload_n hx hb dX6_isMatched_4 rfl (lv_at hl 0 rfl) ?_
  refine va_get (D := (dC, dI)) (ci := 9) (v := .ref ma) (C := RX6) (T := TX6) (N := 9) hx hb hts (fun w h => List.mem_cons_of_mem _ (List.mem_append_left _ (List.mem_append_left _ (List.mem_append_left _ (List.mem_append_left _ (List.mem_append_left _ (List.mem_append_left _ (List.mem_append_left _ (List.mem_append_right _ (h)))))))))) hown hK hP 0 rfl rfl 4 (by decide) (hts (.fieldLink RX6 38 "Netcompare" "match" "LNetcompare$Match;") (List.mem_cons_of_mem _ (List.mem_append_left _ (List.mem_append_left _ (List.mem_append_left _ (List.mem_append_left _ (List.mem_append_left _ (List.mem_append_left _ (List.mem_append_left _ (List.mem_append_left _ (List.mem_append_left _ (List.mem_of_getElem? (i := 0) rfl)))))))))))) (fun _ h9 => h9) rfl dX6_isMatched_5 ?_
  refine va_getN (D := (dC, dI)) (ci := 6) (v := .int 1) (C := RX3) (T := TX3) (N := 6) hx hb hts (fun w h => List.mem_cons_of_mem _ (List.mem_append_left _ (List.mem_append_left _ (List.mem_append_left _ (List.mem_append_left _ (List.mem_append_left _ (List.mem_append_left _ (List.mem_append_right _ (h))))))))) hown hK hP 11 rfl rfl 5 (by decide) (va_Nw.use rfl (hN.1 _ (List.mem_of_getElem? (i := 47) rfl))) (fun _ h9 => h9) rfl dX6_isMatched_8 ?_
  exact ret _ () _ _ _ _ _ _ (rfl) (rfl) (hP.sub [] rfl) (hK.sub [] rfl) (hD.sub [] (by decide) rfl) hS (Nat.le_of_ble_eq_true rfl) (Nat.le_of_ble_eq_true rfl) dX6_isMatched_11

set_option maxHeartbeats 4000000 in
set_option maxRecDepth 100000 in
/-- isMatchedByTrying on a fresh object -/
theorem kX6_isMatchedByTrying (l : Launch) (hfl : l.stackTraces = false) (dC : Nat → ClassId) (dI : Nat → Nat → Nat) (h0 w d co un ma tm : Nat) (wL wP wS dL dP dS : Nat) (tmI tmO tmP : Nat) (cI : ClassId) (gi go : Nat → Int32) (sz : Nat) : fXi l yX6_isMatchedByTrying wsX6_isMatchedByTrying ({ frames := 4, cells := 0, slots := 0, locals := 85 } : Room) dC dI [.ref h0] [(h0, .inr (9, [.ref w, .ref d, .ref co, .ref un, .ref ma, .ref tm, .int 0, .int 0, .int 0])), (w, .inr (3, [.int 0, .int 0, .ref wL, .ref wP, .ref wS])), (d, .inr (3, [.int 0, .int 0, .ref dL, .ref dP, .ref dS])), (tm, .inr (6, [.ref w, .ref d, .ref tmI, .ref tmO, .ref tmP, .int 0])), (tmI, .inl (cI, 10, .inl gi)), (tmO, .inl (cI, 10, .inl go))] [(cI, .int)] sz (fun E : String => False) (fun (r : Int32) (u : Unit) => r = 1) (fun u => []) (fun u => []) := by
  refine oX_z hfl (y := yX6_isMatchedByTrying) (cc := cX6_isMatchedByTrying) (maxL := 1) (by decide) rfl (Nat.le_of_ble_eq_true rfl) ?_
  intro p e s m args below meth c ls A Q hx hb hr hml hown hts hN hZ hA hin hlk hP hK hD hl ret thr thn
  have hS : va_S A s.heap s.heap [] := va_S.rf
  have hl : lv_has ls 1 [(0, .ref h0)] := hl
  have hP : va_P (dC, dI) vwCl [(h0, .inr (9, [.ref w, .ref d, .ref co, .ref un, .ref ma, .ref tm, .int 0, .int 0, .int 0])), (w, .inr (3, [.int 0, .int 0, .ref wL, .ref wP, .ref wS])), (d, .inr (3, [.int 0, .int 0, .ref dL, .ref dP, .ref dS])), (tm, .inr (6, [.ref w, .ref d, .ref tmI, .ref tmO, .ref tmP, .int 0])), (tmI, .inl (cI, 10, .inl gi)), (tmO, .inl (cI, 10, .inl go))] _ := hP
  have hD : va_D A [(h0, .inr (9, [.ref w, .ref d, .ref co, .ref un, .ref ma, .ref tm, .int 0, .int 0, .int 0])), (w, .inr (3, [.int 0, .int 0, .ref wL, .ref wP, .ref wS])), (d, .inr (3, [.int 0, .int 0, .ref dL, .ref dP, .ref dS])), (tm, .inr (6, [.ref w, .ref d, .ref tmI, .ref tmO, .ref tmP, .int 0])), (tmI, .inl (cI, 10, .inl gi)), (tmO, .inl (cI, 10, .inl go))] := hD
  refine lv_aload_n hx hb dX6_isMatchedByTrying_0 rfl (lv_at hl 0 rfl) ?_
  have hPc := hP.sub (ws' := [(h0, .inr (9, [.ref w, .ref d, .ref co, .ref un, .ref ma, .ref tm, .int 0, .int 0, .int 0])), (w, .inr (3, [.int 0, .int 0, .ref wL, .ref wP, .ref wS])), (d, .inr (3, [.int 0, .int 0, .ref dL, .ref dP, .ref dS]))]) [0, 1, 2] rfl
  have hDc := hD.sub (ws' := [(h0, .inr (9, [.ref w, .ref d, .ref co, .ref un, .ref ma, .ref tm, .int 0, .int 0, .int 0])), (w, .inr (3, [.int 0, .int 0, .ref wL, .ref wP, .ref wS])), (d, .inr (3, [.int 0, .int 0, .ref dL, .ref dP, .ref dS]))]) [0, 1, 2] (by decide) rfl
  have hKc := hK.sub (tys' := []) [] rfl
  have hFc := va_free (wc := [(h0, .inr (9, [.ref w, .ref d, .ref co, .ref un, .ref ma, .ref tm, .int 0, .int 0, .int 0])), (w, .inr (3, [.int 0, .int 0, .ref wL, .ref wP, .ref wS])), (d, .inr (3, [.int 0, .int 0, .ref dL, .ref dP, .ref dS]))]) hD hS hA [0, 1, 2] rfl
  refine vx_callv (vx_runV (As := []) (rest := []) ⟨hx, hb, hml, hown, hts⟩ (kX6_requireFewNets l hfl dC dI h0 w d co un ma tm wL wP wS dL dP dS s.heap.size) (cwV 0 hts gX6_isMatchedByTrying_X6_requireFewNets rfl rfl rfl (by decide +kernel) ⟨Nat.le_of_ble_eq_true rfl, Nat.le_of_ble_eq_true rfl⟩) (fPreV hN hZ hS (fun q h => hFc q h) hPc hKc hDc (ci := 9) (q0 := 0) rfl rfl) rfl rfl hl.1 rfl (lv_room (Nat.le_of_ble_eq_true rfl)) dX6_isMatchedByTrying_1 ⟨Nat.le_of_ble_eq_true rfl, Nat.le_of_ble_eq_true rfl⟩) hS (fun q _ h => hFc q h) hFc (fun q _ h => hFc q h) (fun E ce q9 u t H locs ht hvm hpx hE hz1 hk1 hS hq9 hv9 hc9 => ?_) (fun u t H1 locs ht hvm hw hB hz1 hk1 hS => ?_)
  · skip
    exact thr E ce q9 _ _ _ _ _ _ _ (hE.elim) hq9 hv9 hc9 hS (Nat.le_of_ble_eq_true rfl) (Nat.le_of_ble_eq_true rfl)
  · skip
    obtain ⟨hP1, hK1, hD1⟩ := hB
    rw [ht] at hP1
    have hK1 := va_K.moved hvm.symm hK1
    obtain ⟨hP, hD⟩ := va_join (wr := [(tm, .inr (6, [.ref w, .ref d, .ref tmI, .ref tmO, .ref tmP, .int 0])), (tmI, .inl (cI, 10, .inl gi)), (tmO, .inl (cI, 10, .inl go))]) (w1 := [(h0, .inr (9, [.ref w, .ref d, .ref co, .ref un, .ref ma, .ref tm, .int 0, .int 0, .int 0])), (w, .inr (3, [.int 0, .int 0, .ref wL, .ref wP, .ref wS])), (d, .inr (3, [.int 0, .int 0, .ref dL, .ref dP, .ref dS]))]) hP hD [0, 1, 2] [3, 4, 5] rfl rfl (by decide) (by decide) hk1 hFc hP1 hD1
    generalize H1 = H at hP hS ⊢
    have hP : va_P (dC, dI) vwCl [(tm, .inr (6, [.ref w, .ref d, .ref tmI, .ref tmO, .ref tmP, .int 0])), (tmI, .inl (cI, 10, .inl gi)), (tmO, .inl (cI, 10, .inl go)), (h0, .inr (9, [.ref w, .ref d, .ref co, .ref un, .ref ma, .ref tm, .int 0, .int 0, .int 0])), (w, .inr (3, [.int 0, .int 0, .ref wL, .ref wP, .ref wS])), (d, .inr (3, [.int 0, .int 0, .ref dL, .ref dP, .ref dS]))] _ := hP
    have hD : va_D A [(tm, .inr (6, [.ref w, .ref d, .ref tmI, .ref tmO, .ref tmP, .int 0])), (tmI, .inl (cI, 10, .inl gi)), (tmO, .inl (cI, 10, .inl go)), (h0, .inr (9, [.ref w, .ref d, .ref co, .ref un, .ref ma, .ref tm, .int 0, .int 0, .int 0])), (w, .inr (3, [.int 0, .int 0, .ref wL, .ref wP, .ref wS])), (d, .inr (3, [.int 0, .int 0, .ref dL, .ref dP, .ref dS]))] := hD
    refine lv_aload_n hx hb dX6_isMatchedByTrying_4 rfl (lv_at hl 0 rfl) ?_
    have hPc := hP.sub (ws' := [(h0, .inr (9, [.ref w, .ref d, .ref co, .ref un, .ref ma, .ref tm, .int 0, .int 0, .int 0])), (w, .inr (3, [.int 0, .int 0, .ref wL, .ref wP, .ref wS])), (d, .inr (3, [.int 0, .int 0, .ref dL, .ref dP, .ref dS])), (tm, .inr (6, [.ref w, .ref d, .ref tmI, .ref tmO, .ref tmP, .int 0])), (tmI, .inl (cI, 10, .inl gi)), (tmO, .inl (cI, 10, .inl go))]) [3, 4, 5, 0, 1, 2] rfl
    have hDc := hD.sub (ws' := [(h0, .inr (9, [.ref w, .ref d, .ref co, .ref un, .ref ma, .ref tm, .int 0, .int 0, .int 0])), (w, .inr (3, [.int 0, .int 0, .ref wL, .ref wP, .ref wS])), (d, .inr (3, [.int 0, .int 0, .ref dL, .ref dP, .ref dS])), (tm, .inr (6, [.ref w, .ref d, .ref tmI, .ref tmO, .ref tmP, .int 0])), (tmI, .inl (cI, 10, .inl gi)), (tmO, .inl (cI, 10, .inl go))]) [3, 4, 5, 0, 1, 2] (by decide) rfl
    have hKc := hK.sub (tys' := [(cI, .int)]) [0] rfl
    have hFc := va_free (wc := [(h0, .inr (9, [.ref w, .ref d, .ref co, .ref un, .ref ma, .ref tm, .int 0, .int 0, .int 0])), (w, .inr (3, [.int 0, .int 0, .ref wL, .ref wP, .ref wS])), (d, .inr (3, [.int 0, .int 0, .ref dL, .ref dP, .ref dS])), (tm, .inr (6, [.ref w, .ref d, .ref tmI, .ref tmO, .ref tmP, .int 0])), (tmI, .inl (cI, 10, .inl gi)), (tmO, .inl (cI, 10, .inl go))]) hD hS hA [3, 4, 5, 0, 1, 2] rfl
    refine va_callv (va_runV (As := []) (rest := []) ⟨hx, hb, hml, hown, hts⟩ (kX6_searchByTrying l dC dI h0 w d co un ma tm wL wP wS dL dP dS tmI tmO tmP cI gi go H.size) (cwV 0 hts gX6_isMatchedByTrying_X6_searchByTrying rfl rfl rfl (by decide +kernel) ⟨Nat.le_of_ble_eq_true rfl, Nat.le_of_ble_eq_true rfl⟩) (fPreV hN hZ hS (fun q h => hFc q h) hPc hKc hDc (ci := 9) (q0 := 0) rfl rfl) rfl rfl hl.1 rfl (lv_room (Nat.le_of_ble_eq_true rfl)) dX6_isMatchedByTrying_5 ⟨Nat.le_of_ble_eq_true rfl, Nat.le_of_ble_eq_true rfl⟩) hS (fun q _ h => hFc q h) hFc (fun u t H1 locs ht hvm hw hB hz1 hk1 hS => ?_)
    obtain ⟨hP1, hK1, hD1⟩ := hB
    rw [ht] at hP1
    have hK1 := va_K.moved hvm.symm hK1
    obtain ⟨u1, u2⟩ := u
    obtain ⟨hP, hD⟩ := va_join (wr := []) (w1 := [(h0, .inr (9, [.ref w, .ref d, .ref co, .ref un, .ref ma, .ref tm, .int 0, .int 0, .int 1])), (w, .inr (3, [.int 0, .int 0, .ref wL, .ref wP, .ref wS])), (d, .inr (3, [.int 0, .int 0, .ref dL, .ref dP, .ref dS])), (tm, .inr (6, [.ref w, .ref d, .ref tmI, .ref tmO, .ref tmP, .int 1])), (tmI, .inl (cI, 10, .inl u1)), (tmO, .inl (cI, 10, .inl u2))]) hP hD [3, 4, 5, 0, 1, 2] [] rfl rfl (by decide) (by decide) hk1 hFc hP1 hD1
    generalize H1 = H at hP hS ⊢
    have hP : va_P (dC, dI) vwCl [(h0, .inr (9, [.ref w, .ref d, .ref co, .ref un, .ref ma, .ref tm, .int 0, .int 0, .int 1])), (w, .inr (3, [.int 0, .int 0, .ref wL, .ref wP, .ref wS])), (d, .inr (3, [.int 0, .int 0, .ref dL, .ref dP, .ref dS])), (tm, .inr (6, [.ref w, .ref d, .ref tmI, .ref tmO, .ref tmP, .int 1])), (tmI, .inl (cI, 10, .inl u1)), (tmO, .inl (cI, 10, .inl u2))] _ := hP
    have hD : va_D A [(h0, .inr (9, [.ref w, .ref d, .ref co, .ref un, .ref ma, .ref tm, .int 0, .int 0, .int 1])), (w, .inr (3, [.int 0, .int 0, .ref wL, .ref wP, .ref wS])), (d, .inr (3, [.int 0, .int 0, .ref dL, .ref dP, .ref dS])), (tm, .inr (6, [.ref w, .ref d, .ref tmI, .ref tmO, .ref tmP, .int 1])), (tmI, .inl (cI, 10, .inl u1)), (tmO, .inl (cI, 10, .inl u2))] := hD
    refine lv_aload_n hx hb dX6_isMatchedByTrying_8 rfl (lv_at hl 0 rfl) ?_
    refine va_get (D := (dC, dI)) (ci := 9) (v := .ref tm) (C := RX6) (T := TX6) (N := 9) hx hb hts (fun w h => List.mem_cons_of_mem _ (List.mem_append_left _ (List.mem_append_left _ (List.mem_append_left _ (List.mem_append_left _ (List.mem_append_left _ (List.mem_append_right _ (h)))))))) hown hK hP 0 rfl rfl 5 (by decide) (hts (.fieldLink RX6 42 "Netcompare" "triedMatch" "LNetcompare$Match;") (List.mem_cons_of_mem _ (List.mem_append_left _ (List.mem_append_left _ (List.mem_append_left _ (List.mem_append_left _ (List.mem_append_left _ (List.mem_append_left _ (List.mem_append_left _ (List.mem_of_getElem? (i := 0) rfl)))))))))) (fun _ h9 => h9) rfl dX6_isMatchedByTrying_9 ?_
    refine va_getN (D := (dC, dI)) (ci := 6) (v := .int 1) (C := RX3) (T := TX3) (N := 6) hx hb hts (fun w h => List.mem_cons_of_mem _ (List.mem_append_left _ (List.mem_append_left _ (List.mem_append_left _ (List.mem_append_left _ (List.mem_append_right _ (h))))))) hown hK hP 3 rfl rfl 5 (by decide) (va_Nw.use rfl (hN.1 _ (List.mem_of_getElem? (i := 47) rfl))) (fun _ h9 => h9) rfl dX6_isMatchedByTrying_12 ?_
    exact ret _ () _ _ _ _ _ _ (rfl) (rfl) (hP.sub [] rfl) (hK.sub [] rfl) (hD.sub [] (by decide) rfl) hS (Nat.le_of_ble_eq_true rfl) (Nat.le_of_ble_eq_true rfl) dX6_isMatchedByTrying_15

set_option maxHeartbeats 4000000 in
set_option maxRecDepth 100000 in
/-- matchedNet on a fresh object -/
theorem kX6_matchedNet (l : Launch) (hfl : l.stackTraces = false) (dC : Nat → ClassId) (dI : Nat → Nat → Nat) (h0 w d co un ma tm : Nat) (wL wP wS dL dP dS : Nat) (p0 : Int32) (sz : Nat) : fXi l yX6_matchedNet wsX6_matchedNet ({ frames := 7, cells := 1, slots := 6, locals := 103 } : Room) dC dI [.ref h0, .int p0] [(h0, .inr (9, [.ref w, .ref d, .ref co, .ref un, .ref ma, .ref tm, .int 0, .int 0, .int 0])), (w, .inr (3, [.int 0, .int 0, .ref wL, .ref wP, .ref wS])), (d, .inr (3, [.int 0, .int 0, .ref dL, .ref dP, .ref dS]))] [] sz (fun E : String => E = "java/util/NoSuchElementException") (fun (r : Int32) (u : Unit) => False) (fun u => []) (fun u => []) := by
  refine oX_i hfl (y := yX6_matchedNet) (cc := cX6_matchedNet) (maxL := 2) (by decide) rfl (Nat.le_of_ble_eq_true rfl) ?_
  intro p e s m args below meth c ls A Q hx hb hr hml hown hts hN hZ hA hin hlk hP hK hD hl ret thr thn
  have hS : va_S A s.heap s.heap [] := va_S.rf
  have hl : lv_has ls 2 [(0, .ref h0), (1, .int p0)] := hl
  have hP : va_P (dC, dI) vwCl [(h0, .inr (9, [.ref w, .ref d, .ref co, .ref un, .ref ma, .ref tm, .int 0, .int 0, .int 0])), (w, .inr (3, [.int 0, .int 0, .ref wL, .ref wP, .ref wS])), (d, .inr (3, [.int 0, .int 0, .ref dL, .ref dP, .ref dS]))] _ := hP
  have hD : va_D A [(h0, .inr (9, [.ref w, .ref d, .ref co, .ref un, .ref ma, .ref tm, .int 0, .int 0, .int 0])), (w, .inr (3, [.int 0, .int 0, .ref wL, .ref wP, .ref wS])), (d, .inr (3, [.int 0, .int 0, .ref dL, .ref dP, .ref dS]))] := hD
  refine lv_aload_n hx hb dX6_matchedNet_0 rfl (lv_at hl 0 rfl) ?_
  refine va_get (D := (dC, dI)) (ci := 9) (v := .ref w) (C := RX6) (T := TX6) (N := 9) hx hb hts (fun w h => List.mem_cons_of_mem _ (List.mem_append_left _ (List.mem_append_left _ (List.mem_append_left _ (List.mem_append_left _ (List.mem_append_left _ (List.mem_append_left _ (List.mem_append_left _ (List.mem_append_left _ (List.mem_append_left _ (List.mem_append_right _ (h)))))))))))) hown hK hP 0 rfl rfl 0 (by decide) (hts (.fieldLink RX6 10 "Netcompare" "wished" "LNetcompare$Circuit;") (List.mem_cons_of_mem _ (List.mem_append_left _ (List.mem_append_left _ (List.mem_append_left _ (List.mem_append_left _ (List.mem_append_left _ (List.mem_append_left _ (List.mem_append_left _ (List.mem_append_left _ (List.mem_append_left _ (List.mem_append_left _ (List.mem_append_left _ (List.mem_of_getElem? (i := 0) rfl)))))))))))))) (fun _ h9 => h9) rfl dX6_matchedNet_1 ?_
  refine lv_iload_n hx hb dX6_matchedNet_4 rfl (lv_at hl 1 rfl) ?_
  have hPc := hP.sub (ws' := [(w, .inr (3, [.int 0, .int 0, .ref wL, .ref wP, .ref wS]))]) [1] rfl
  have hDc := hD.sub (ws' := [(w, .inr (3, [.int 0, .int 0, .ref wL, .ref wP, .ref wS]))]) [1] (by decide) rfl
  have hKc := hK.sub (tys' := []) [] rfl
  have hFc := va_free (wc := [(w, .inr (3, [.int 0, .int 0, .ref wL, .ref wP, .ref wS]))]) hD hS hA [1] rfl
  refine vx_callv (vx_runS (As := [.ref w, .int p0]) (rest := []) ⟨hx, hb, hml, hown, hts⟩ (kX6_requireNet l hfl dC dI w wL wP wS p0 s.heap.size) (va_cwS 2 hts gX6_matchedNet_X6_requireNet rfl rfl rfl (by decide +kernel) ⟨Nat.le_of_ble_eq_true rfl, Nat.le_of_ble_eq_true rfl⟩) (fPreS hN hZ hS (fun q h => hFc q h) hPc hKc hDc) rfl rfl hl.1 rfl (lv_room (Nat.le_of_ble_eq_true rfl)) dX6_matchedNet_5 ⟨Nat.le_of_ble_eq_true rfl, Nat.le_of_ble_eq_true rfl⟩) hS (fun q _ h => hFc q h) hFc (fun q _ h => hFc q h) (fun E ce q9 u t H locs ht hvm hpx hE hz1 hk1 hS hq9 hv9 hc9 => ?_) (fun u t H1 locs ht hvm hw hB hz1 hk1 hS => ?_)
  · skip
    exact thr E ce q9 _ _ _ _ _ _ _ (hE) hq9 hv9 hc9 hS (Nat.le_of_ble_eq_true rfl) (Nat.le_of_ble_eq_true rfl)
  · skip
    exact hw.elim

set_option maxHeartbeats 4000000 in
set_option maxRecDepth 100000 in
/-- netByTrying on a fresh object -/
theorem kX6_netByTrying (l : Launch) (hfl : l.stackTraces = false) (dC : Nat → ClassId) (dI : Nat → Nat → Nat) (h0 w d co un ma tm : Nat) (wL wP wS dL dP dS : Nat) (p0 : Int32) (sz : Nat) : fXi l yX6_netByTrying wsX6_netByTrying ({ frames := 7, cells := 1, slots := 6, locals := 103 } : Room) dC dI [.ref h0, .int p0] [(h0, .inr (9, [.ref w, .ref d, .ref co, .ref un, .ref ma, .ref tm, .int 0, .int 0, .int 0])), (w, .inr (3, [.int 0, .int 0, .ref wL, .ref wP, .ref wS])), (d, .inr (3, [.int 0, .int 0, .ref dL, .ref dP, .ref dS]))] [] sz (fun E : String => E = "java/util/NoSuchElementException") (fun (r : Int32) (u : Unit) => False) (fun u => []) (fun u => []) := by
  refine oX_i hfl (y := yX6_netByTrying) (cc := cX6_netByTrying) (maxL := 2) (by decide) rfl (Nat.le_of_ble_eq_true rfl) ?_
  intro p e s m args below meth c ls A Q hx hb hr hml hown hts hN hZ hA hin hlk hP hK hD hl ret thr thn
  have hS : va_S A s.heap s.heap [] := va_S.rf
  have hl : lv_has ls 2 [(0, .ref h0), (1, .int p0)] := hl
  have hP : va_P (dC, dI) vwCl [(h0, .inr (9, [.ref w, .ref d, .ref co, .ref un, .ref ma, .ref tm, .int 0, .int 0, .int 0])), (w, .inr (3, [.int 0, .int 0, .ref wL, .ref wP, .ref wS])), (d, .inr (3, [.int 0, .int 0, .ref dL, .ref dP, .ref dS]))] _ := hP
  have hD : va_D A [(h0, .inr (9, [.ref w, .ref d, .ref co, .ref un, .ref ma, .ref tm, .int 0, .int 0, .int 0])), (w, .inr (3, [.int 0, .int 0, .ref wL, .ref wP, .ref wS])), (d, .inr (3, [.int 0, .int 0, .ref dL, .ref dP, .ref dS]))] := hD
  refine lv_aload_n hx hb dX6_netByTrying_0 rfl (lv_at hl 0 rfl) ?_
  refine va_get (D := (dC, dI)) (ci := 9) (v := .ref w) (C := RX6) (T := TX6) (N := 9) hx hb hts (fun w h => List.mem_cons_of_mem _ (List.mem_append_left _ (List.mem_append_left _ (List.mem_append_left _ (List.mem_append_left _ (List.mem_append_left _ (List.mem_append_left _ (List.mem_append_left _ (List.mem_append_right _ (h)))))))))) hown hK hP 0 rfl rfl 0 (by decide) (hts (.fieldLink RX6 10 "Netcompare" "wished" "LNetcompare$Circuit;") (List.mem_cons_of_mem _ (List.mem_append_left _ (List.mem_append_left _ (List.mem_append_left _ (List.mem_append_left _ (List.mem_append_left _ (List.mem_append_left _ (List.mem_append_left _ (List.mem_append_left _ (List.mem_append_left _ (List.mem_of_getElem? (i := 0) rfl)))))))))))) (fun _ h9 => h9) rfl dX6_netByTrying_1 ?_
  refine lv_iload_n hx hb dX6_netByTrying_4 rfl (lv_at hl 1 rfl) ?_
  have hPc := hP.sub (ws' := [(w, .inr (3, [.int 0, .int 0, .ref wL, .ref wP, .ref wS]))]) [1] rfl
  have hDc := hD.sub (ws' := [(w, .inr (3, [.int 0, .int 0, .ref wL, .ref wP, .ref wS]))]) [1] (by decide) rfl
  have hKc := hK.sub (tys' := []) [] rfl
  have hFc := va_free (wc := [(w, .inr (3, [.int 0, .int 0, .ref wL, .ref wP, .ref wS]))]) hD hS hA [1] rfl
  refine vx_callv (vx_runS (As := [.ref w, .int p0]) (rest := []) ⟨hx, hb, hml, hown, hts⟩ (kX6_requireNet l hfl dC dI w wL wP wS p0 s.heap.size) (va_cwS 2 hts gX6_netByTrying_X6_requireNet rfl rfl rfl (by decide +kernel) ⟨Nat.le_of_ble_eq_true rfl, Nat.le_of_ble_eq_true rfl⟩) (fPreS hN hZ hS (fun q h => hFc q h) hPc hKc hDc) rfl rfl hl.1 rfl (lv_room (Nat.le_of_ble_eq_true rfl)) dX6_netByTrying_5 ⟨Nat.le_of_ble_eq_true rfl, Nat.le_of_ble_eq_true rfl⟩) hS (fun q _ h => hFc q h) hFc (fun q _ h => hFc q h) (fun E ce q9 u t H locs ht hvm hpx hE hz1 hk1 hS hq9 hv9 hc9 => ?_) (fun u t H1 locs ht hvm hw hB hz1 hk1 hS => ?_)
  · skip
    exact thr E ce q9 _ _ _ _ _ _ _ (hE) hq9 hv9 hc9 hS (Nat.le_of_ble_eq_true rfl) (Nat.le_of_ble_eq_true rfl)
  · skip
    exact hw.elim

set_option maxHeartbeats 4000000 in
set_option maxRecDepth 100000 in
/-- matchedPart on a fresh object -/
theorem kX6_matchedPart (l : Launch) (hfl : l.stackTraces = false) (dC : Nat → ClassId) (dI : Nat → Nat → Nat) (h0 w d co un ma tm : Nat) (wL wP wS dL dP dS : Nat) (p0 : Int32) (sz : Nat) : fXi l yX6_matchedPart wsX6_matchedPart ({ frames := 7, cells := 1, slots := 6, locals := 103 } : Room) dC dI [.ref h0, .int p0] [(h0, .inr (9, [.ref w, .ref d, .ref co, .ref un, .ref ma, .ref tm, .int 0, .int 0, .int 0])), (w, .inr (3, [.int 0, .int 0, .ref wL, .ref wP, .ref wS])), (d, .inr (3, [.int 0, .int 0, .ref dL, .ref dP, .ref dS]))] [] sz (fun E : String => E = "java/util/NoSuchElementException") (fun (r : Int32) (u : Unit) => False) (fun u => []) (fun u => []) := by
  refine oX_i hfl (y := yX6_matchedPart) (cc := cX6_matchedPart) (maxL := 2) (by decide) rfl (Nat.le_of_ble_eq_true rfl) ?_
  intro p e s m args below meth c ls A Q hx hb hr hml hown hts hN hZ hA hin hlk hP hK hD hl ret thr thn
  have hS : va_S A s.heap s.heap [] := va_S.rf
  have hl : lv_has ls 2 [(0, .ref h0), (1, .int p0)] := hl
  have hP : va_P (dC, dI) vwCl [(h0, .inr (9, [.ref w, .ref d, .ref co, .ref un, .ref ma, .ref tm, .int 0, .int 0, .int 0])), (w, .inr (3, [.int 0, .int 0, .ref wL, .ref wP, .ref wS])), (d, .inr (3, [.int 0, .int 0, .ref dL, .ref dP, .ref dS]))] _ := hP
  have hD : va_D A [(h0, .inr (9, [.ref w, .ref d, .ref co, .ref un, .ref ma, .ref tm, .int 0, .int 0, .int 0])), (w, .inr (3, [.int 0, .int 0, .ref wL, .ref wP, .ref wS])), (d, .inr (3, [.int 0, .int 0, .ref dL, .ref dP, .ref dS]))] := hD
  refine lv_aload_n hx hb dX6_matchedPart_0 rfl (lv_at hl 0 rfl) ?_
  refine va_get (D := (dC, dI)) (ci := 9) (v := .ref w) (C := RX6) (T := TX6) (N := 9) hx hb hts (fun w h => List.mem_cons_of_mem _ (List.mem_append_left _ (List.mem_append_left _ (List.mem_append_left _ (List.mem_append_left _ (List.mem_append_left _ (List.mem_append_left _ (List.mem_append_left _ (List.mem_append_left _ (List.mem_append_left _ (List.mem_append_right _ (h)))))))))))) hown hK hP 0 rfl rfl 0 (by decide) (hts (.fieldLink RX6 10 "Netcompare" "wished" "LNetcompare$Circuit;") (List.mem_cons_of_mem _ (List.mem_append_left _ (List.mem_append_left _ (List.mem_append_left _ (List.mem_append_left _ (List.mem_append_left _ (List.mem_append_left _ (List.mem_append_left _ (List.mem_append_left _ (List.mem_append_left _ (List.mem_append_left _ (List.mem_append_left _ (List.mem_of_getElem? (i := 0) rfl)))))))))))))) (fun _ h9 => h9) rfl dX6_matchedPart_1 ?_
  refine lv_iload_n hx hb dX6_matchedPart_4 rfl (lv_at hl 1 rfl) ?_
  have hPc := hP.sub (ws' := [(w, .inr (3, [.int 0, .int 0, .ref wL, .ref wP, .ref wS]))]) [1] rfl
  have hDc := hD.sub (ws' := [(w, .inr (3, [.int 0, .int 0, .ref wL, .ref wP, .ref wS]))]) [1] (by decide) rfl
  have hKc := hK.sub (tys' := []) [] rfl
  have hFc := va_free (wc := [(w, .inr (3, [.int 0, .int 0, .ref wL, .ref wP, .ref wS]))]) hD hS hA [1] rfl
  refine vx_callv (vx_runS (As := [.ref w, .int p0]) (rest := []) ⟨hx, hb, hml, hown, hts⟩ (kX6_requirePart l hfl dC dI w wL wP wS p0 s.heap.size) (va_cwS 2 hts gX6_matchedPart_X6_requirePart rfl rfl rfl (by decide +kernel) ⟨Nat.le_of_ble_eq_true rfl, Nat.le_of_ble_eq_true rfl⟩) (fPreS hN hZ hS (fun q h => hFc q h) hPc hKc hDc) rfl rfl hl.1 rfl (lv_room (Nat.le_of_ble_eq_true rfl)) dX6_matchedPart_5 ⟨Nat.le_of_ble_eq_true rfl, Nat.le_of_ble_eq_true rfl⟩) hS (fun q _ h => hFc q h) hFc (fun q _ h => hFc q h) (fun E ce q9 u t H locs ht hvm hpx hE hz1 hk1 hS hq9 hv9 hc9 => ?_) (fun u t H1 locs ht hvm hw hB hz1 hk1 hS => ?_)
  · skip
    exact thr E ce q9 _ _ _ _ _ _ _ (hE) hq9 hv9 hc9 hS (Nat.le_of_ble_eq_true rfl) (Nat.le_of_ble_eq_true rfl)
  · skip
    exact hw.elim

set_option maxHeartbeats 4000000 in
set_option maxRecDepth 100000 in
/-- matchedPin on a fresh object -/
theorem kX6_matchedPin (l : Launch) (hfl : l.stackTraces = false) (dC : Nat → ClassId) (dI : Nat → Nat → Nat) (h0 w d co un ma tm : Nat) (wL wP wS dL dP dS : Nat) (p0 p1 : Int32) (sz : Nat) : fXi l yX6_matchedPin wsX6_matchedPin ({ frames := 7, cells := 1, slots := 6, locals := 103 } : Room) dC dI [.ref h0, .int p0, .int p1] [(h0, .inr (9, [.ref w, .ref d, .ref co, .ref un, .ref ma, .ref tm, .int 0, .int 0, .int 0])), (w, .inr (3, [.int 0, .int 0, .ref wL, .ref wP, .ref wS])), (d, .inr (3, [.int 0, .int 0, .ref dL, .ref dP, .ref dS]))] [] sz (fun E : String => E = "java/util/NoSuchElementException") (fun (r : Int32) (u : Unit) => False) (fun u => []) (fun u => []) := by
  refine oX_i hfl (y := yX6_matchedPin) (cc := cX6_matchedPin) (maxL := 3) (by decide) rfl (Nat.le_of_ble_eq_true rfl) ?_
  intro p e s m args below meth c ls A Q hx hb hr hml hown hts hN hZ hA hin hlk hP hK hD hl ret thr thn
  have hS : va_S A s.heap s.heap [] := va_S.rf
  have hl : lv_has ls 3 [(0, .ref h0), (1, .int p0), (2, .int p1)] := hl
  have hP : va_P (dC, dI) vwCl [(h0, .inr (9, [.ref w, .ref d, .ref co, .ref un, .ref ma, .ref tm, .int 0, .int 0, .int 0])), (w, .inr (3, [.int 0, .int 0, .ref wL, .ref wP, .ref wS])), (d, .inr (3, [.int 0, .int 0, .ref dL, .ref dP, .ref dS]))] _ := hP
  have hD : va_D A [(h0, .inr (9, [.ref w, .ref d, .ref co, .ref un, .ref ma, .ref tm, .int 0, .int 0, .int 0])), (w, .inr (3, [.int 0, .int 0, .ref wL, .ref wP, .ref wS])), (d, .inr (3, [.int 0, .int 0, .ref dL, .ref dP, .ref dS]))] := hD
  refine lv_aload_n hx hb dX6_matchedPin_0 rfl (lv_at hl 0 rfl) ?_
  refine va_get (D := (dC, dI)) (ci := 9) (v := .ref w) (C := RX6) (T := TX6) (N := 9) hx hb hts (fun w h => List.mem_cons_of_mem _ (List.mem_append_left _ (List.mem_append_left _ (List.mem_append_left _ (List.mem_append_left _ (List.mem_append_left _ (List.mem_append_left _ (List.mem_append_left _ (List.mem_append_left _ (List.mem_append_left _ (List.mem_append_left _ (List.mem_append_right _ (h))))))))))))) hown hK hP 0 rfl rfl 0 (by decide) (hts (.fieldLink RX6 10 "Netcompare" "wished" "LNetcompare$Circuit;") (List.mem_cons_of_mem _ (List.mem_append_left _ (List.mem_append_left _ (List.mem_append_left _ (List.mem_append_left _ (List.mem_append_left _ (List.mem_append_left _ (List.mem_append_left _ (List.mem_append_left _ (List.mem_append_left _ (List.mem_append_left _ (List.mem_append_left _ (List.mem_append_left _ (List.mem_of_getElem? (i := 0) rfl))))))))))))))) (fun _ h9 => h9) rfl dX6_matchedPin_1 ?_
  refine lv_iload_n hx hb dX6_matchedPin_4 rfl (lv_at hl 1 rfl) ?_
  have hPc := hP.sub (ws' := [(w, .inr (3, [.int 0, .int 0, .ref wL, .ref wP, .ref wS]))]) [1] rfl
  have hDc := hD.sub (ws' := [(w, .inr (3, [.int 0, .int 0, .ref wL, .ref wP, .ref wS]))]) [1] (by decide) rfl
  have hKc := hK.sub (tys' := []) [] rfl
  have hFc := va_free (wc := [(w, .inr (3, [.int 0, .int 0, .ref wL, .ref wP, .ref wS]))]) hD hS hA [1] rfl
  refine vx_callv (vx_runS (As := [.ref w, .int p0]) (rest := []) ⟨hx, hb, hml, hown, hts⟩ (kX6_requirePart l hfl dC dI w wL wP wS p0 s.heap.size) (va_cwS 2 hts gX6_matchedPin_X6_requirePart rfl rfl rfl (by decide +kernel) ⟨Nat.le_of_ble_eq_true rfl, Nat.le_of_ble_eq_true rfl⟩) (fPreS hN hZ hS (fun q h => hFc q h) hPc hKc hDc) rfl rfl hl.1 rfl (lv_room (Nat.le_of_ble_eq_true rfl)) dX6_matchedPin_5 ⟨Nat.le_of_ble_eq_true rfl, Nat.le_of_ble_eq_true rfl⟩) hS (fun q _ h => hFc q h) hFc (fun q _ h => hFc q h) (fun E ce q9 u t H locs ht hvm hpx hE hz1 hk1 hS hq9 hv9 hc9 => ?_) (fun u t H1 locs ht hvm hw hB hz1 hk1 hS => ?_)
  · skip
    exact thr E ce q9 _ _ _ _ _ _ _ (hE) hq9 hv9 hc9 hS (Nat.le_of_ble_eq_true rfl) (Nat.le_of_ble_eq_true rfl)
  · skip
    exact hw.elim

set_option maxHeartbeats 4000000 in
set_option maxRecDepth 100000 in
/-- differenceKind on a fresh object -/
theorem kX6_differenceKind (l : Launch) (hfl : l.stackTraces = false) (dC : Nat → ClassId) (dI : Nat → Nat → Nat) (h0 ma tm un unK co : Nat) (w wL wP wS d dL dP dS : Nat) (on onR onL onC onD op opR opL opC opD : Nat) (cI : ClassId) (gn gp : Nat → Int32) (p0 : Int32) (sz : Nat) : fXi l yX6_differenceKind wsX6_differenceKind ({ frames := 7, cells := 1, slots := 6, locals := 106 } : Room) dC dI [.ref h0, .int p0] [(h0, .inr (9, [.ref w, .ref d, .ref co, .ref un, .ref ma, .ref tm, .int 0, .int 0, .int 0])), (co, .inr (4, [.ref w, .ref d, .ref on, .ref op, .int 0])), (w, .inr (3, [.int 0, .int 0, .ref wL, .ref wP, .ref wS])), (d, .inr (3, [.int 0, .int 0, .ref dL, .ref dP, .ref dS])), (on, .inr (7, [.ref onR, .ref onL, .ref onC, .ref onD, .int 0])), (onL, .inl (cI, 20, .inl (fun _ => 0))), (onC, .inl (cI, 20, .inl gn)), (op, .inr (7, [.ref opR, .ref opL, .ref opC, .ref opD, .int 0])), (opL, .inl (cI, 20, .inl (fun _ => 0))), (opC, .inl (cI, 20, .inl gp)), (un, .inr (5, [.ref unK, .int 0]))] [(cI, .int)] sz (fun E : String => E = "java/lang/IndexOutOfBoundsException") (fun (r : Int32) (u : Unit) => False) (fun u => []) (fun u => []) := by
  refine oX_z hfl (y := yX6_differenceKind) (cc := cX6_differenceKind) (maxL := 2) (by decide) rfl (Nat.le_of_ble_eq_true rfl) ?_
  intro p e s m args below meth c ls A Q hx hb hr hml hown hts hN hZ hA hin hlk hP hK hD hl ret thr thn
  have hS : va_S A s.heap s.heap [] := va_S.rf
  have hl : lv_has ls 2 [(0, .ref h0), (1, .int p0)] := hl
  have hP : va_P (dC, dI) vwCl [(h0, .inr (9, [.ref w, .ref d, .ref co, .ref un, .ref ma, .ref tm, .int 0, .int 0, .int 0])), (co, .inr (4, [.ref w, .ref d, .ref on, .ref op, .int 0])), (w, .inr (3, [.int 0, .int 0, .ref wL, .ref wP, .ref wS])), (d, .inr (3, [.int 0, .int 0, .ref dL, .ref dP, .ref dS])), (on, .inr (7, [.ref onR, .ref onL, .ref onC, .ref onD, .int 0])), (onL, .inl (cI, 20, .inl (fun _ => 0))), (onC, .inl (cI, 20, .inl gn)), (op, .inr (7, [.ref opR, .ref opL, .ref opC, .ref opD, .int 0])), (opL, .inl (cI, 20, .inl (fun _ => 0))), (opC, .inl (cI, 20, .inl gp)), (un, .inr (5, [.ref unK, .int 0]))] _ := hP
  have hD : va_D A [(h0, .inr (9, [.ref w, .ref d, .ref co, .ref un, .ref ma, .ref tm, .int 0, .int 0, .int 0])), (co, .inr (4, [.ref w, .ref d, .ref on, .ref op, .int 0])), (w, .inr (3, [.int 0, .int 0, .ref wL, .ref wP, .ref wS])), (d, .inr (3, [.int 0, .int 0, .ref dL, .ref dP, .ref dS])), (on, .inr (7, [.ref onR, .ref onL, .ref onC, .ref onD, .int 0])), (onL, .inl (cI, 20, .inl (fun _ => 0))), (onC, .inl (cI, 20, .inl gn)), (op, .inr (7, [.ref opR, .ref opL, .ref opC, .ref opD, .int 0])), (opL, .inl (cI, 20, .inl (fun _ => 0))), (opC, .inl (cI, 20, .inl gp)), (un, .inr (5, [.ref unK, .int 0]))] := hD
  refine lv_aload_n hx hb dX6_differenceKind_0 rfl (lv_at hl 0 rfl) ?_
  refine lv_iload_n hx hb dX6_differenceKind_1 rfl (lv_at hl 1 rfl) ?_
  have hPc := hP.sub (ws' := [(h0, .inr (9, [.ref w, .ref d, .ref co, .ref un, .ref ma, .ref tm, .int 0, .int 0, .int 0])), (co, .inr (4, [.ref w, .ref d, .ref on, .ref op, .int 0])), (w, .inr (3, [.int 0, .int 0, .ref wL, .ref wP, .ref wS])), (d, .inr (3, [.int 0, .int 0, .ref dL, .ref dP, .ref dS])), (on, .inr (7, [.ref onR, .ref onL, .ref onC, .ref onD, .int 0])), (onL, .inl (cI, 20, .inl (fun _ => 0))), (onC, .inl (cI, 20, .inl gn)), (op, .inr (7, [.ref opR, .ref opL, .ref opC, .ref opD, .int 0])), (opL, .inl (cI, 20, .inl (fun _ => 0))), (opC, .inl (cI, 20, .inl gp)), (un, .inr (5, [.ref unK, .int 0]))]) [0, 1, 2, 3, 4, 5, 6, 7, 8, 9, 10] rfl
  have hDc := hD.sub (ws' := [(h0, .inr (9, [.ref w, .ref d, .ref co, .ref un, .ref ma, .ref tm, .int 0, .int 0, .int 0])), (co, .inr (4, [.ref w, .ref d, .ref on, .ref op, .int 0])), (w, .inr (3, [.int 0, .int 0, .ref wL, .ref wP, .ref wS])), (d, .inr (3, [.int 0, .int 0, .ref dL, .ref dP, .ref dS])), (on, .inr (7, [.ref onR, .ref onL, .ref onC, .ref onD, .int 0])), (onL, .inl (cI, 20, .inl (fun _ => 0))), (onC, .inl (cI, 20, .inl gn)), (op, .inr (7, [.ref opR, .ref opL, .ref opC, .ref opD, .int 0])), (opL, .inl (cI, 20, .inl (fun _ => 0))), (opC, .inl (cI, 20, .inl gp)), (un, .inr (5, [.ref unK, .int 0]))]) [0, 1, 2, 3, 4, 5, 6, 7, 8, 9, 10] (by decide) rfl
  have hKc := hK.sub (tys' := [(cI, .int)]) [0] rfl
  have hFc := va_free (wc := [(h0, .inr (9, [.ref w, .ref d, .ref co, .ref un, .ref ma, .ref tm, .int 0, .int 0, .int 0])), (co, .inr (4, [.ref w, .ref d, .ref on, .ref op, .int 0])), (w, .inr (3, [.int 0, .int 0, .ref wL, .ref wP, .ref wS])), (d, .inr (3, [.int 0, .int 0, .ref dL, .ref dP, .ref dS])), (on, .inr (7, [.ref onR, .ref onL, .ref onC, .ref onD, .int 0])), (onL, .inl (cI, 20, .inl (fun _ => 0))), (onC, .inl (cI, 20, .inl gn)), (op, .inr (7, [.ref opR, .ref opL, .ref opC, .ref opD, .int 0])), (opL, .inl (cI, 20, .inl (fun _ => 0))), (opC, .inl (cI, 20, .inl gp)), (un, .inr (5, [.ref unK, .int 0]))]) hD hS hA [0, 1, 2, 3, 4, 5, 6, 7, 8, 9, 10] rfl
  refine vx_callv (vx_runV (As := [.int p0]) (rest := []) ⟨hx, hb, hml, hown, hts⟩ (kX6_requireDifference l hfl dC dI h0 ma tm un unK co w wL wP wS d dL dP dS on onR onL onC onD op opR opL opC opD cI gn gp p0 s.heap.size) (cwV 1 hts gX6_differenceKind_X6_requireDifference rfl rfl rfl (by decide +kernel) ⟨Nat.le_of_ble_eq_true rfl, Nat.le_of_ble_eq_true rfl⟩) (fPreV hN hZ hS (fun q h => hFc q h) hPc hKc hDc (ci := 9) (q0 := 0) rfl rfl) rfl rfl hl.1 rfl (lv_room (Nat.le_of_ble_eq_true rfl)) dX6_differenceKind_2 ⟨Nat.le_of_ble_eq_true rfl, Nat.le_of_ble_eq_true rfl⟩) hS (fun q _ h => hFc q h) hFc (fun q _ h => hFc q h) (fun E ce q9 u t H locs ht hvm hpx hE hz1 hk1 hS hq9 hv9 hc9 => ?_) (fun u t H1 locs ht hvm hw hB hz1 hk1 hS => ?_)
  · skip
    exact thr E ce q9 _ _ _ _ _ _ _ (hE) hq9 hv9 hc9 hS (Nat.le_of_ble_eq_true rfl) (Nat.le_of_ble_eq_true rfl)
  · skip
    exact hw.elim

set_option maxHeartbeats 4000000 in
set_option maxRecDepth 100000 in
/-- differenceMember on a fresh object -/
theorem kX6_differenceMember (l : Launch) (hfl : l.stackTraces = false) (dC : Nat → ClassId) (dI : Nat → Nat → Nat) (h0 ma tm un unK co : Nat) (w wL wP wS d dL dP dS : Nat) (on onR onL onC onD op opR opL opC opD : Nat) (cI : ClassId) (gn gp : Nat → Int32) (p0 : Int32) (sz : Nat) : fXi l yX6_differenceMember wsX6_differenceMember ({ frames := 7, cells := 1, slots := 6, locals := 106 } : Room) dC dI [.ref h0, .int p0] [(h0, .inr (9, [.ref w, .ref d, .ref co, .ref un, .ref ma, .ref tm, .int 0, .int 0, .int 0])), (co, .inr (4, [.ref w, .ref d, .ref on, .ref op, .int 0])), (w, .inr (3, [.int 0, .int 0, .ref wL, .ref wP, .ref wS])), (d, .inr (3, [.int 0, .int 0, .ref dL, .ref dP, .ref dS])), (on, .inr (7, [.ref onR, .ref onL, .ref onC, .ref onD, .int 0])), (onL, .inl (cI, 20, .inl (fun _ => 0))), (onC, .inl (cI, 20, .inl gn)), (op, .inr (7, [.ref opR, .ref opL, .ref opC, .ref opD, .int 0])), (opL, .inl (cI, 20, .inl (fun _ => 0))), (opC, .inl (cI, 20, .inl gp)), (un, .inr (5, [.ref unK, .int 0]))] [(cI, .int)] sz (fun E : String => E = "java/lang/IndexOutOfBoundsException") (fun (r : Int32) (u : Unit) => False) (fun u => []) (fun u => []) := by
  refine oX_i hfl (y := yX6_differenceMember) (cc := cX6_differenceMember) (maxL := 2) (by decide) rfl (Nat.le_of_ble_eq_true rfl) ?_
  intro p e s m args below meth c ls A Q hx hb hr hml hown hts hN hZ hA hin hlk hP hK hD hl ret thr thn
  have hS : va_S A s.heap s.heap [] := va_S.rf
  have hl : lv_has ls 2 [(0, .ref h0), (1, .int p0)] := hl
  have hP : va_P (dC, dI) vwCl [(h0, .inr (9, [.ref w, .ref d, .ref co, .ref un, .ref ma, .ref tm, .int 0, .int 0, .int 0])), (co, .inr (4, [.ref w, .ref d, .ref on, .ref op, .int 0])), (w, .inr (3, [.int 0, .int 0, .ref wL, .ref wP, .ref wS])), (d, .inr (3, [.int 0, .int 0, .ref dL, .ref dP, .ref dS])), (on, .inr (7, [.ref onR, .ref onL, .ref onC, .ref onD, .int 0])), (onL, .inl (cI, 20, .inl (fun _ => 0))), (onC, .inl (cI, 20, .inl gn)), (op, .inr (7, [.ref opR, .ref opL, .ref opC, .ref opD, .int 0])), (opL, .inl (cI, 20, .inl (fun _ => 0))), (opC, .inl (cI, 20, .inl gp)), (un, .inr (5, [.ref unK, .int 0]))] _ := hP
  have hD : va_D A [(h0, .inr (9, [.ref w, .ref d, .ref co, .ref un, .ref ma, .ref tm, .int 0, .int 0, .int 0])), (co, .inr (4, [.ref w, .ref d, .ref on, .ref op, .int 0])), (w, .inr (3, [.int 0, .int 0, .ref wL, .ref wP, .ref wS])), (d, .inr (3, [.int 0, .int 0, .ref dL, .ref dP, .ref dS])), (on, .inr (7, [.ref onR, .ref onL, .ref onC, .ref onD, .int 0])), (onL, .inl (cI, 20, .inl (fun _ => 0))), (onC, .inl (cI, 20, .inl gn)), (op, .inr (7, [.ref opR, .ref opL, .ref opC, .ref opD, .int 0])), (opL, .inl (cI, 20, .inl (fun _ => 0))), (opC, .inl (cI, 20, .inl gp)), (un, .inr (5, [.ref unK, .int 0]))] := hD
  refine lv_aload_n hx hb dX6_differenceMember_0 rfl (lv_at hl 0 rfl) ?_
  refine lv_iload_n hx hb dX6_differenceMember_1 rfl (lv_at hl 1 rfl) ?_
  have hPc := hP.sub (ws' := [(h0, .inr (9, [.ref w, .ref d, .ref co, .ref un, .ref ma, .ref tm, .int 0, .int 0, .int 0])), (co, .inr (4, [.ref w, .ref d, .ref on, .ref op, .int 0])), (w, .inr (3, [.int 0, .int 0, .ref wL, .ref wP, .ref wS])), (d, .inr (3, [.int 0, .int 0, .ref dL, .ref dP, .ref dS])), (on, .inr (7, [.ref onR, .ref onL, .ref onC, .ref onD, .int 0])), (onL, .inl (cI, 20, .inl (fun _ => 0))), (onC, .inl (cI, 20, .inl gn)), (op, .inr (7, [.ref opR, .ref opL, .ref opC, .ref opD, .int 0])), (opL, .inl (cI, 20, .inl (fun _ => 0))), (opC, .inl (cI, 20, .inl gp)), (un, .inr (5, [.ref unK, .int 0]))]) [0, 1, 2, 3, 4, 5, 6, 7, 8, 9, 10] rfl
  have hDc := hD.sub (ws' := [(h0, .inr (9, [.ref w, .ref d, .ref co, .ref un, .ref ma, .ref tm, .int 0, .int 0, .int 0])), (co, .inr (4, [.ref w, .ref d, .ref on, .ref op, .int 0])), (w, .inr (3, [.int 0, .int 0, .ref wL, .ref wP, .ref wS])), (d, .inr (3, [.int 0, .int 0, .ref dL, .ref dP, .ref dS])), (on, .inr (7, [.ref onR, .ref onL, .ref onC, .ref onD, .int 0])), (onL, .inl (cI, 20, .inl (fun _ => 0))), (onC, .inl (cI, 20, .inl gn)), (op, .inr (7, [.ref opR, .ref opL, .ref opC, .ref opD, .int 0])), (opL, .inl (cI, 20, .inl (fun _ => 0))), (opC, .inl (cI, 20, .inl gp)), (un, .inr (5, [.ref unK, .int 0]))]) [0, 1, 2, 3, 4, 5, 6, 7, 8, 9, 10] (by decide) rfl
  have hKc := hK.sub (tys' := [(cI, .int)]) [0] rfl
  have hFc := va_free (wc := [(h0, .inr (9, [.ref w, .ref d, .ref co, .ref un, .ref ma, .ref tm, .int 0, .int 0, .int 0])), (co, .inr (4, [.ref w, .ref d, .ref on, .ref op, .int 0])), (w, .inr (3, [.int 0, .int 0, .ref wL, .ref wP, .ref wS])), (d, .inr (3, [.int 0, .int 0, .ref dL, .ref dP, .ref dS])), (on, .inr (7, [.ref onR, .ref onL, .ref onC, .ref onD, .int 0])), (onL, .inl (cI, 20, .inl (fun _ => 0))), (onC, .inl (cI, 20, .inl gn)), (op, .inr (7, [.ref opR, .ref opL, .ref opC, .ref opD, .int 0])), (opL, .inl (cI, 20, .inl (fun _ => 0))), (opC, .inl (cI, 20, .inl gp)), (un, .inr (5, [.ref unK, .int 0]))]) hD hS hA [0, 1, 2, 3, 4, 5, 6, 7, 8, 9, 10] rfl
  refine vx_callv (vx_runV (As := [.int p0]) (rest := []) ⟨hx, hb, hml, hown, hts⟩ (kX6_requireDifference l hfl dC dI h0 ma tm un unK co w wL wP wS d dL dP dS on onR onL onC onD op opR opL opC opD cI gn gp p0 s.heap.size) (cwV 1 hts gX6_differenceMember_X6_requireDifference rfl rfl rfl (by decide +kernel) ⟨Nat.le_of_ble_eq_true rfl, Nat.le_of_ble_eq_true rfl⟩) (fPreV hN hZ hS (fun q h => hFc q h) hPc hKc hDc (ci := 9) (q0 := 0) rfl rfl) rfl rfl hl.1 rfl (lv_room (Nat.le_of_ble_eq_true rfl)) dX6_differenceMember_2 ⟨Nat.le_of_ble_eq_true rfl, Nat.le_of_ble_eq_true rfl⟩) hS (fun q _ h => hFc q h) hFc (fun q _ h => hFc q h) (fun E ce q9 u t H locs ht hvm hpx hE hz1 hk1 hS hq9 hv9 hc9 => ?_) (fun u t H1 locs ht hvm hw hB hz1 hk1 hS => ?_)
  · skip
    exact thr E ce q9 _ _ _ _ _ _ _ (hE) hq9 hv9 hc9 hS (Nat.le_of_ble_eq_true rfl) (Nat.le_of_ble_eq_true rfl)
  · skip
    exact hw.elim

set_option maxHeartbeats 4000000 in
set_option maxRecDepth 100000 in
/-- differenceDistance on a fresh object -/
theorem kX6_differenceDistance (l : Launch) (hfl : l.stackTraces = false) (dC : Nat → ClassId) (dI : Nat → Nat → Nat) (h0 ma tm un unK co : Nat) (w wL wP wS d dL dP dS : Nat) (on onR onL onC onD op opR opL opC opD : Nat) (cI : ClassId) (gn gp : Nat → Int32) (p0 : Int32) (sz : Nat) : fXi l yX6_differenceDistance wsX6_differenceDistance ({ frames := 7, cells := 1, slots := 6, locals := 106 } : Room) dC dI [.ref h0, .int p0] [(h0, .inr (9, [.ref w, .ref d, .ref co, .ref un, .ref ma, .ref tm, .int 0, .int 0, .int 0])), (co, .inr (4, [.ref w, .ref d, .ref on, .ref op, .int 0])), (w, .inr (3, [.int 0, .int 0, .ref wL, .ref wP, .ref wS])), (d, .inr (3, [.int 0, .int 0, .ref dL, .ref dP, .ref dS])), (on, .inr (7, [.ref onR, .ref onL, .ref onC, .ref onD, .int 0])), (onL, .inl (cI, 20, .inl (fun _ => 0))), (onC, .inl (cI, 20, .inl gn)), (op, .inr (7, [.ref opR, .ref opL, .ref opC, .ref opD, .int 0])), (opL, .inl (cI, 20, .inl (fun _ => 0))), (opC, .inl (cI, 20, .inl gp)), (un, .inr (5, [.ref unK, .int 0]))] [(cI, .int)] sz (fun E : String => E = "java/lang/IndexOutOfBoundsException") (fun (r : Int32) (u : Unit) => False) (fun u => []) (fun u => []) := by
  refine oX_i hfl (y := yX6_differenceDistance) (cc := cX6_differenceDistance) (maxL := 2) (by decide) rfl (Nat.le_of_ble_eq_true rfl) ?_
  intro p e s m args below meth c ls A Q hx hb hr hml hown hts hN hZ hA hin hlk hP hK hD hl ret thr thn
  have hS : va_S A s.heap s.heap [] := va_S.rf
  have hl : lv_has ls 2 [(0, .ref h0), (1, .int p0)] := hl
  have hP : va_P (dC, dI) vwCl [(h0, .inr (9, [.ref w, .ref d, .ref co, .ref un, .ref ma, .ref tm, .int 0, .int 0, .int 0])), (co, .inr (4, [.ref w, .ref d, .ref on, .ref op, .int 0])), (w, .inr (3, [.int 0, .int 0, .ref wL, .ref wP, .ref wS])), (d, .inr (3, [.int 0, .int 0, .ref dL, .ref dP, .ref dS])), (on, .inr (7, [.ref onR, .ref onL, .ref onC, .ref onD, .int 0])), (onL, .inl (cI, 20, .inl (fun _ => 0))), (onC, .inl (cI, 20, .inl gn)), (op, .inr (7, [.ref opR, .ref opL, .ref opC, .ref opD, .int 0])), (opL, .inl (cI, 20, .inl (fun _ => 0))), (opC, .inl (cI, 20, .inl gp)), (un, .inr (5, [.ref unK, .int 0]))] _ := hP
  have hD : va_D A [(h0, .inr (9, [.ref w, .ref d, .ref co, .ref un, .ref ma, .ref tm, .int 0, .int 0, .int 0])), (co, .inr (4, [.ref w, .ref d, .ref on, .ref op, .int 0])), (w, .inr (3, [.int 0, .int 0, .ref wL, .ref wP, .ref wS])), (d, .inr (3, [.int 0, .int 0, .ref dL, .ref dP, .ref dS])), (on, .inr (7, [.ref onR, .ref onL, .ref onC, .ref onD, .int 0])), (onL, .inl (cI, 20, .inl (fun _ => 0))), (onC, .inl (cI, 20, .inl gn)), (op, .inr (7, [.ref opR, .ref opL, .ref opC, .ref opD, .int 0])), (opL, .inl (cI, 20, .inl (fun _ => 0))), (opC, .inl (cI, 20, .inl gp)), (un, .inr (5, [.ref unK, .int 0]))] := hD
  refine lv_aload_n hx hb dX6_differenceDistance_0 rfl (lv_at hl 0 rfl) ?_
  refine lv_iload_n hx hb dX6_differenceDistance_1 rfl (lv_at hl 1 rfl) ?_
  have hPc := hP.sub (ws' := [(h0, .inr (9, [.ref w, .ref d, .ref co, .ref un, .ref ma, .ref tm, .int 0, .int 0, .int 0])), (co, .inr (4, [.ref w, .ref d, .ref on, .ref op, .int 0])), (w, .inr (3, [.int 0, .int 0, .ref wL, .ref wP, .ref wS])), (d, .inr (3, [.int 0, .int 0, .ref dL, .ref dP, .ref dS])), (on, .inr (7, [.ref onR, .ref onL, .ref onC, .ref onD, .int 0])), (onL, .inl (cI, 20, .inl (fun _ => 0))), (onC, .inl (cI, 20, .inl gn)), (op, .inr (7, [.ref opR, .ref opL, .ref opC, .ref opD, .int 0])), (opL, .inl (cI, 20, .inl (fun _ => 0))), (opC, .inl (cI, 20, .inl gp)), (un, .inr (5, [.ref unK, .int 0]))]) [0, 1, 2, 3, 4, 5, 6, 7, 8, 9, 10] rfl
  have hDc := hD.sub (ws' := [(h0, .inr (9, [.ref w, .ref d, .ref co, .ref un, .ref ma, .ref tm, .int 0, .int 0, .int 0])), (co, .inr (4, [.ref w, .ref d, .ref on, .ref op, .int 0])), (w, .inr (3, [.int 0, .int 0, .ref wL, .ref wP, .ref wS])), (d, .inr (3, [.int 0, .int 0, .ref dL, .ref dP, .ref dS])), (on, .inr (7, [.ref onR, .ref onL, .ref onC, .ref onD, .int 0])), (onL, .inl (cI, 20, .inl (fun _ => 0))), (onC, .inl (cI, 20, .inl gn)), (op, .inr (7, [.ref opR, .ref opL, .ref opC, .ref opD, .int 0])), (opL, .inl (cI, 20, .inl (fun _ => 0))), (opC, .inl (cI, 20, .inl gp)), (un, .inr (5, [.ref unK, .int 0]))]) [0, 1, 2, 3, 4, 5, 6, 7, 8, 9, 10] (by decide) rfl
  have hKc := hK.sub (tys' := [(cI, .int)]) [0] rfl
  have hFc := va_free (wc := [(h0, .inr (9, [.ref w, .ref d, .ref co, .ref un, .ref ma, .ref tm, .int 0, .int 0, .int 0])), (co, .inr (4, [.ref w, .ref d, .ref on, .ref op, .int 0])), (w, .inr (3, [.int 0, .int 0, .ref wL, .ref wP, .ref wS])), (d, .inr (3, [.int 0, .int 0, .ref dL, .ref dP, .ref dS])), (on, .inr (7, [.ref onR, .ref onL, .ref onC, .ref onD, .int 0])), (onL, .inl (cI, 20, .inl (fun _ => 0))), (onC, .inl (cI, 20, .inl gn)), (op, .inr (7, [.ref opR, .ref opL, .ref opC, .ref opD, .int 0])), (opL, .inl (cI, 20, .inl (fun _ => 0))), (opC, .inl (cI, 20, .inl gp)), (un, .inr (5, [.ref unK, .int 0]))]) hD hS hA [0, 1, 2, 3, 4, 5, 6, 7, 8, 9, 10] rfl
  refine vx_callv (vx_runV (As := [.int p0]) (rest := []) ⟨hx, hb, hml, hown, hts⟩ (kX6_requireDifference l hfl dC dI h0 ma tm un unK co w wL wP wS d dL dP dS on onR onL onC onD op opR opL opC opD cI gn gp p0 s.heap.size) (cwV 1 hts gX6_differenceDistance_X6_requireDifference rfl rfl rfl (by decide +kernel) ⟨Nat.le_of_ble_eq_true rfl, Nat.le_of_ble_eq_true rfl⟩) (fPreV hN hZ hS (fun q h => hFc q h) hPc hKc hDc (ci := 9) (q0 := 0) rfl rfl) rfl rfl hl.1 rfl (lv_room (Nat.le_of_ble_eq_true rfl)) dX6_differenceDistance_2 ⟨Nat.le_of_ble_eq_true rfl, Nat.le_of_ble_eq_true rfl⟩) hS (fun q _ h => hFc q h) hFc (fun q _ h => hFc q h) (fun E ce q9 u t H locs ht hvm hpx hE hz1 hk1 hS hq9 hv9 hc9 => ?_) (fun u t H1 locs ht hvm hw hB hz1 hk1 hS => ?_)
  · skip
    exact thr E ce q9 _ _ _ _ _ _ _ (hE) hq9 hv9 hc9 hS (Nat.le_of_ble_eq_true rfl) (Nat.le_of_ble_eq_true rfl)
  · skip
    exact hw.elim

set_option maxHeartbeats 4000000 in
set_option maxRecDepth 100000 in
/-- differenceSize on a fresh object -/
theorem kX6_differenceSize (l : Launch) (hfl : l.stackTraces = false) (dC : Nat → ClassId) (dI : Nat → Nat → Nat) (h0 ma tm un unK co : Nat) (w wL wP wS d dL dP dS : Nat) (on onR onL onC onD op opR opL opC opD : Nat) (cI : ClassId) (gn gp : Nat → Int32) (p0 p1 : Int32) (sz : Nat) : fXi l yX6_differenceSize wsX6_differenceSize ({ frames := 7, cells := 1, slots := 6, locals := 106 } : Room) dC dI [.ref h0, .int p0, .int p1] [(h0, .inr (9, [.ref w, .ref d, .ref co, .ref un, .ref ma, .ref tm, .int 0, .int 0, .int 0])), (co, .inr (4, [.ref w, .ref d, .ref on, .ref op, .int 0])), (w, .inr (3, [.int 0, .int 0, .ref wL, .ref wP, .ref wS])), (d, .inr (3, [.int 0, .int 0, .ref dL, .ref dP, .ref dS])), (on, .inr (7, [.ref onR, .ref onL, .ref onC, .ref onD, .int 0])), (onL, .inl (cI, 20, .inl (fun _ => 0))), (onC, .inl (cI, 20, .inl gn)), (op, .inr (7, [.ref opR, .ref opL, .ref opC, .ref opD, .int 0])), (opL, .inl (cI, 20, .inl (fun _ => 0))), (opC, .inl (cI, 20, .inl gp)), (un, .inr (5, [.ref unK, .int 0]))] [(cI, .int)] sz (fun E : String => E = "java/lang/IndexOutOfBoundsException") (fun (r : Int32) (u : Unit) => False) (fun u => []) (fun u => []) := by
  refine oX_i hfl (y := yX6_differenceSize) (cc := cX6_differenceSize) (maxL := 3) (by decide) rfl (Nat.le_of_ble_eq_true rfl) ?_
  intro p e s m args below meth c ls A Q hx hb hr hml hown hts hN hZ hA hin hlk hP hK hD hl ret thr thn
  have hS : va_S A s.heap s.heap [] := va_S.rf
  have hl : lv_has ls 3 [(0, .ref h0), (1, .int p0), (2, .int p1)] := hl
  have hP : va_P (dC, dI) vwCl [(h0, .inr (9, [.ref w, .ref d, .ref co, .ref un, .ref ma, .ref tm, .int 0, .int 0, .int 0])), (co, .inr (4, [.ref w, .ref d, .ref on, .ref op, .int 0])), (w, .inr (3, [.int 0, .int 0, .ref wL, .ref wP, .ref wS])), (d, .inr (3, [.int 0, .int 0, .ref dL, .ref dP, .ref dS])), (on, .inr (7, [.ref onR, .ref onL, .ref onC, .ref onD, .int 0])), (onL, .inl (cI, 20, .inl (fun _ => 0))), (onC, .inl (cI, 20, .inl gn)), (op, .inr (7, [.ref opR, .ref opL, .ref opC, .ref opD, .int 0])), (opL, .inl (cI, 20, .inl (fun _ => 0))), (opC, .inl (cI, 20, .inl gp)), (un, .inr (5, [.ref unK, .int 0]))] _ := hP
  have hD : va_D A [(h0, .inr (9, [.ref w, .ref d, .ref co, .ref un, .ref ma, .ref tm, .int 0, .int 0, .int 0])), (co, .inr (4, [.ref w, .ref d, .ref on, .ref op, .int 0])), (w, .inr (3, [.int 0, .int 0, .ref wL, .ref wP, .ref wS])), (d, .inr (3, [.int 0, .int 0, .ref dL, .ref dP, .ref dS])), (on, .inr (7, [.ref onR, .ref onL, .ref onC, .ref onD, .int 0])), (onL, .inl (cI, 20, .inl (fun _ => 0))), (onC, .inl (cI, 20, .inl gn)), (op, .inr (7, [.ref opR, .ref opL, .ref opC, .ref opD, .int 0])), (opL, .inl (cI, 20, .inl (fun _ => 0))), (opC, .inl (cI, 20, .inl gp)), (un, .inr (5, [.ref unK, .int 0]))] := hD
  refine lv_aload_n hx hb dX6_differenceSize_0 rfl (lv_at hl 0 rfl) ?_
  refine lv_iload_n hx hb dX6_differenceSize_1 rfl (lv_at hl 1 rfl) ?_
  have hPc := hP.sub (ws' := [(h0, .inr (9, [.ref w, .ref d, .ref co, .ref un, .ref ma, .ref tm, .int 0, .int 0, .int 0])), (co, .inr (4, [.ref w, .ref d, .ref on, .ref op, .int 0])), (w, .inr (3, [.int 0, .int 0, .ref wL, .ref wP, .ref wS])), (d, .inr (3, [.int 0, .int 0, .ref dL, .ref dP, .ref dS])), (on, .inr (7, [.ref onR, .ref onL, .ref onC, .ref onD, .int 0])), (onL, .inl (cI, 20, .inl (fun _ => 0))), (onC, .inl (cI, 20, .inl gn)), (op, .inr (7, [.ref opR, .ref opL, .ref opC, .ref opD, .int 0])), (opL, .inl (cI, 20, .inl (fun _ => 0))), (opC, .inl (cI, 20, .inl gp)), (un, .inr (5, [.ref unK, .int 0]))]) [0, 1, 2, 3, 4, 5, 6, 7, 8, 9, 10] rfl
  have hDc := hD.sub (ws' := [(h0, .inr (9, [.ref w, .ref d, .ref co, .ref un, .ref ma, .ref tm, .int 0, .int 0, .int 0])), (co, .inr (4, [.ref w, .ref d, .ref on, .ref op, .int 0])), (w, .inr (3, [.int 0, .int 0, .ref wL, .ref wP, .ref wS])), (d, .inr (3, [.int 0, .int 0, .ref dL, .ref dP, .ref dS])), (on, .inr (7, [.ref onR, .ref onL, .ref onC, .ref onD, .int 0])), (onL, .inl (cI, 20, .inl (fun _ => 0))), (onC, .inl (cI, 20, .inl gn)), (op, .inr (7, [.ref opR, .ref opL, .ref opC, .ref opD, .int 0])), (opL, .inl (cI, 20, .inl (fun _ => 0))), (opC, .inl (cI, 20, .inl gp)), (un, .inr (5, [.ref unK, .int 0]))]) [0, 1, 2, 3, 4, 5, 6, 7, 8, 9, 10] (by decide) rfl
  have hKc := hK.sub (tys' := [(cI, .int)]) [0] rfl
  have hFc := va_free (wc := [(h0, .inr (9, [.ref w, .ref d, .ref co, .ref un, .ref ma, .ref tm, .int 0, .int 0, .int 0])), (co, .inr (4, [.ref w, .ref d, .ref on, .ref op, .int 0])), (w, .inr (3, [.int 0, .int 0, .ref wL, .ref wP, .ref wS])), (d, .inr (3, [.int 0, .int 0, .ref dL, .ref dP, .ref dS])), (on, .inr (7, [.ref onR, .ref onL, .ref onC, .ref onD, .int 0])), (onL, .inl (cI, 20, .inl (fun _ => 0))), (onC, .inl (cI, 20, .inl gn)), (op, .inr (7, [.ref opR, .ref opL, .ref opC, .ref opD, .int 0])), (opL, .inl (cI, 20, .inl (fun _ => 0))), (opC, .inl (cI, 20, .inl gp)), (un, .inr (5, [.ref unK, .int 0]))]) hD hS hA [0, 1, 2, 3, 4, 5, 6, 7, 8, 9, 10] rfl
  refine vx_callv (vx_runV (As := [.int p0]) (rest := []) ⟨hx, hb, hml, hown, hts⟩ (kX6_requireDifference l hfl dC dI h0 ma tm un unK co w wL wP wS d dL dP dS on onR onL onC onD op opR opL opC opD cI gn gp p0 s.heap.size) (cwV 1 hts gX6_differenceSize_X6_requireDifference rfl rfl rfl (by decide +kernel) ⟨Nat.le_of_ble_eq_true rfl, Nat.le_of_ble_eq_true rfl⟩) (fPreV hN hZ hS (fun q h => hFc q h) hPc hKc hDc (ci := 9) (q0 := 0) rfl rfl) rfl rfl hl.1 rfl (lv_room (Nat.le_of_ble_eq_true rfl)) dX6_differenceSize_2 ⟨Nat.le_of_ble_eq_true rfl, Nat.le_of_ble_eq_true rfl⟩) hS (fun q _ h => hFc q h) hFc (fun q _ h => hFc q h) (fun E ce q9 u t H locs ht hvm hpx hE hz1 hk1 hS hq9 hv9 hc9 => ?_) (fun u t H1 locs ht hvm hw hB hz1 hk1 hS => ?_)
  · skip
    exact thr E ce q9 _ _ _ _ _ _ _ (hE) hq9 hv9 hc9 hS (Nat.le_of_ble_eq_true rfl) (Nat.le_of_ble_eq_true rfl)
  · skip
    exact hw.elim
