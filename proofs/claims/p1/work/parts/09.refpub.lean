theorem dX6_thrown_0 : decode cX6_thrown 0 = .ok (.aload_n 0, 1) := by decide +kernel
theorem dX6_thrown_1 : decode cX6_thrown 1 = .ok (.getfield 57, 3) := by decide +kernel
theorem dX6_thrown_4 : decode cX6_thrown 4 = .ok (.ireturn, 1) := by decide +kernel
set_option maxRecDepth 20000 in
theorem ggX6_addNet_X6_isCircuit : GoodIn wsX6_addNet wsX6_isCircuit := goodIn_r _ [7] (by decide +kernel) (by decide +kernel)
set_option maxRecDepth 20000 in
theorem gX6_addNet_X6_isCircuit : GoodIn wsX6_addNet (va_wsS RX6 81 yX6_isCircuit wsX6_isCircuit) := goodIn_app (goodIn_of _ (by decide +kernel)) ggX6_addNet_X6_isCircuit
theorem dX6_addNet_0 : decode cX6_addNet 0 = .ok (.aload_n 0, 1) := by decide +kernel
theorem dX6_addNet_1 : decode cX6_addNet 1 = .ok (.iload_n 1, 1) := by decide +kernel
theorem dX6_addNet_2 : decode cX6_addNet 2 = .ok (.invokestatic 81, 3) := by decide +kernel
theorem dX6_addNet_5 : decode cX6_addNet 5 = .ok (.ifCond .ne 7, 3) := by decide +kernel
theorem dX6_addNet_8 : decode cX6_addNet 8 = .ok (.iconst 1, 1) := by decide +kernel
theorem dX6_addNet_9 : decode cX6_addNet 9 = .ok (.goto 19, 3) := by decide +kernel
theorem dX6_addNet_12 : decode cX6_addNet 12 = .ok (.aload_n 0, 1) := by decide +kernel
theorem dX6_addNet_13 : decode cX6_addNet 13 = .ok (.getfield 7, 3) := by decide +kernel
theorem dX6_addNet_16 : decode cX6_addNet 16 = .ok (.iload_n 1, 1) := by decide +kernel
theorem dX6_addNet_17 : decode cX6_addNet 17 = .ok (.iaload, 1) := by decide +kernel
theorem dX6_addNet_18 : decode cX6_addNet 18 = .ok (.bipush 10, 2) := by decide +kernel
theorem dX6_addNet_20 : decode cX6_addNet 20 = .ok (.if_icmp .ne 7, 3) := by decide +kernel
theorem dX6_addNet_27 : decode cX6_addNet 27 = .ok (.iconst 0, 1) := by decide +kernel
theorem dX6_addNet_28 : decode cX6_addNet 28 = .ok (.putfield 57, 3) := by decide +kernel
theorem dX6_addNet_31 : decode cX6_addNet 31 = .ok (.aload_n 0, 1) := by decide +kernel
theorem dX6_addNet_32 : decode cX6_addNet 32 = .ok (.getfield 57, 3) := by decide +kernel
theorem dX6_addNet_35 : decode cX6_addNet 35 = .ok (.ifCond .le 5, 3) := by decide +kernel
theorem dX6_addNet_38 : decode cX6_addNet 38 = .ok (.iconst (-1), 1) := by decide +kernel
theorem dX6_addNet_39 : decode cX6_addNet 39 = .ok (.ireturn, 1) := by decide +kernel
theorem dX6_addNet_40 : decode cX6_addNet 40 = .ok (.aload_n 0, 1) := by decide +kernel
theorem dX6_addNet_41 : decode cX6_addNet 41 = .ok (.getfield 16, 3) := by decide +kernel
theorem dX6_addNet_44 : decode cX6_addNet 44 = .ok (.bipush 10, 2) := by decide +kernel
theorem dX6_addNet_46 : decode cX6_addNet 46 = .ok (.iload_n 1, 1) := by decide +kernel
theorem dX6_addNet_47 : decode cX6_addNet 47 = .ok (.imul, 1) := by decide +kernel
theorem dX6_addNet_48 : decode cX6_addNet 48 = .ok (.aload_n 0, 1) := by decide +kernel
theorem dX6_addNet_49 : decode cX6_addNet 49 = .ok (.getfield 7, 3) := by decide +kernel
theorem dX6_addNet_52 : decode cX6_addNet 52 = .ok (.iload_n 1, 1) := by decide +kernel
theorem dX6_addNet_53 : decode cX6_addNet 53 = .ok (.iaload, 1) := by decide +kernel
theorem dX6_addNet_54 : decode cX6_addNet 54 = .ok (.iadd, 1) := by decide +kernel
theorem dX6_addNet_55 : decode cX6_addNet 55 = .ok (.bipush 45, 2) := by decide +kernel
theorem dX6_addNet_57 : decode cX6_addNet 57 = .ok (.castore, 1) := by decide +kernel
theorem dX6_addNet_58 : decode cX6_addNet 58 = .ok (.aload_n 0, 1) := by decide +kernel
theorem dX6_addNet_59 : decode cX6_addNet 59 = .ok (.getfield 7, 3) := by decide +kernel
theorem dX6_addNet_62 : decode cX6_addNet 62 = .ok (.iload_n 1, 1) := by decide +kernel
theorem dX6_addNet_63 : decode cX6_addNet 63 = .ok (.dup2, 1) := by decide +kernel
theorem dX6_addNet_64 : decode cX6_addNet 64 = .ok (.iaload, 1) := by decide +kernel
theorem dX6_addNet_65 : decode cX6_addNet 65 = .ok (.iconst 1, 1) := by decide +kernel
theorem dX6_addNet_66 : decode cX6_addNet 66 = .ok (.iadd, 1) := by decide +kernel
theorem dX6_addNet_67 : decode cX6_addNet 67 = .ok (.iastore, 1) := by decide +kernel
theorem dX6_addNet_68 : decode cX6_addNet 68 = .ok (.aload_n 0, 1) := by decide +kernel
theorem dX6_addNet_69 : decode cX6_addNet 69 = .ok (.getfield 7, 3) := by decide +kernel
theorem dX6_addNet_72 : decode cX6_addNet 72 = .ok (.iload_n 1, 1) := by decide +kernel
theorem dX6_addNet_73 : decode cX6_addNet 73 = .ok (.iaload, 1) := by decide +kernel
theorem dX6_addNet_74 : decode cX6_addNet 74 = .ok (.iconst 1, 1) := by decide +kernel
theorem dX6_addNet_75 : decode cX6_addNet 75 = .ok (.isub, 1) := by decide +kernel
theorem dX6_addNet_76 : decode cX6_addNet 76 = .ok (.ireturn, 1) := by decide +kernel
set_option maxRecDepth 20000 in
theorem ggX6_setPort_X6_in : GoodIn wsX6_setPort wsX6_in := goodIn_r _ [9] (by decide +kernel) (by decide +kernel)
set_option maxRecDepth 20000 in
theorem gX6_setPort_X6_in : GoodIn wsX6_setPort (va_wsS RX6 61 yX6_in wsX6_in) := goodIn_app (goodIn_of _ (by decide +kernel)) ggX6_setPort_X6_in
set_option maxRecDepth 20000 in
theorem ggX6_setPort_X6_isCircuit : GoodIn wsX6_setPort wsX6_isCircuit := goodIn_r _ [12] (by decide +kernel) (by decide +kernel)
set_option maxRecDepth 20000 in
theorem gX6_setPort_X6_isCircuit : GoodIn wsX6_setPort (va_wsS RX6 81 yX6_isCircuit wsX6_isCircuit) := goodIn_app (goodIn_of _ (by decide +kernel)) ggX6_setPort_X6_isCircuit
set_option maxRecDepth 20000 in
theorem ggX6_setPort_X6_isNet : GoodIn wsX6_setPort wsX6_isNet := goodIn_ca (goodIn_r _ [16, 4, 6, 7, 8, 9, 17, 18, 19, 20, 21, 22, 23, 24, 25, 26, 27, 28, 29, 30, 31, 32, 33, 34, 35] (by decide +kernel) (by decide +kernel)) (goodIn_sub (fun _ h => List.mem_cons_of_mem _ (List.mem_append_right _ h)) (by decide +kernel))
set_option maxRecDepth 20000 in
theorem gX6_setPort_X6_isNet : GoodIn wsX6_setPort (wsV RX6 89 RX6 yX6_isNet wsX6_isNet) := goodIn_app (goodIn_of _ (by decide +kernel)) ggX6_setPort_X6_isNet
theorem dX6_setPort_0 : decode cX6_setPort 0 = .ok (.iload_n 3, 1) := by decide +kernel
theorem dX6_setPort_1 : decode cX6_setPort 1 = .ok (.bipush 45, 2) := by decide +kernel
theorem dX6_setPort_3 : decode cX6_setPort 3 = .ok (.if_icmp .eq 17, 3) := by decide +kernel
theorem dX6_setPort_6 : decode cX6_setPort 6 = .ok (.iload_n 3, 1) := by decide +kernel
theorem dX6_setPort_7 : decode cX6_setPort 7 = .ok (.i2l, 1) := by decide +kernel
theorem dX6_setPort_8 : decode cX6_setPort 8 = .ok (.ldc2_w 85, 3) := by decide +kernel
theorem dX6_setPort_11 : decode cX6_setPort 11 = .ok (.ldc2_w 87, 3) := by decide +kernel
theorem dX6_setPort_14 : decode cX6_setPort 14 = .ok (.invokestatic 61, 3) := by decide +kernel
theorem dX6_setPort_17 : decode cX6_setPort 17 = .ok (.ifCond .eq 7, 3) := by decide +kernel
theorem dX6_setPort_20 : decode cX6_setPort 20 = .ok (.iconst 1, 1) := by decide +kernel
theorem dX6_setPort_21 : decode cX6_setPort 21 = .ok (.goto 4, 3) := by decide +kernel
theorem dX6_setPort_24 : decode cX6_setPort 24 = .ok (.iconst 0, 1) := by decide +kernel
theorem dX6_setPort_25 : decode cX6_setPort 25 = .ok (.istore 4, 2) := by decide +kernel
theorem dX6_setPort_27 : decode cX6_setPort 27 = .ok (.iload_n 1, 1) := by decide +kernel
theorem dX6_setPort_28 : decode cX6_setPort 28 = .ok (.invokestatic 81, 3) := by decide +kernel
theorem dX6_setPort_31 : decode cX6_setPort 31 = .ok (.ifCond .eq 17, 3) := by decide +kernel
theorem dX6_setPort_34 : decode cX6_setPort 34 = .ok (.iload 4, 2) := by decide +kernel
theorem dX6_setPort_36 : decode cX6_setPort 36 = .ok (.ifCond .eq 12, 3) := by decide +kernel
theorem dX6_setPort_39 : decode cX6_setPort 39 = .ok (.aload_n 0, 1) := by decide +kernel
theorem dX6_setPort_40 : decode cX6_setPort 40 = .ok (.iload_n 1, 1) := by decide +kernel
theorem dX6_setPort_41 : decode cX6_setPort 41 = .ok (.iload_n 2, 1) := by decide +kernel
theorem dX6_setPort_42 : decode cX6_setPort 42 = .ok (.invokevirtual 89, 3) := by decide +kernel
theorem dX6_setPort_45 : decode cX6_setPort 45 = .ok (.ifCond .ne 27, 3) := by decide +kernel
theorem dX6_setPort_48 : decode cX6_setPort 48 = .ok (.aload_n 0, 1) := by decide +kernel
theorem dX6_setPort_49 : decode cX6_setPort 49 = .ok (.iload_n 1, 1) := by decide +kernel
theorem dX6_setPort_50 : decode cX6_setPort 50 = .ok (.invokestatic 81, 3) := by decide +kernel
theorem dX6_setPort_53 : decode cX6_setPort 53 = .ok (.ifCond .eq 8, 3) := by decide +kernel
theorem dX6_setPort_56 : decode cX6_setPort 56 = .ok (.iload 4, 2) := by decide +kernel
theorem dX6_setPort_58 : decode cX6_setPort 58 = .ok (.ifCond .ne 7, 3) := by decide +kernel
theorem dX6_setPort_61 : decode cX6_setPort 61 = .ok (.iconst 1, 1) := by decide +kernel
theorem dX6_setPort_62 : decode cX6_setPort 62 = .ok (.goto 4, 3) := by decide +kernel
theorem dX6_setPort_65 : decode cX6_setPort 65 = .ok (.iconst 2, 1) := by decide +kernel
theorem dX6_setPort_66 : decode cX6_setPort 66 = .ok (.putfield 57, 3) := by decide +kernel
theorem dX6_setPort_69 : decode cX6_setPort 69 = .ok (.bipush 32, 2) := by decide +kernel
theorem dX6_setPort_71 : decode cX6_setPort 71 = .ok (.ireturn, 1) := by decide +kernel
set_option maxRecDepth 20000 in
theorem ggX6_addPart_X6_isCircuit : GoodIn wsX6_addPart wsX6_isCircuit := goodIn_r _ [10] (by decide +kernel) (by decide +kernel)
set_option maxRecDepth 20000 in
theorem gX6_addPart_X6_isCircuit : GoodIn wsX6_addPart (va_wsS RX6 81 yX6_isCircuit wsX6_isCircuit) := goodIn_app (goodIn_of _ (by decide +kernel)) ggX6_addPart_X6_isCircuit
set_option maxRecDepth 20000 in
theorem ggX6_addPart_X6_in : GoodIn wsX6_addPart wsX6_in := goodIn_r _ [13] (by decide +kernel) (by decide +kernel)
set_option maxRecDepth 20000 in
theorem gX6_addPart_X6_in : GoodIn wsX6_addPart (va_wsS RX6 61 yX6_in wsX6_in) := goodIn_app (goodIn_of _ (by decide +kernel)) ggX6_addPart_X6_in
set_option maxRecDepth 20000 in
theorem ggX6_addPart_X6_isNet : GoodIn wsX6_addPart wsX6_isNet := goodIn_ca (goodIn_r _ [17, 18, 11, 12, 9, 13, 24, 25, 26, 27, 28, 29, 30, 31, 32, 33, 34, 35, 36, 37, 38, 39, 40, 41, 42] (by decide +kernel) (by decide +kernel)) (goodIn_sub (fun _ h => List.mem_cons_of_mem _ (List.mem_append_right _ h)) (by decide +kernel))
set_option maxRecDepth 20000 in
theorem gX6_addPart_X6_isNet : GoodIn wsX6_addPart (wsV RX6 89 RX6 yX6_isNet wsX6_isNet) := goodIn_app (goodIn_of _ (by decide +kernel)) ggX6_addPart_X6_isNet
theorem dX6_addPart_0 : decode cX6_addPart 0 = .ok (.iload_n 2, 1) := by decide +kernel
theorem dX6_addPart_1 : decode cX6_addPart 1 = .ok (.bipush 114, 2) := by decide +kernel
theorem dX6_addPart_3 : decode cX6_addPart 3 = .ok (.if_icmp .eq 21, 3) := by decide +kernel
theorem dX6_addPart_6 : decode cX6_addPart 6 = .ok (.iload_n 2, 1) := by decide +kernel
theorem dX6_addPart_7 : decode cX6_addPart 7 = .ok (.bipush 99, 2) := by decide +kernel
theorem dX6_addPart_9 : decode cX6_addPart 9 = .ok (.if_icmp .eq 15, 3) := by decide +kernel
theorem dX6_addPart_12 : decode cX6_addPart 12 = .ok (.iload_n 2, 1) := by decide +kernel
theorem dX6_addPart_13 : decode cX6_addPart 13 = .ok (.bipush 100, 2) := by decide +kernel
theorem dX6_addPart_15 : decode cX6_addPart 15 = .ok (.if_icmp .eq 9, 3) := by decide +kernel
theorem dX6_addPart_18 : decode cX6_addPart 18 = .ok (.iload_n 2, 1) := by decide +kernel
theorem dX6_addPart_19 : decode cX6_addPart 19 = .ok (.bipush 116, 2) := by decide +kernel
theorem dX6_addPart_21 : decode cX6_addPart 21 = .ok (.if_icmp .ne 7, 3) := by decide +kernel
theorem dX6_addPart_24 : decode cX6_addPart 24 = .ok (.iconst 1, 1) := by decide +kernel
theorem dX6_addPart_25 : decode cX6_addPart 25 = .ok (.goto 4, 3) := by decide +kernel
theorem dX6_addPart_28 : decode cX6_addPart 28 = .ok (.iconst 0, 1) := by decide +kernel
theorem dX6_addPart_29 : decode cX6_addPart 29 = .ok (.istore 7, 2) := by decide +kernel
theorem dX6_addPart_31 : decode cX6_addPart 31 = .ok (.iload_n 1, 1) := by decide +kernel
theorem dX6_addPart_32 : decode cX6_addPart 32 = .ok (.invokestatic 81, 3) := by decide +kernel
theorem dX6_addPart_35 : decode cX6_addPart 35 = .ok (.ifCond .eq 32, 3) := by decide +kernel
theorem dX6_addPart_38 : decode cX6_addPart 38 = .ok (.iload 7, 2) := by decide +kernel
theorem dX6_addPart_40 : decode cX6_addPart 40 = .ok (.ifCond .eq 27, 3) := by decide +kernel
theorem dX6_addPart_43 : decode cX6_addPart 43 = .ok (.iload_n 3, 1) := by decide +kernel
theorem dX6_addPart_44 : decode cX6_addPart 44 = .ok (.i2l, 1) := by decide +kernel
theorem dX6_addPart_45 : decode cX6_addPart 45 = .ok (.lconst 1, 1) := by decide +kernel
theorem dX6_addPart_46 : decode cX6_addPart 46 = .ok (.ldc2_w 92, 3) := by decide +kernel
theorem dX6_addPart_49 : decode cX6_addPart 49 = .ok (.invokestatic 61, 3) := by decide +kernel
theorem dX6_addPart_52 : decode cX6_addPart 52 = .ok (.ifCond .eq 15, 3) := by decide +kernel
theorem dX6_addPart_55 : decode cX6_addPart 55 = .ok (.iload_n 2, 1) := by decide +kernel
theorem dX6_addPart_56 : decode cX6_addPart 56 = .ok (.bipush 116, 2) := by decide +kernel
theorem dX6_addPart_58 : decode cX6_addPart 58 = .ok (.if_icmp .eq 17, 3) := by decide +kernel
theorem dX6_addPart_61 : decode cX6_addPart 61 = .ok (.iload 6, 2) := by decide +kernel
theorem dX6_addPart_63 : decode cX6_addPart 63 = .ok (.iconst (-1), 1) := by decide +kernel
theorem dX6_addPart_64 : decode cX6_addPart 64 = .ok (.if_icmp .eq 11, 3) := by decide +kernel
theorem dX6_addPart_67 : decode cX6_addPart 67 = .ok (.aload_n 0, 1) := by decide +kernel
theorem dX6_addPart_68 : decode cX6_addPart 68 = .ok (.iconst 1, 1) := by decide +kernel
theorem dX6_addPart_69 : decode cX6_addPart 69 = .ok (.putfield 57, 3) := by decide +kernel
theorem dX6_addPart_72 : decode cX6_addPart 72 = .ok (.goto 67, 3) := by decide +kernel
theorem dX6_addPart_75 : decode cX6_addPart 75 = .ok (.aload_n 0, 1) := by decide +kernel
theorem dX6_addPart_76 : decode cX6_addPart 76 = .ok (.iload_n 1, 1) := by decide +kernel
theorem dX6_addPart_77 : decode cX6_addPart 77 = .ok (.iload 4, 2) := by decide +kernel
theorem dX6_addPart_79 : decode cX6_addPart 79 = .ok (.invokevirtual 89, 3) := by decide +kernel
theorem dX6_addPart_82 : decode cX6_addPart 82 = .ok (.ifCond .eq 29, 3) := by decide +kernel
theorem dX6_addPart_111 : decode cX6_addPart 111 = .ok (.aload_n 0, 1) := by decide +kernel
theorem dX6_addPart_112 : decode cX6_addPart 112 = .ok (.iconst 2, 1) := by decide +kernel
theorem dX6_addPart_113 : decode cX6_addPart 113 = .ok (.putfield 57, 3) := by decide +kernel
theorem dX6_addPart_116 : decode cX6_addPart 116 = .ok (.goto 23, 3) := by decide +kernel
theorem dX6_addPart_139 : decode cX6_addPart 139 = .ok (.aload_n 0, 1) := by decide +kernel
theorem dX6_addPart_140 : decode cX6_addPart 140 = .ok (.getfield 57, 3) := by decide +kernel
theorem dX6_addPart_143 : decode cX6_addPart 143 = .ok (.ifCond .le 5, 3) := by decide +kernel
theorem dX6_addPart_146 : decode cX6_addPart 146 = .ok (.iconst (-1), 1) := by decide +kernel
theorem dX6_addPart_147 : decode cX6_addPart 147 = .ok (.ireturn, 1) := by decide +kernel
set_option maxRecDepth 20000 in
theorem ggX6_isAsked_X6_isCircuit : GoodIn wsX6_isAsked wsX6_isCircuit := goodIn_r _ [5] (by decide +kernel) (by decide +kernel)
set_option maxRecDepth 20000 in
theorem gX6_isAsked_X6_isCircuit : GoodIn wsX6_isAsked (va_wsS RX6 81 yX6_isCircuit wsX6_isCircuit) := goodIn_app (goodIn_of _ (by decide +kernel)) ggX6_isAsked_X6_isCircuit
set_option maxRecDepth 20000 in
theorem ggX6_isAsked_X6_isPart : GoodIn wsX6_isAsked wsX6_isPart := goodIn_ca (goodIn_r _ [9, 10, 11, 12, 13, 4, 14, 15, 16, 17, 18, 19, 20, 21, 22, 23, 24, 25, 26, 27, 28, 29, 30, 31, 32, 33] (by decide +kernel) (by decide +kernel)) (goodIn_sub (fun _ h => List.mem_cons_of_mem _ (List.mem_append_right _ h)) (by decide +kernel))
set_option maxRecDepth 20000 in
theorem gX6_isAsked_X6_isPart : GoodIn wsX6_isAsked (wsV RX6 73 RX6 yX6_isPart wsX6_isPart) := goodIn_app (goodIn_of _ (by decide +kernel)) ggX6_isAsked_X6_isPart
theorem dX6_isAsked_0 : decode cX6_isAsked 0 = .ok (.aload_n 0, 1) := by decide +kernel
theorem dX6_isAsked_1 : decode cX6_isAsked 1 = .ok (.iload_n 1, 1) := by decide +kernel
theorem dX6_isAsked_2 : decode cX6_isAsked 2 = .ok (.invokestatic 81, 3) := by decide +kernel
theorem dX6_isAsked_5 : decode cX6_isAsked 5 = .ok (.ifCond .ne 7, 3) := by decide +kernel
theorem dX6_isAsked_8 : decode cX6_isAsked 8 = .ok (.iconst 1, 1) := by decide +kernel
theorem dX6_isAsked_9 : decode cX6_isAsked 9 = .ok (.goto 17, 3) := by decide +kernel
theorem dX6_isAsked_12 : decode cX6_isAsked 12 = .ok (.aload_n 0, 1) := by decide +kernel
theorem dX6_isAsked_13 : decode cX6_isAsked 13 = .ok (.iload_n 1, 1) := by decide +kernel
theorem dX6_isAsked_14 : decode cX6_isAsked 14 = .ok (.iload_n 2, 1) := by decide +kernel
theorem dX6_isAsked_15 : decode cX6_isAsked 15 = .ok (.invokevirtual 73, 3) := by decide +kernel
theorem dX6_isAsked_18 : decode cX6_isAsked 18 = .ok (.ifCond .ne 7, 3) := by decide +kernel
theorem dX6_isAsked_21 : decode cX6_isAsked 21 = .ok (.iconst 2, 1) := by decide +kernel
theorem dX6_isAsked_22 : decode cX6_isAsked 22 = .ok (.goto 4, 3) := by decide +kernel
theorem dX6_isAsked_26 : decode cX6_isAsked 26 = .ok (.putfield 57, 3) := by decide +kernel
theorem dX6_isAsked_29 : decode cX6_isAsked 29 = .ok (.aload_n 0, 1) := by decide +kernel
theorem dX6_isAsked_30 : decode cX6_isAsked 30 = .ok (.getfield 57, 3) := by decide +kernel
theorem dX6_isAsked_33 : decode cX6_isAsked 33 = .ok (.ifCond .ne 7, 3) := by decide +kernel
theorem dX6_isAsked_40 : decode cX6_isAsked 40 = .ok (.iconst 0, 1) := by decide +kernel
theorem dX6_isAsked_41 : decode cX6_isAsked 41 = .ok (.ireturn, 1) := by decide +kernel
set_option maxRecDepth 20000 in
theorem ggX6_removePart_X6_isAsked : GoodIn wsX6_removePart wsX6_isAsked := goodIn_ca (goodIn_r _ [6, 7, 8, 9, 5, 10, 11, 12, 13, 14, 15, 1, 16, 17, 18, 23, 24, 25, 26, 27, 28, 29, 30, 31, 32, 33, 34, 35, 36, 37, 38, 39, 40, 41] (by decide +kernel) (by decide +kernel)) (goodIn_sub (fun _ h => List.mem_cons_of_mem _ (List.mem_append_right _ h)) (by decide +kernel))
set_option maxRecDepth 20000 in
theorem gX6_removePart_X6_isAsked : GoodIn wsX6_removePart (wsV RX6 98 RX6 yX6_isAsked wsX6_isAsked) := goodIn_app (goodIn_of _ (by decide +kernel)) ggX6_removePart_X6_isAsked
theorem dX6_removePart_0 : decode cX6_removePart 0 = .ok (.aload_n 0, 1) := by decide +kernel
theorem dX6_removePart_1 : decode cX6_removePart 1 = .ok (.iload_n 1, 1) := by decide +kernel
theorem dX6_removePart_2 : decode cX6_removePart 2 = .ok (.iload_n 2, 1) := by decide +kernel
theorem dX6_removePart_3 : decode cX6_removePart 3 = .ok (.invokevirtual 98, 3) := by decide +kernel
theorem dX6_removePart_6 : decode cX6_removePart 6 = .ok (.ifCond .ne 5, 3) := by decide +kernel
theorem dX6_removePart_9 : decode cX6_removePart 9 = .ok (.iconst (-1), 1) := by decide +kernel
theorem dX6_removePart_10 : decode cX6_removePart 10 = .ok (.ireturn, 1) := by decide +kernel
set_option maxRecDepth 20000 in
theorem ggX6_setValue_X6_isCircuit : GoodIn wsX6_setValue wsX6_isCircuit := goodIn_r _ [7] (by decide +kernel) (by decide +kernel)
set_option maxRecDepth 20000 in
theorem gX6_setValue_X6_isCircuit : GoodIn wsX6_setValue (va_wsS RX6 81 yX6_isCircuit wsX6_isCircuit) := goodIn_app (goodIn_of _ (by decide +kernel)) ggX6_setValue_X6_isCircuit
set_option maxRecDepth 20000 in
theorem ggX6_setValue_X6_in : GoodIn wsX6_setValue wsX6_in := goodIn_r _ [10] (by decide +kernel) (by decide +kernel)
set_option maxRecDepth 20000 in
theorem gX6_setValue_X6_in : GoodIn wsX6_setValue (va_wsS RX6 61 yX6_in wsX6_in) := goodIn_app (goodIn_of _ (by decide +kernel)) ggX6_setValue_X6_in
set_option maxRecDepth 20000 in
theorem ggX6_setValue_X6_isPart : GoodIn wsX6_setValue wsX6_isPart := goodIn_ca (goodIn_r _ [14, 15, 16, 8, 9, 6, 10, 21, 22, 23, 24, 25, 26, 27, 28, 29, 30, 31, 32, 33, 34, 35, 36, 37, 38, 39] (by decide +kernel) (by decide +kernel)) (goodIn_sub (fun _ h => List.mem_cons_of_mem _ (List.mem_append_right _ h)) (by decide +kernel))
set_option maxRecDepth 20000 in
theorem gX6_setValue_X6_isPart : GoodIn wsX6_setValue (wsV RX6 73 RX6 yX6_isPart wsX6_isPart) := goodIn_app (goodIn_of _ (by decide +kernel)) ggX6_setValue_X6_isPart
theorem dX6_setValue_0 : decode cX6_setValue 0 = .ok (.aload_n 0, 1) := by decide +kernel
theorem dX6_setValue_1 : decode cX6_setValue 1 = .ok (.iload_n 1, 1) := by decide +kernel
theorem dX6_setValue_2 : decode cX6_setValue 2 = .ok (.invokestatic 81, 3) := by decide +kernel
theorem dX6_setValue_5 : decode cX6_setValue 5 = .ok (.ifCond .eq 15, 3) := by decide +kernel
theorem dX6_setValue_8 : decode cX6_setValue 8 = .ok (.iload_n 3, 1) := by decide +kernel
theorem dX6_setValue_9 : decode cX6_setValue 9 = .ok (.i2l, 1) := by decide +kernel
theorem dX6_setValue_10 : decode cX6_setValue 10 = .ok (.lconst 1, 1) := by decide +kernel
theorem dX6_setValue_11 : decode cX6_setValue 11 = .ok (.ldc2_w 92, 3) := by decide +kernel
theorem dX6_setValue_14 : decode cX6_setValue 14 = .ok (.invokestatic 61, 3) := by decide +kernel
theorem dX6_setValue_17 : decode cX6_setValue 17 = .ok (.ifCond .ne 7, 3) := by decide +kernel
theorem dX6_setValue_20 : decode cX6_setValue 20 = .ok (.iconst 1, 1) := by decide +kernel
theorem dX6_setValue_21 : decode cX6_setValue 21 = .ok (.goto 17, 3) := by decide +kernel
theorem dX6_setValue_24 : decode cX6_setValue 24 = .ok (.aload_n 0, 1) := by decide +kernel
theorem dX6_setValue_25 : decode cX6_setValue 25 = .ok (.iload_n 1, 1) := by decide +kernel
theorem dX6_setValue_26 : decode cX6_setValue 26 = .ok (.iload_n 2, 1) := by decide +kernel
theorem dX6_setValue_27 : decode cX6_setValue 27 = .ok (.invokevirtual 73, 3) := by decide +kernel
theorem dX6_setValue_30 : decode cX6_setValue 30 = .ok (.ifCond .ne 7, 3) := by decide +kernel
theorem dX6_setValue_33 : decode cX6_setValue 33 = .ok (.iconst 2, 1) := by decide +kernel
theorem dX6_setValue_34 : decode cX6_setValue 34 = .ok (.goto 4, 3) := by decide +kernel
theorem dX6_setValue_38 : decode cX6_setValue 38 = .ok (.putfield 57, 3) := by decide +kernel
theorem dX6_setValue_41 : decode cX6_setValue 41 = .ok (.aload_n 0, 1) := by decide +kernel
theorem dX6_setValue_42 : decode cX6_setValue 42 = .ok (.getfield 57, 3) := by decide +kernel
theorem dX6_setValue_45 : decode cX6_setValue 45 = .ok (.ifCond .le 5, 3) := by decide +kernel
theorem dX6_setValue_48 : decode cX6_setValue 48 = .ok (.iconst (-1), 1) := by decide +kernel
theorem dX6_setValue_49 : decode cX6_setValue 49 = .ok (.ireturn, 1) := by decide +kernel
set_option maxRecDepth 20000 in
theorem ggX6_rewire_X6_isAsked : GoodIn wsX6_rewire wsX6_isAsked := goodIn_ca (goodIn_r _ [6, 1, 7, 8, 5, 9, 10, 11, 12, 13, 14, 15, 16, 17, 18, 41, 42, 43, 44, 45, 46, 47, 48, 49, 50, 51, 52, 53, 54, 55, 56, 57, 58, 59] (by decide +kernel) (by decide +kernel)) (goodIn_sub (fun _ h => List.mem_cons_of_mem _ (List.mem_append_right _ h)) (by decide +kernel))
set_option maxRecDepth 20000 in
theorem gX6_rewire_X6_isAsked : GoodIn wsX6_rewire (wsV RX6 98 RX6 yX6_isAsked wsX6_isAsked) := goodIn_app (goodIn_of _ (by decide +kernel)) ggX6_rewire_X6_isAsked
theorem dX6_rewire_0 : decode cX6_rewire 0 = .ok (.aload_n 0, 1) := by decide +kernel
theorem dX6_rewire_1 : decode cX6_rewire 1 = .ok (.iload_n 1, 1) := by decide +kernel
theorem dX6_rewire_2 : decode cX6_rewire 2 = .ok (.iload_n 2, 1) := by decide +kernel
theorem dX6_rewire_3 : decode cX6_rewire 3 = .ok (.invokevirtual 98, 3) := by decide +kernel
theorem dX6_rewire_6 : decode cX6_rewire 6 = .ok (.ifCond .ne 5, 3) := by decide +kernel
theorem dX6_rewire_9 : decode cX6_rewire 9 = .ok (.iconst (-1), 1) := by decide +kernel
theorem dX6_rewire_10 : decode cX6_rewire 10 = .ok (.ireturn, 1) := by decide +kernel
set_option maxRecDepth 20000 in
theorem ggX6_swapPins_X6_isAsked : GoodIn wsX6_swapPins wsX6_isAsked := goodIn_ca (goodIn_r _ [6, 1, 7, 8, 5, 9, 10, 11, 12, 13, 14, 15, 16, 17, 18, 33, 34, 35, 36, 37, 38, 39, 40, 41, 42, 43, 44, 45, 46, 47, 48, 49, 50, 51] (by decide +kernel) (by decide +kernel)) (goodIn_sub (fun _ h => List.mem_cons_of_mem _ (List.mem_append_right _ h)) (by decide +kernel))
set_option maxRecDepth 20000 in
theorem gX6_swapPins_X6_isAsked : GoodIn wsX6_swapPins (wsV RX6 98 RX6 yX6_isAsked wsX6_isAsked) := goodIn_app (goodIn_of _ (by decide +kernel)) ggX6_swapPins_X6_isAsked
theorem dX6_swapPins_0 : decode cX6_swapPins 0 = .ok (.aload_n 0, 1) := by decide +kernel
theorem dX6_swapPins_1 : decode cX6_swapPins 1 = .ok (.iload_n 1, 1) := by decide +kernel
theorem dX6_swapPins_2 : decode cX6_swapPins 2 = .ok (.iload_n 2, 1) := by decide +kernel
theorem dX6_swapPins_3 : decode cX6_swapPins 3 = .ok (.invokevirtual 98, 3) := by decide +kernel
theorem dX6_swapPins_6 : decode cX6_swapPins 6 = .ok (.ifCond .ne 5, 3) := by decide +kernel
theorem dX6_swapPins_9 : decode cX6_swapPins 9 = .ok (.iconst (-1), 1) := by decide +kernel
theorem dX6_swapPins_10 : decode cX6_swapPins 10 = .ok (.ireturn, 1) := by decide +kernel
set_option maxRecDepth 20000 in
theorem ggX6_copyWished_X6_partMany : GoodIn wsX6_copyWished wsX6_partMany := goodIn_ca (goodIn_r _ [13, 3, 14, 15, 16, 12, 17, 7, 18, 19, 20, 21, 22, 23, 24, 25, 26, 27, 28, 29, 30, 31, 32, 33, 34, 35, 36, 37, 38, 39] (by decide +kernel) (by decide +kernel)) (goodIn_sub (fun _ h => List.mem_cons_of_mem _ (List.mem_append_right _ h)) (by decide +kernel))
set_option maxRecDepth 20000 in
theorem gX6_copyWished_X6_partMany : GoodIn wsX6_copyWished (wsV RX6 101 RX6 yX6_partMany wsX6_partMany) := goodIn_app (goodIn_of _ (by decide +kernel)) ggX6_copyWished_X6_partMany
theorem dX6_copyWished_0 : decode cX6_copyWished 0 = .ok (.aload_n 0, 1) := by decide +kernel
theorem dX6_copyWished_1 : decode cX6_copyWished 1 = .ok (.iconst 0, 1) := by decide +kernel
theorem dX6_copyWished_2 : decode cX6_copyWished 2 = .ok (.putfield 57, 3) := by decide +kernel
theorem dX6_copyWished_5 : decode cX6_copyWished 5 = .ok (.aload_n 0, 1) := by decide +kernel
theorem dX6_copyWished_6 : decode cX6_copyWished 6 = .ok (.getfield 7, 3) := by decide +kernel
theorem dX6_copyWished_9 : decode cX6_copyWished 9 = .ok (.iconst 1, 1) := by decide +kernel
theorem dX6_copyWished_10 : decode cX6_copyWished 10 = .ok (.aload_n 0, 1) := by decide +kernel
theorem dX6_copyWished_11 : decode cX6_copyWished 11 = .ok (.getfield 7, 3) := by decide +kernel
theorem dX6_copyWished_14 : decode cX6_copyWished 14 = .ok (.iconst 0, 1) := by decide +kernel
theorem dX6_copyWished_15 : decode cX6_copyWished 15 = .ok (.iaload, 1) := by decide +kernel
theorem dX6_copyWished_16 : decode cX6_copyWished 16 = .ok (.iastore, 1) := by decide +kernel
theorem dX6_copyWished_17 : decode cX6_copyWished 17 = .ok (.aload_n 0, 1) := by decide +kernel
theorem dX6_copyWished_18 : decode cX6_copyWished 18 = .ok (.getfield 13, 3) := by decide +kernel
theorem dX6_copyWished_21 : decode cX6_copyWished 21 = .ok (.iconst 1, 1) := by decide +kernel
theorem dX6_copyWished_22 : decode cX6_copyWished 22 = .ok (.aload_n 0, 1) := by decide +kernel
theorem dX6_copyWished_23 : decode cX6_copyWished 23 = .ok (.getfield 13, 3) := by decide +kernel
theorem dX6_copyWished_26 : decode cX6_copyWished 26 = .ok (.iconst 0, 1) := by decide +kernel
theorem dX6_copyWished_27 : decode cX6_copyWished 27 = .ok (.iaload, 1) := by decide +kernel
theorem dX6_copyWished_28 : decode cX6_copyWished 28 = .ok (.iastore, 1) := by decide +kernel
theorem dX6_copyWished_29 : decode cX6_copyWished 29 = .ok (.iconst 0, 1) := by decide +kernel
theorem dX6_copyWished_30 : decode cX6_copyWished 30 = .ok (.istore_n 1, 1) := by decide +kernel
theorem dX6_copyWished_31 : decode cX6_copyWished 31 = .ok (.iload_n 1, 1) := by decide +kernel
theorem dX6_copyWished_32 : decode cX6_copyWished 32 = .ok (.bipush 10, 2) := by decide +kernel
theorem dX6_copyWished_34 : decode cX6_copyWished 34 = .ok (.if_icmp .ge 69, 3) := by decide +kernel
theorem dX6_copyWished_37 : decode cX6_copyWished 37 = .ok (.aload_n 0, 1) := by decide +kernel
theorem dX6_copyWished_38 : decode cX6_copyWished 38 = .ok (.getfield 16, 3) := by decide +kernel
theorem dX6_copyWished_41 : decode cX6_copyWished 41 = .ok (.bipush 10, 2) := by decide +kernel
theorem dX6_copyWished_43 : decode cX6_copyWished 43 = .ok (.iload_n 1, 1) := by decide +kernel
theorem dX6_copyWished_44 : decode cX6_copyWished 44 = .ok (.iadd, 1) := by decide +kernel
theorem dX6_copyWished_45 : decode cX6_copyWished 45 = .ok (.aload_n 0, 1) := by decide +kernel
theorem dX6_copyWished_46 : decode cX6_copyWished 46 = .ok (.getfield 16, 3) := by decide +kernel
theorem dX6_copyWished_49 : decode cX6_copyWished 49 = .ok (.iload_n 1, 1) := by decide +kernel
theorem dX6_copyWished_50 : decode cX6_copyWished 50 = .ok (.caload, 1) := by decide +kernel
theorem dX6_copyWished_51 : decode cX6_copyWished 51 = .ok (.castore, 1) := by decide +kernel
theorem dX6_copyWished_52 : decode cX6_copyWished 52 = .ok (.aload_n 0, 1) := by decide +kernel
theorem dX6_copyWished_53 : decode cX6_copyWished 53 = .ok (.getfield 20, 3) := by decide +kernel
theorem dX6_copyWished_56 : decode cX6_copyWished 56 = .ok (.bipush 10, 2) := by decide +kernel
theorem dX6_copyWished_58 : decode cX6_copyWished 58 = .ok (.iload_n 1, 1) := by decide +kernel
theorem dX6_copyWished_59 : decode cX6_copyWished 59 = .ok (.iadd, 1) := by decide +kernel
theorem dX6_copyWished_60 : decode cX6_copyWished 60 = .ok (.aload_n 0, 1) := by decide +kernel
theorem dX6_copyWished_61 : decode cX6_copyWished 61 = .ok (.getfield 20, 3) := by decide +kernel
theorem dX6_copyWished_64 : decode cX6_copyWished 64 = .ok (.iload_n 1, 1) := by decide +kernel
theorem dX6_copyWished_65 : decode cX6_copyWished 65 = .ok (.caload, 1) := by decide +kernel
theorem dX6_copyWished_66 : decode cX6_copyWished 66 = .ok (.castore, 1) := by decide +kernel
theorem dX6_copyWished_67 : decode cX6_copyWished 67 = .ok (.aload_n 0, 1) := by decide +kernel
theorem dX6_copyWished_68 : decode cX6_copyWished 68 = .ok (.getfield 23, 3) := by decide +kernel
theorem dX6_copyWished_71 : decode cX6_copyWished 71 = .ok (.bipush 10, 2) := by decide +kernel
theorem dX6_copyWished_73 : decode cX6_copyWished 73 = .ok (.iload_n 1, 1) := by decide +kernel
theorem dX6_copyWished_74 : decode cX6_copyWished 74 = .ok (.iadd, 1) := by decide +kernel
theorem dX6_copyWished_75 : decode cX6_copyWished 75 = .ok (.aload_n 0, 1) := by decide +kernel
theorem dX6_copyWished_76 : decode cX6_copyWished 76 = .ok (.getfield 23, 3) := by decide +kernel
theorem dX6_copyWished_79 : decode cX6_copyWished 79 = .ok (.iload_n 1, 1) := by decide +kernel
theorem dX6_copyWished_80 : decode cX6_copyWished 80 = .ok (.iaload, 1) := by decide +kernel
theorem dX6_copyWished_81 : decode cX6_copyWished 81 = .ok (.iastore, 1) := by decide +kernel
theorem dX6_copyWished_82 : decode cX6_copyWished 82 = .ok (.aload_n 0, 1) := by decide +kernel
theorem dX6_copyWished_83 : decode cX6_copyWished 83 = .ok (.getfield 26, 3) := by decide +kernel
theorem dX6_copyWished_86 : decode cX6_copyWished 86 = .ok (.bipush 10, 2) := by decide +kernel
theorem dX6_copyWished_88 : decode cX6_copyWished 88 = .ok (.iload_n 1, 1) := by decide +kernel
theorem dX6_copyWished_89 : decode cX6_copyWished 89 = .ok (.iadd, 1) := by decide +kernel
theorem dX6_copyWished_90 : decode cX6_copyWished 90 = .ok (.aload_n 0, 1) := by decide +kernel
theorem dX6_copyWished_91 : decode cX6_copyWished 91 = .ok (.getfield 26, 3) := by decide +kernel
theorem dX6_copyWished_94 : decode cX6_copyWished 94 = .ok (.iload_n 1, 1) := by decide +kernel
theorem dX6_copyWished_95 : decode cX6_copyWished 95 = .ok (.baload, 1) := by decide +kernel
theorem dX6_copyWished_96 : decode cX6_copyWished 96 = .ok (.bastore, 1) := by decide +kernel
theorem dX6_copyWished_97 : decode cX6_copyWished 97 = .ok (.iinc 1 1, 3) := by decide +kernel
theorem dX6_copyWished_100 : decode cX6_copyWished 100 = .ok (.goto (-69), 3) := by decide +kernel
theorem dX6_copyWished_103 : decode cX6_copyWished 103 = .ok (.iconst 0, 1) := by decide +kernel
theorem dX6_copyWished_104 : decode cX6_copyWished 104 = .ok (.istore_n 1, 1) := by decide +kernel
theorem dX6_copyWished_105 : decode cX6_copyWished 105 = .ok (.iload_n 1, 1) := by decide +kernel
theorem dX6_copyWished_106 : decode cX6_copyWished 106 = .ok (.bipush 30, 2) := by decide +kernel
theorem dX6_copyWished_108 : decode cX6_copyWished 108 = .ok (.if_icmp .ge 24, 3) := by decide +kernel
theorem dX6_copyWished_111 : decode cX6_copyWished 111 = .ok (.aload_n 0, 1) := by decide +kernel
theorem dX6_copyWished_112 : decode cX6_copyWished 112 = .ok (.getfield 30, 3) := by decide +kernel
theorem dX6_copyWished_115 : decode cX6_copyWished 115 = .ok (.bipush 30, 2) := by decide +kernel
theorem dX6_copyWished_117 : decode cX6_copyWished 117 = .ok (.iload_n 1, 1) := by decide +kernel
theorem dX6_copyWished_118 : decode cX6_copyWished 118 = .ok (.iadd, 1) := by decide +kernel
theorem dX6_copyWished_119 : decode cX6_copyWished 119 = .ok (.aload_n 0, 1) := by decide +kernel
theorem dX6_copyWished_120 : decode cX6_copyWished 120 = .ok (.getfield 30, 3) := by decide +kernel
theorem dX6_copyWished_123 : decode cX6_copyWished 123 = .ok (.iload_n 1, 1) := by decide +kernel
theorem dX6_copyWished_124 : decode cX6_copyWished 124 = .ok (.iaload, 1) := by decide +kernel
theorem dX6_copyWished_125 : decode cX6_copyWished 125 = .ok (.iastore, 1) := by decide +kernel
theorem dX6_copyWished_126 : decode cX6_copyWished 126 = .ok (.iinc 1 1, 3) := by decide +kernel
theorem dX6_copyWished_129 : decode cX6_copyWished 129 = .ok (.goto (-24), 3) := by decide +kernel
theorem dX6_copyWished_132 : decode cX6_copyWished 132 = .ok (.aload_n 0, 1) := by decide +kernel
theorem dX6_copyWished_133 : decode cX6_copyWished 133 = .ok (.iconst 1, 1) := by decide +kernel
theorem dX6_copyWished_134 : decode cX6_copyWished 134 = .ok (.invokevirtual 101, 3) := by decide +kernel
theorem dX6_copyWished_137 : decode cX6_copyWished 137 = .ok (.ireturn, 1) := by decide +kernel
set_option maxRecDepth 20000 in
theorem ggX6_areAsked_X6_isCircuit : GoodIn wsX6_areAsked wsX6_isCircuit := goodIn_r _ [5] (by decide +kernel) (by decide +kernel)
set_option maxRecDepth 20000 in
theorem gX6_areAsked_X6_isCircuit : GoodIn wsX6_areAsked (va_wsS RX6 81 yX6_isCircuit wsX6_isCircuit) := goodIn_app (goodIn_of _ (by decide +kernel)) ggX6_areAsked_X6_isCircuit
set_option maxRecDepth 20000 in
theorem ggX6_areAsked_X6_isPart : GoodIn wsX6_areAsked wsX6_isPart := goodIn_ca (goodIn_r _ [9, 10, 11, 12, 13, 4, 14, 15, 16, 17, 18, 19, 20, 21, 22, 23, 24, 25, 26, 27, 28, 29, 30, 31, 32, 33] (by decide +kernel) (by decide +kernel)) (goodIn_sub (fun _ h => List.mem_cons_of_mem _ (List.mem_append_right _ h)) (by decide +kernel))
set_option maxRecDepth 20000 in
theorem gX6_areAsked_X6_isPart : GoodIn wsX6_areAsked (wsV RX6 73 RX6 yX6_isPart wsX6_isPart) := goodIn_app (goodIn_of _ (by decide +kernel)) ggX6_areAsked_X6_isPart
theorem dX6_areAsked_0 : decode cX6_areAsked 0 = .ok (.aload_n 0, 1) := by decide +kernel
theorem dX6_areAsked_1 : decode cX6_areAsked 1 = .ok (.iload_n 1, 1) := by decide +kernel
theorem dX6_areAsked_2 : decode cX6_areAsked 2 = .ok (.invokestatic 81, 3) := by decide +kernel
theorem dX6_areAsked_5 : decode cX6_areAsked 5 = .ok (.ifCond .ne 7, 3) := by decide +kernel
theorem dX6_areAsked_8 : decode cX6_areAsked 8 = .ok (.iconst 1, 1) := by decide +kernel
theorem dX6_areAsked_9 : decode cX6_areAsked 9 = .ok (.goto 26, 3) := by decide +kernel
theorem dX6_areAsked_12 : decode cX6_areAsked 12 = .ok (.aload_n 0, 1) := by decide +kernel
theorem dX6_areAsked_13 : decode cX6_areAsked 13 = .ok (.iload_n 1, 1) := by decide +kernel
theorem dX6_areAsked_14 : decode cX6_areAsked 14 = .ok (.iload_n 2, 1) := by decide +kernel
theorem dX6_areAsked_15 : decode cX6_areAsked 15 = .ok (.invokevirtual 73, 3) := by decide +kernel
theorem dX6_areAsked_18 : decode cX6_areAsked 18 = .ok (.ifCond .eq 12, 3) := by decide +kernel
theorem dX6_areAsked_30 : decode cX6_areAsked 30 = .ok (.iconst 2, 1) := by decide +kernel
theorem dX6_areAsked_31 : decode cX6_areAsked 31 = .ok (.goto 4, 3) := by decide +kernel
theorem dX6_areAsked_35 : decode cX6_areAsked 35 = .ok (.putfield 57, 3) := by decide +kernel
theorem dX6_areAsked_38 : decode cX6_areAsked 38 = .ok (.aload_n 0, 1) := by decide +kernel
theorem dX6_areAsked_39 : decode cX6_areAsked 39 = .ok (.getfield 57, 3) := by decide +kernel
theorem dX6_areAsked_42 : decode cX6_areAsked 42 = .ok (.ifCond .ne 7, 3) := by decide +kernel
theorem dX6_areAsked_49 : decode cX6_areAsked 49 = .ok (.iconst 0, 1) := by decide +kernel
theorem dX6_areAsked_50 : decode cX6_areAsked 50 = .ok (.ireturn, 1) := by decide +kernel
set_option maxRecDepth 20000 in
theorem ggX6_canJoin_X6_areAsked : GoodIn wsX6_canJoin wsX6_areAsked := goodIn_ca (goodIn_r _ [5, 6, 7, 8, 4, 9, 10, 11, 12, 13, 14, 15, 16, 17, 18, 58, 59, 60, 61, 62, 63, 64, 65, 66, 67, 68, 69, 70, 71, 72, 73, 74, 75, 76] (by decide +kernel) (by decide +kernel)) (goodIn_sub (fun _ h => List.mem_cons_of_mem _ (List.mem_append_right _ h)) (by decide +kernel))
set_option maxRecDepth 20000 in
theorem gX6_canJoin_X6_areAsked : GoodIn wsX6_canJoin (wsV RX6 125 RX6 yX6_areAsked wsX6_areAsked) := goodIn_app (goodIn_of _ (by decide +kernel)) ggX6_canJoin_X6_areAsked
theorem dX6_canJoin_0 : decode cX6_canJoin 0 = .ok (.aload_n 0, 1) := by decide +kernel
theorem dX6_canJoin_1 : decode cX6_canJoin 1 = .ok (.iload_n 1, 1) := by decide +kernel
theorem dX6_canJoin_2 : decode cX6_canJoin 2 = .ok (.iload_n 2, 1) := by decide +kernel
theorem dX6_canJoin_3 : decode cX6_canJoin 3 = .ok (.iload_n 3, 1) := by decide +kernel
theorem dX6_canJoin_4 : decode cX6_canJoin 4 = .ok (.invokevirtual 125, 3) := by decide +kernel
theorem dX6_canJoin_7 : decode cX6_canJoin 7 = .ok (.ifCond .eq 13, 3) := by decide +kernel
theorem dX6_canJoin_20 : decode cX6_canJoin 20 = .ok (.bipush 32, 2) := by decide +kernel
theorem dX6_canJoin_22 : decode cX6_canJoin 22 = .ok (.ireturn, 1) := by decide +kernel
set_option maxRecDepth 20000 in
theorem ggX6_join_X6_areAsked : GoodIn wsX6_join wsX6_areAsked := goodIn_ca (goodIn_r _ [13, 1, 14, 15, 12, 16, 17, 18, 19, 20, 21, 22, 23, 24, 25, 78, 79, 80, 81, 82, 83, 84, 85, 86, 87, 88, 89, 90, 91, 92, 93, 94, 95, 96] (by decide +kernel) (by decide +kernel)) (goodIn_sub (fun _ h => List.mem_cons_of_mem _ (List.mem_append_left _ (List.mem_append_right _ h))) (by decide +kernel))
set_option maxRecDepth 20000 in
theorem gX6_join_X6_areAsked : GoodIn wsX6_join (wsV RX6 125 RX6 yX6_areAsked wsX6_areAsked) := goodIn_app (goodIn_of _ (by decide +kernel)) ggX6_join_X6_areAsked
theorem dX6_join_0 : decode cX6_join 0 = .ok (.aload_n 0, 1) := by decide +kernel
theorem dX6_join_1 : decode cX6_join 1 = .ok (.iload_n 1, 1) := by decide +kernel
theorem dX6_join_2 : decode cX6_join 2 = .ok (.iload_n 2, 1) := by decide +kernel
theorem dX6_join_3 : decode cX6_join 3 = .ok (.iload_n 3, 1) := by decide +kernel
theorem dX6_join_4 : decode cX6_join 4 = .ok (.invokevirtual 125, 3) := by decide +kernel
theorem dX6_join_7 : decode cX6_join 7 = .ok (.ifCond .ne 5, 3) := by decide +kernel
theorem dX6_join_10 : decode cX6_join 10 = .ok (.iconst (-1), 1) := by decide +kernel
theorem dX6_join_11 : decode cX6_join 11 = .ok (.ireturn, 1) := by decide +kernel
set_option maxRecDepth 20000 in
theorem ggX6_joinAll_X6_isCircuit : GoodIn wsX6_joinAll wsX6_isCircuit := goodIn_r _ [5] (by decide +kernel) (by decide +kernel)
set_option maxRecDepth 20000 in
theorem gX6_joinAll_X6_isCircuit : GoodIn wsX6_joinAll (va_wsS RX6 81 yX6_isCircuit wsX6_isCircuit) := goodIn_app (goodIn_of _ (by decide +kernel)) ggX6_joinAll_X6_isCircuit
set_option maxRecDepth 20000 in
theorem ggX6_joinAll_X6_firstPair : GoodIn wsX6_joinAll wsX6_firstPair := goodIn_ca (goodIn_r _ [9, 10, 11, 12, 13, 4, 14, 15, 16, 17, 18, 19, 20, 21, 22, 23, 24, 25, 26, 27, 28, 29, 30, 31, 32, 33, 34, 35, 36, 37, 38, 39, 40, 41, 42, 43, 44, 45, 46, 47, 48, 49, 50, 51, 52, 53, 54, 55, 56, 57, 78, 79, 80, 81, 82, 83, 84, 85, 86, 87, 88, 89, 90, 91, 92, 93, 94, 95, 96] (by decide +kernel) (by decide +kernel)) (goodIn_sub (fun _ h => List.mem_cons_of_mem _ (List.mem_append_left _ (List.mem_append_right _ h))) (by decide +kernel))
set_option maxRecDepth 20000 in
theorem gX6_joinAll_X6_firstPair : GoodIn wsX6_joinAll (wsV RX6 143 RX6 yX6_firstPair wsX6_firstPair) := goodIn_app (goodIn_of _ (by decide +kernel)) ggX6_joinAll_X6_firstPair
theorem dX6_joinAll_0 : decode cX6_joinAll 0 = .ok (.aload_n 0, 1) := by decide +kernel
theorem dX6_joinAll_1 : decode cX6_joinAll 1 = .ok (.iload_n 1, 1) := by decide +kernel
theorem dX6_joinAll_2 : decode cX6_joinAll 2 = .ok (.invokestatic 81, 3) := by decide +kernel
theorem dX6_joinAll_5 : decode cX6_joinAll 5 = .ok (.ifCond .eq 7, 3) := by decide +kernel
theorem dX6_joinAll_8 : decode cX6_joinAll 8 = .ok (.iconst 0, 1) := by decide +kernel
theorem dX6_joinAll_9 : decode cX6_joinAll 9 = .ok (.goto 4, 3) := by decide +kernel
theorem dX6_joinAll_12 : decode cX6_joinAll 12 = .ok (.iconst 1, 1) := by decide +kernel
theorem dX6_joinAll_13 : decode cX6_joinAll 13 = .ok (.putfield 57, 3) := by decide +kernel
theorem dX6_joinAll_16 : decode cX6_joinAll 16 = .ok (.aload_n 0, 1) := by decide +kernel
theorem dX6_joinAll_17 : decode cX6_joinAll 17 = .ok (.getfield 57, 3) := by decide +kernel
theorem dX6_joinAll_20 : decode cX6_joinAll 20 = .ok (.ifCond .ne 7, 3) := by decide +kernel
theorem dX6_joinAll_23 : decode cX6_joinAll 23 = .ok (.iconst 0, 1) := by decide +kernel
theorem dX6_joinAll_24 : decode cX6_joinAll 24 = .ok (.goto 4, 3) := by decide +kernel
theorem dX6_joinAll_27 : decode cX6_joinAll 27 = .ok (.iconst (-1), 1) := by decide +kernel
theorem dX6_joinAll_28 : decode cX6_joinAll 28 = .ok (.istore_n 2, 1) := by decide +kernel
theorem dX6_joinAll_29 : decode cX6_joinAll 29 = .ok (.aload_n 0, 1) := by decide +kernel
theorem dX6_joinAll_30 : decode cX6_joinAll 30 = .ok (.getfield 57, 3) := by decide +kernel
theorem dX6_joinAll_33 : decode cX6_joinAll 33 = .ok (.ifCond .ne 38, 3) := by decide +kernel
theorem dX6_joinAll_36 : decode cX6_joinAll 36 = .ok (.aload_n 0, 1) := by decide +kernel
theorem dX6_joinAll_37 : decode cX6_joinAll 37 = .ok (.iload_n 1, 1) := by decide +kernel
theorem dX6_joinAll_38 : decode cX6_joinAll 38 = .ok (.invokevirtual 143, 3) := by decide +kernel
theorem dX6_joinAll_41 : decode cX6_joinAll 41 = .ok (.iconst (-1), 1) := by decide +kernel
theorem dX6_joinAll_42 : decode cX6_joinAll 42 = .ok (.if_icmp .eq 29, 3) := by decide +kernel
theorem dX6_joinAll_71 : decode cX6_joinAll 71 = .ok (.iload_n 2, 1) := by decide +kernel
theorem dX6_joinAll_72 : decode cX6_joinAll 72 = .ok (.ireturn, 1) := by decide +kernel
set_option maxRecDepth 20000 in
theorem ggX6_nets_X6_isCircuit : GoodIn wsX6_nets wsX6_isCircuit := goodIn_r _ [6] (by decide +kernel) (by decide +kernel)
set_option maxRecDepth 20000 in
theorem gX6_nets_X6_isCircuit : GoodIn wsX6_nets (va_wsS RX6 81 yX6_isCircuit wsX6_isCircuit) := goodIn_app (goodIn_of _ (by decide +kernel)) ggX6_nets_X6_isCircuit
theorem dX6_nets_0 : decode cX6_nets 0 = .ok (.aload_n 0, 1) := by decide +kernel
theorem dX6_nets_1 : decode cX6_nets 1 = .ok (.iload_n 1, 1) := by decide +kernel
theorem dX6_nets_2 : decode cX6_nets 2 = .ok (.invokestatic 81, 3) := by decide +kernel
theorem dX6_nets_5 : decode cX6_nets 5 = .ok (.ifCond .eq 7, 3) := by decide +kernel
theorem dX6_nets_8 : decode cX6_nets 8 = .ok (.iconst 0, 1) := by decide +kernel
theorem dX6_nets_9 : decode cX6_nets 9 = .ok (.goto 4, 3) := by decide +kernel
theorem dX6_nets_12 : decode cX6_nets 12 = .ok (.iconst 1, 1) := by decide +kernel
theorem dX6_nets_13 : decode cX6_nets 13 = .ok (.putfield 57, 3) := by decide +kernel
theorem dX6_nets_16 : decode cX6_nets 16 = .ok (.aload_n 0, 1) := by decide +kernel
theorem dX6_nets_17 : decode cX6_nets 17 = .ok (.getfield 57, 3) := by decide +kernel
theorem dX6_nets_20 : decode cX6_nets 20 = .ok (.ifCond .ne 12, 3) := by decide +kernel
theorem dX6_nets_23 : decode cX6_nets 23 = .ok (.aload_n 0, 1) := by decide +kernel
theorem dX6_nets_24 : decode cX6_nets 24 = .ok (.getfield 7, 3) := by decide +kernel
theorem dX6_nets_27 : decode cX6_nets 27 = .ok (.iload_n 1, 1) := by decide +kernel
theorem dX6_nets_28 : decode cX6_nets 28 = .ok (.iaload, 1) := by decide +kernel
theorem dX6_nets_29 : decode cX6_nets 29 = .ok (.goto 4, 3) := by decide +kernel
theorem dX6_nets_32 : decode cX6_nets 32 = .ok (.iconst (-1), 1) := by decide +kernel
theorem dX6_nets_33 : decode cX6_nets 33 = .ok (.ireturn, 1) := by decide +kernel
set_option maxRecDepth 20000 in
theorem ggX6_parts_X6_isCircuit : GoodIn wsX6_parts wsX6_isCircuit := goodIn_r _ [5] (by decide +kernel) (by decide +kernel)
set_option maxRecDepth 20000 in
theorem gX6_parts_X6_isCircuit : GoodIn wsX6_parts (va_wsS RX6 81 yX6_isCircuit wsX6_isCircuit) := goodIn_app (goodIn_of _ (by decide +kernel)) ggX6_parts_X6_isCircuit
set_option maxRecDepth 20000 in
theorem ggX6_parts_X6_partMany : GoodIn wsX6_parts wsX6_partMany := goodIn_ca (goodIn_r _ [9, 10, 11, 12, 13, 4, 14, 15, 16, 17, 18, 19, 20, 21, 22, 23, 24, 25, 26, 27, 28, 29, 30, 31, 32, 33, 34, 35, 36, 37] (by decide +kernel) (by decide +kernel)) (goodIn_sub (fun _ h => List.mem_cons_of_mem _ (List.mem_append_right _ h)) (by decide +kernel))
set_option maxRecDepth 20000 in
theorem gX6_parts_X6_partMany : GoodIn wsX6_parts (wsV RX6 101 RX6 yX6_partMany wsX6_partMany) := goodIn_app (goodIn_of _ (by decide +kernel)) ggX6_parts_X6_partMany
theorem dX6_parts_0 : decode cX6_parts 0 = .ok (.aload_n 0, 1) := by decide +kernel
theorem dX6_parts_1 : decode cX6_parts 1 = .ok (.iload_n 1, 1) := by decide +kernel
theorem dX6_parts_2 : decode cX6_parts 2 = .ok (.invokestatic 81, 3) := by decide +kernel
theorem dX6_parts_5 : decode cX6_parts 5 = .ok (.ifCond .eq 7, 3) := by decide +kernel
theorem dX6_parts_8 : decode cX6_parts 8 = .ok (.iconst 0, 1) := by decide +kernel
theorem dX6_parts_9 : decode cX6_parts 9 = .ok (.goto 4, 3) := by decide +kernel
theorem dX6_parts_12 : decode cX6_parts 12 = .ok (.iconst 1, 1) := by decide +kernel
theorem dX6_parts_13 : decode cX6_parts 13 = .ok (.putfield 57, 3) := by decide +kernel
theorem dX6_parts_16 : decode cX6_parts 16 = .ok (.aload_n 0, 1) := by decide +kernel
theorem dX6_parts_17 : decode cX6_parts 17 = .ok (.getfield 57, 3) := by decide +kernel
theorem dX6_parts_20 : decode cX6_parts 20 = .ok (.ifCond .ne 11, 3) := by decide +kernel
theorem dX6_parts_23 : decode cX6_parts 23 = .ok (.aload_n 0, 1) := by decide +kernel
theorem dX6_parts_24 : decode cX6_parts 24 = .ok (.iload_n 1, 1) := by decide +kernel
theorem dX6_parts_25 : decode cX6_parts 25 = .ok (.invokevirtual 101, 3) := by decide +kernel
theorem dX6_parts_28 : decode cX6_parts 28 = .ok (.goto 4, 3) := by decide +kernel
theorem dX6_parts_31 : decode cX6_parts 31 = .ok (.iconst (-1), 1) := by decide +kernel
theorem dX6_parts_32 : decode cX6_parts 32 = .ok (.ireturn, 1) := by decide +kernel
set_option maxRecDepth 20000 in
theorem ggX6_kindOf_X6_isAsked : GoodIn wsX6_kindOf wsX6_isAsked := goodIn_ca (goodIn_r _ [5, 6, 7, 8, 4, 9, 10, 11, 12, 13, 14, 15, 16, 17, 18, 24, 25, 26, 27, 28, 29, 30, 31, 32, 33, 34, 35, 36, 37, 38, 39, 40, 41, 42] (by decide +kernel) (by decide +kernel)) (goodIn_sub (fun _ h => List.mem_cons_of_mem _ (List.mem_append_right _ h)) (by decide +kernel))
set_option maxRecDepth 20000 in
theorem gX6_kindOf_X6_isAsked : GoodIn wsX6_kindOf (wsV RX6 98 RX6 yX6_isAsked wsX6_isAsked) := goodIn_app (goodIn_of _ (by decide +kernel)) ggX6_kindOf_X6_isAsked
theorem dX6_kindOf_0 : decode cX6_kindOf 0 = .ok (.aload_n 0, 1) := by decide +kernel
theorem dX6_kindOf_1 : decode cX6_kindOf 1 = .ok (.iload_n 1, 1) := by decide +kernel
theorem dX6_kindOf_2 : decode cX6_kindOf 2 = .ok (.iload_n 2, 1) := by decide +kernel
theorem dX6_kindOf_3 : decode cX6_kindOf 3 = .ok (.invokevirtual 98, 3) := by decide +kernel
theorem dX6_kindOf_6 : decode cX6_kindOf 6 = .ok (.ifCond .eq 12, 3) := by decide +kernel
theorem dX6_kindOf_18 : decode cX6_kindOf 18 = .ok (.bipush 32, 2) := by decide +kernel
theorem dX6_kindOf_20 : decode cX6_kindOf 20 = .ok (.ireturn, 1) := by decide +kernel
set_option maxRecDepth 20000 in
theorem ggX6_valueOf_X6_isAsked : GoodIn wsX6_valueOf wsX6_isAsked := goodIn_ca (goodIn_r _ [5, 6, 7, 8, 4, 9, 10, 11, 12, 13, 14, 15, 16, 17, 18, 24, 25, 26, 27, 28, 29, 30, 31, 32, 33, 34, 35, 36, 37, 38, 39, 40, 41, 42] (by decide +kernel) (by decide +kernel)) (goodIn_sub (fun _ h => List.mem_cons_of_mem _ (List.mem_append_right _ h)) (by decide +kernel))
set_option maxRecDepth 20000 in
theorem gX6_valueOf_X6_isAsked : GoodIn wsX6_valueOf (wsV RX6 98 RX6 yX6_isAsked wsX6_isAsked) := goodIn_app (goodIn_of _ (by decide +kernel)) ggX6_valueOf_X6_isAsked
theorem dX6_valueOf_0 : decode cX6_valueOf 0 = .ok (.aload_n 0, 1) := by decide +kernel
theorem dX6_valueOf_1 : decode cX6_valueOf 1 = .ok (.iload_n 1, 1) := by decide +kernel
theorem dX6_valueOf_2 : decode cX6_valueOf 2 = .ok (.iload_n 2, 1) := by decide +kernel
theorem dX6_valueOf_3 : decode cX6_valueOf 3 = .ok (.invokevirtual 98, 3) := by decide +kernel
theorem dX6_valueOf_6 : decode cX6_valueOf 6 = .ok (.ifCond .eq 12, 3) := by decide +kernel
theorem dX6_valueOf_18 : decode cX6_valueOf 18 = .ok (.iconst (-1), 1) := by decide +kernel
theorem dX6_valueOf_19 : decode cX6_valueOf 19 = .ok (.ireturn, 1) := by decide +kernel
set_option maxRecDepth 20000 in
theorem ggX6_netOf_X6_isAsked : GoodIn wsX6_netOf wsX6_isAsked := goodIn_ca (goodIn_r _ [6, 1, 7, 8, 5, 9, 10, 11, 12, 13, 14, 15, 16, 17, 18, 32, 33, 34, 35, 36, 37, 38, 39, 40, 41, 42, 43, 44, 45, 46, 47, 48, 49, 50] (by decide +kernel) (by decide +kernel)) (goodIn_sub (fun _ h => List.mem_cons_of_mem _ (List.mem_append_right _ h)) (by decide +kernel))
set_option maxRecDepth 20000 in
theorem gX6_netOf_X6_isAsked : GoodIn wsX6_netOf (wsV RX6 98 RX6 yX6_isAsked wsX6_isAsked) := goodIn_app (goodIn_of _ (by decide +kernel)) ggX6_netOf_X6_isAsked
theorem dX6_netOf_0 : decode cX6_netOf 0 = .ok (.aload_n 0, 1) := by decide +kernel
theorem dX6_netOf_1 : decode cX6_netOf 1 = .ok (.iload_n 1, 1) := by decide +kernel
theorem dX6_netOf_2 : decode cX6_netOf 2 = .ok (.iload_n 2, 1) := by decide +kernel
theorem dX6_netOf_3 : decode cX6_netOf 3 = .ok (.invokevirtual 98, 3) := by decide +kernel
theorem dX6_netOf_6 : decode cX6_netOf 6 = .ok (.ifCond .ne 5, 3) := by decide +kernel
theorem dX6_netOf_9 : decode cX6_netOf 9 = .ok (.iconst (-1), 1) := by decide +kernel
theorem dX6_netOf_10 : decode cX6_netOf 10 = .ok (.ireturn, 1) := by decide +kernel
set_option maxRecDepth 20000 in
theorem ggX6_isNetAsked_X6_isCircuit : GoodIn wsX6_isNetAsked wsX6_isCircuit := goodIn_r _ [5] (by decide +kernel) (by decide +kernel)
set_option maxRecDepth 20000 in
theorem gX6_isNetAsked_X6_isCircuit : GoodIn wsX6_isNetAsked (va_wsS RX6 81 yX6_isCircuit wsX6_isCircuit) := goodIn_app (goodIn_of _ (by decide +kernel)) ggX6_isNetAsked_X6_isCircuit
set_option maxRecDepth 20000 in
theorem ggX6_isNetAsked_X6_isNet : GoodIn wsX6_isNetAsked wsX6_isNet := goodIn_ca (goodIn_r _ [9, 10, 11, 12, 4, 13, 14, 15, 16, 17, 18, 19, 20, 21, 22, 23, 24, 25, 26, 27, 28, 29, 30, 31, 32] (by decide +kernel) (by decide +kernel)) (goodIn_sub (fun _ h => List.mem_cons_of_mem _ (List.mem_append_right _ h)) (by decide +kernel))
set_option maxRecDepth 20000 in
theorem gX6_isNetAsked_X6_isNet : GoodIn wsX6_isNetAsked (wsV RX6 89 RX6 yX6_isNet wsX6_isNet) := goodIn_app (goodIn_of _ (by decide +kernel)) ggX6_isNetAsked_X6_isNet
theorem dX6_isNetAsked_0 : decode cX6_isNetAsked 0 = .ok (.aload_n 0, 1) := by decide +kernel
theorem dX6_isNetAsked_1 : decode cX6_isNetAsked 1 = .ok (.iload_n 1, 1) := by decide +kernel
theorem dX6_isNetAsked_2 : decode cX6_isNetAsked 2 = .ok (.invokestatic 81, 3) := by decide +kernel
theorem dX6_isNetAsked_5 : decode cX6_isNetAsked 5 = .ok (.ifCond .ne 7, 3) := by decide +kernel
theorem dX6_isNetAsked_8 : decode cX6_isNetAsked 8 = .ok (.iconst 1, 1) := by decide +kernel
theorem dX6_isNetAsked_9 : decode cX6_isNetAsked 9 = .ok (.goto 17, 3) := by decide +kernel
theorem dX6_isNetAsked_12 : decode cX6_isNetAsked 12 = .ok (.aload_n 0, 1) := by decide +kernel
theorem dX6_isNetAsked_13 : decode cX6_isNetAsked 13 = .ok (.iload_n 1, 1) := by decide +kernel
theorem dX6_isNetAsked_14 : decode cX6_isNetAsked 14 = .ok (.iload_n 2, 1) := by decide +kernel
theorem dX6_isNetAsked_15 : decode cX6_isNetAsked 15 = .ok (.invokevirtual 89, 3) := by decide +kernel
theorem dX6_isNetAsked_18 : decode cX6_isNetAsked 18 = .ok (.ifCond .ne 7, 3) := by decide +kernel
theorem dX6_isNetAsked_21 : decode cX6_isNetAsked 21 = .ok (.iconst 2, 1) := by decide +kernel
theorem dX6_isNetAsked_22 : decode cX6_isNetAsked 22 = .ok (.goto 4, 3) := by decide +kernel
theorem dX6_isNetAsked_26 : decode cX6_isNetAsked 26 = .ok (.putfield 57, 3) := by decide +kernel
theorem dX6_isNetAsked_29 : decode cX6_isNetAsked 29 = .ok (.aload_n 0, 1) := by decide +kernel
theorem dX6_isNetAsked_30 : decode cX6_isNetAsked 30 = .ok (.getfield 57, 3) := by decide +kernel
theorem dX6_isNetAsked_33 : decode cX6_isNetAsked 33 = .ok (.ifCond .ne 7, 3) := by decide +kernel
theorem dX6_isNetAsked_40 : decode cX6_isNetAsked 40 = .ok (.iconst 0, 1) := by decide +kernel
theorem dX6_isNetAsked_41 : decode cX6_isNetAsked 41 = .ok (.ireturn, 1) := by decide +kernel
set_option maxRecDepth 20000 in
theorem ggX6_pinsOn_X6_isNetAsked : GoodIn wsX6_pinsOn wsX6_isNetAsked := goodIn_ca (goodIn_r _ [5, 6, 7, 8, 4, 9, 10, 11, 12, 13, 14, 15, 16, 17, 41, 42, 43, 44, 45, 46, 47, 48, 49, 50, 51, 52, 53, 54, 55, 56, 57, 58, 59] (by decide +kernel) (by decide +kernel)) (goodIn_sub (fun _ h => List.mem_cons_of_mem _ (List.mem_append_right _ h)) (by decide +kernel))
set_option maxRecDepth 20000 in
theorem gX6_pinsOn_X6_isNetAsked : GoodIn wsX6_pinsOn (wsV RX6 146 RX6 yX6_isNetAsked wsX6_isNetAsked) := goodIn_app (goodIn_of _ (by decide +kernel)) ggX6_pinsOn_X6_isNetAsked
theorem dX6_pinsOn_0 : decode cX6_pinsOn 0 = .ok (.aload_n 0, 1) := by decide +kernel
theorem dX6_pinsOn_1 : decode cX6_pinsOn 1 = .ok (.iload_n 1, 1) := by decide +kernel
theorem dX6_pinsOn_2 : decode cX6_pinsOn 2 = .ok (.iload_n 2, 1) := by decide +kernel
theorem dX6_pinsOn_3 : decode cX6_pinsOn 3 = .ok (.invokevirtual 146, 3) := by decide +kernel
theorem dX6_pinsOn_6 : decode cX6_pinsOn 6 = .ok (.ifCond .eq 12, 3) := by decide +kernel
theorem dX6_pinsOn_18 : decode cX6_pinsOn 18 = .ok (.iconst (-1), 1) := by decide +kernel
theorem dX6_pinsOn_19 : decode cX6_pinsOn 19 = .ok (.ireturn, 1) := by decide +kernel
set_option maxRecDepth 20000 in
theorem ggX6_portOf_X6_isNetAsked : GoodIn wsX6_portOf wsX6_isNetAsked := goodIn_ca (goodIn_r _ [6, 7, 8, 9, 5, 10, 11, 12, 13, 14, 15, 16, 17, 18, 19, 20, 21, 22, 23, 24, 25, 26, 27, 28, 29, 30, 31, 32, 33, 34, 35, 36, 37] (by decide +kernel) (by decide +kernel)) (goodIn_sub (fun _ h => List.mem_cons_of_mem _ (List.mem_append_right _ h)) (by decide +kernel))
set_option maxRecDepth 20000 in
theorem gX6_portOf_X6_isNetAsked : GoodIn wsX6_portOf (wsV RX6 146 RX6 yX6_isNetAsked wsX6_isNetAsked) := goodIn_app (goodIn_of _ (by decide +kernel)) ggX6_portOf_X6_isNetAsked
theorem dX6_portOf_0 : decode cX6_portOf 0 = .ok (.aload_n 0, 1) := by decide +kernel
theorem dX6_portOf_1 : decode cX6_portOf 1 = .ok (.iload_n 1, 1) := by decide +kernel
theorem dX6_portOf_2 : decode cX6_portOf 2 = .ok (.iload_n 2, 1) := by decide +kernel
theorem dX6_portOf_3 : decode cX6_portOf 3 = .ok (.invokevirtual 146, 3) := by decide +kernel
theorem dX6_portOf_6 : decode cX6_portOf 6 = .ok (.ifCond .eq 17, 3) := by decide +kernel
theorem dX6_portOf_23 : decode cX6_portOf 23 = .ok (.bipush 32, 2) := by decide +kernel
theorem dX6_portOf_25 : decode cX6_portOf 25 = .ok (.ireturn, 1) := by decide +kernel
set_option maxRecDepth 20000 in
theorem ggX6_distance_X6_isNetAsked : GoodIn wsX6_distance wsX6_isNetAsked := goodIn_ca (goodIn_r _ [5, 6, 7, 8, 4, 9, 10, 11, 12, 13, 14, 15, 16, 17, 51, 52, 53, 54, 55, 56, 57, 58, 59, 60, 61, 62, 63, 64, 65, 66, 67, 68, 69] (by decide +kernel) (by decide +kernel)) (goodIn_sub (fun _ h => List.mem_cons_of_mem _ (List.mem_append_right _ h)) (by decide +kernel))
set_option maxRecDepth 20000 in
theorem gX6_distance_X6_isNetAsked : GoodIn wsX6_distance (wsV RX6 146 RX6 yX6_isNetAsked wsX6_isNetAsked) := goodIn_app (goodIn_of _ (by decide +kernel)) ggX6_distance_X6_isNetAsked
theorem dX6_distance_0 : decode cX6_distance 0 = .ok (.aload_n 0, 1) := by decide +kernel
theorem dX6_distance_1 : decode cX6_distance 1 = .ok (.iload_n 1, 1) := by decide +kernel
theorem dX6_distance_2 : decode cX6_distance 2 = .ok (.iload_n 2, 1) := by decide +kernel
theorem dX6_distance_3 : decode cX6_distance 3 = .ok (.invokevirtual 146, 3) := by decide +kernel
theorem dX6_distance_6 : decode cX6_distance 6 = .ok (.ifCond .eq 12, 3) := by decide +kernel
theorem dX6_distance_18 : decode cX6_distance 18 = .ok (.iconst (-1), 1) := by decide +kernel
theorem dX6_distance_19 : decode cX6_distance 19 = .ok (.ireturn, 1) := by decide +kernel
set_option maxRecDepth 20000 in
theorem ggX6_labelLength_X6_isAsked : GoodIn wsX6_labelLength wsX6_isAsked := goodIn_ca (goodIn_r _ [5, 6, 7, 8, 4, 9, 10, 11, 12, 13, 14, 15, 16, 17, 18, 266, 267, 268, 269, 270, 271, 272, 273, 274, 275, 276, 277, 278, 279, 280, 281, 282, 283, 284] (by decide +kernel) (by decide +kernel)) (goodIn_sub (fun _ h => List.mem_cons_of_mem _ (List.mem_append_right _ h)) (by decide +kernel))
set_option maxRecDepth 20000 in
theorem gX6_labelLength_X6_isAsked : GoodIn wsX6_labelLength (wsV RX6 98 RX6 yX6_isAsked wsX6_isAsked) := goodIn_app (goodIn_of _ (by decide +kernel)) ggX6_labelLength_X6_isAsked
theorem dX6_labelLength_0 : decode cX6_labelLength 0 = .ok (.aload_n 0, 1) := by decide +kernel
theorem dX6_labelLength_1 : decode cX6_labelLength 1 = .ok (.iload_n 1, 1) := by decide +kernel
theorem dX6_labelLength_2 : decode cX6_labelLength 2 = .ok (.iload_n 2, 1) := by decide +kernel
theorem dX6_labelLength_3 : decode cX6_labelLength 3 = .ok (.invokevirtual 98, 3) := by decide +kernel
theorem dX6_labelLength_6 : decode cX6_labelLength 6 = .ok (.ifCond .eq 15, 3) := by decide +kernel
theorem dX6_labelLength_21 : decode cX6_labelLength 21 = .ok (.iconst (-1), 1) := by decide +kernel
theorem dX6_labelLength_22 : decode cX6_labelLength 22 = .ok (.ireturn, 1) := by decide +kernel
set_option maxRecDepth 20000 in
theorem ggX6_labelAt_X6_isAsked : GoodIn wsX6_labelAt wsX6_isAsked := goodIn_ca (goodIn_r _ [6, 1, 7, 8, 5, 9, 10, 11, 12, 13, 14, 15, 16, 17, 18, 281, 282, 283, 284, 285, 286, 287, 288, 289, 290, 291, 292, 293, 294, 295, 296, 297, 298, 299] (by decide +kernel) (by decide +kernel)) (goodIn_sub (fun _ h => List.mem_cons_of_mem _ (List.mem_append_right _ h)) (by decide +kernel))
set_option maxRecDepth 20000 in
theorem gX6_labelAt_X6_isAsked : GoodIn wsX6_labelAt (wsV RX6 98 RX6 yX6_isAsked wsX6_isAsked) := goodIn_app (goodIn_of _ (by decide +kernel)) ggX6_labelAt_X6_isAsked
theorem dX6_labelAt_0 : decode cX6_labelAt 0 = .ok (.aload_n 0, 1) := by decide +kernel
theorem dX6_labelAt_1 : decode cX6_labelAt 1 = .ok (.iload_n 1, 1) := by decide +kernel
theorem dX6_labelAt_2 : decode cX6_labelAt 2 = .ok (.iload_n 2, 1) := by decide +kernel
theorem dX6_labelAt_3 : decode cX6_labelAt 3 = .ok (.invokevirtual 98, 3) := by decide +kernel
theorem dX6_labelAt_6 : decode cX6_labelAt 6 = .ok (.ifCond .ne 6, 3) := by decide +kernel
theorem dX6_labelAt_9 : decode cX6_labelAt 9 = .ok (.bipush 32, 2) := by decide +kernel
theorem dX6_labelAt_11 : decode cX6_labelAt 11 = .ok (.ireturn, 1) := by decide +kernel
set_option maxRecDepth 20000 in
theorem ggX6_rounds_X6_colours : GoodIn wsX6_rounds wsX6_colours := goodIn_ca (goodIn_r _ [7, 8, 9, 10, 11, 12, 2, 13, 14, 15, 16, 17, 6, 18, 19, 20, 21, 22, 23, 24, 25, 26, 27, 28, 29, 30, 31, 32, 33, 34, 35, 36, 37, 38, 39, 40, 41, 42, 43, 44, 45, 46, 47, 48, 49, 50, 51, 52, 53, 54, 55, 56, 57, 58, 59, 60, 61, 62, 63, 64, 65, 66, 67, 68, 69, 70, 71, 72, 73, 74, 75, 76, 77, 78, 79, 80, 81, 82, 83, 84, 85, 86, 87, 88, 89, 90, 91, 92, 93, 94, 95, 96, 97, 98, 99, 100, 101, 102, 103, 104, 105, 106, 107, 108, 109, 110, 111, 112, 113, 114] (by decide +kernel) (by decide +kernel)) (goodIn_sub (fun _ h => List.mem_cons_of_mem _ (List.mem_append_right _ h)) (by decide +kernel))
set_option maxRecDepth 20000 in
theorem gX6_rounds_X6_colours : GoodIn wsX6_rounds (wsV RX6 234 RX6 yX6_colours wsX6_colours) := goodIn_app (goodIn_of _ (by decide +kernel)) ggX6_rounds_X6_colours
theorem dX6_rounds_0 : decode cX6_rounds 0 = .ok (.aload_n 0, 1) := by decide +kernel
theorem dX6_rounds_1 : decode cX6_rounds 1 = .ok (.iconst 0, 1) := by decide +kernel
theorem dX6_rounds_2 : decode cX6_rounds 2 = .ok (.putfield 57, 3) := by decide +kernel
theorem dX6_rounds_5 : decode cX6_rounds 5 = .ok (.aload_n 0, 1) := by decide +kernel
theorem dX6_rounds_6 : decode cX6_rounds 6 = .ok (.invokevirtual 234, 3) := by decide +kernel
theorem dX6_rounds_9 : decode cX6_rounds 9 = .ok (.aload_n 0, 1) := by decide +kernel
theorem dX6_rounds_10 : decode cX6_rounds 10 = .ok (.getfield 218, 3) := by decide +kernel
theorem dX6_rounds_13 : decode cX6_rounds 13 = .ok (.ireturn, 1) := by decide +kernel
set_option maxRecDepth 20000 in
theorem ggX6_netClasses_X6_colours : GoodIn wsX6_netClasses wsX6_colours := goodIn_ca (goodIn_r _ [7, 2, 8, 9, 10, 11, 12, 13, 14, 15, 16, 17, 6, 18, 19, 20, 21, 22, 23, 24, 25, 26, 27, 28, 29, 30, 31, 32, 33, 34, 35, 36, 37, 38, 39, 40, 41, 42, 43, 44, 45, 46, 47, 48, 49, 50, 51, 52, 53, 54, 55, 56, 57, 58, 59, 60, 61, 62, 63, 64, 65, 66, 67, 68, 69, 70, 71, 72, 73, 74, 75, 76, 77, 78, 79, 80, 81, 82, 83, 84, 85, 86, 87, 88, 89, 90, 91, 92, 93, 94, 95, 96, 97, 98, 99, 100, 101, 102, 103, 104, 105, 106, 107, 108, 109, 110, 111, 112, 113, 114] (by decide +kernel) (by decide +kernel)) (goodIn_sub (fun _ h => List.mem_cons_of_mem _ (List.mem_append_right _ h)) (by decide +kernel))
set_option maxRecDepth 20000 in
theorem gX6_netClasses_X6_colours : GoodIn wsX6_netClasses (wsV RX6 234 RX6 yX6_colours wsX6_colours) := goodIn_app (goodIn_of _ (by decide +kernel)) ggX6_netClasses_X6_colours
set_option maxRecDepth 20000 in
theorem ggX6_netClasses_X6_classes : GoodIn wsX6_netClasses wsX6_classes := goodIn_ca (goodIn_r _ [67, 58, 59, 6, 60, 61, 62, 63, 64] (by decide +kernel) (by decide +kernel)) (goodIn_sub (fun _ h => List.mem_cons_of_mem _ (List.mem_append_right _ h)) (by decide +kernel))
set_option maxRecDepth 20000 in
theorem gX6_netClasses_X6_classes : GoodIn wsX6_netClasses (va_wsS RX6 221 yX6_classes wsX6_classes) := goodIn_app (goodIn_of _ (by decide +kernel)) ggX6_netClasses_X6_classes
theorem dX6_netClasses_0 : decode cX6_netClasses 0 = .ok (.aload_n 0, 1) := by decide +kernel
theorem dX6_netClasses_1 : decode cX6_netClasses 1 = .ok (.iconst 0, 1) := by decide +kernel
theorem dX6_netClasses_2 : decode cX6_netClasses 2 = .ok (.putfield 57, 3) := by decide +kernel
theorem dX6_netClasses_5 : decode cX6_netClasses 5 = .ok (.aload_n 0, 1) := by decide +kernel
theorem dX6_netClasses_6 : decode cX6_netClasses 6 = .ok (.invokevirtual 234, 3) := by decide +kernel
theorem dX6_netClasses_9 : decode cX6_netClasses 9 = .ok (.aload_n 0, 1) := by decide +kernel
theorem dX6_netClasses_10 : decode cX6_netClasses 10 = .ok (.getfield 33, 3) := by decide +kernel
theorem dX6_netClasses_13 : decode cX6_netClasses 13 = .ok (.invokestatic 221, 3) := by decide +kernel
theorem dX6_netClasses_16 : decode cX6_netClasses 16 = .ok (.ireturn, 1) := by decide +kernel
set_option maxRecDepth 20000 in
theorem ggX6_partClasses_X6_colours : GoodIn wsX6_partClasses wsX6_colours := goodIn_ca (goodIn_r _ [7, 8, 9, 2, 10, 11, 12, 13, 14, 15, 16, 17, 6, 18, 19, 20, 21, 22, 23, 24, 25, 26, 27, 28, 29, 30, 31, 32, 33, 34, 35, 36, 37, 38, 39, 40, 41, 42, 43, 44, 45, 46, 47, 48, 49, 50, 51, 52, 53, 54, 55, 56, 57, 58, 59, 60, 61, 62, 63, 64, 65, 66, 67, 68, 69, 70, 71, 72, 73, 74, 75, 76, 77, 78, 79, 80, 81, 82, 83, 84, 85, 86, 87, 88, 89, 90, 91, 92, 93, 94, 95, 96, 97, 98, 99, 100, 101, 102, 103, 104, 105, 106, 107, 108, 109, 110, 111, 112, 113, 114] (by decide +kernel) (by decide +kernel)) (goodIn_sub (fun _ h => List.mem_cons_of_mem _ (List.mem_append_right _ h)) (by decide +kernel))
set_option maxRecDepth 20000 in
theorem gX6_partClasses_X6_colours : GoodIn wsX6_partClasses (wsV RX6 234 RX6 yX6_colours wsX6_colours) := goodIn_app (goodIn_of _ (by decide +kernel)) ggX6_partClasses_X6_colours
set_option maxRecDepth 20000 in
theorem ggX6_partClasses_X6_classes : GoodIn wsX6_partClasses wsX6_classes := goodIn_ca (goodIn_r _ [67, 58, 59, 6, 60, 61, 62, 63, 64] (by decide +kernel) (by decide +kernel)) (goodIn_sub (fun _ h => List.mem_cons_of_mem _ (List.mem_append_right _ h)) (by decide +kernel))
set_option maxRecDepth 20000 in
theorem gX6_partClasses_X6_classes : GoodIn wsX6_partClasses (va_wsS RX6 221 yX6_classes wsX6_classes) := goodIn_app (goodIn_of _ (by decide +kernel)) ggX6_partClasses_X6_classes
theorem dX6_partClasses_0 : decode cX6_partClasses 0 = .ok (.aload_n 0, 1) := by decide +kernel
theorem dX6_partClasses_1 : decode cX6_partClasses 1 = .ok (.iconst 0, 1) := by decide +kernel
theorem dX6_partClasses_2 : decode cX6_partClasses 2 = .ok (.putfield 57, 3) := by decide +kernel
theorem dX6_partClasses_5 : decode cX6_partClasses 5 = .ok (.aload_n 0, 1) := by decide +kernel
theorem dX6_partClasses_6 : decode cX6_partClasses 6 = .ok (.invokevirtual 234, 3) := by decide +kernel
theorem dX6_partClasses_9 : decode cX6_partClasses 9 = .ok (.aload_n 0, 1) := by decide +kernel
theorem dX6_partClasses_10 : decode cX6_partClasses 10 = .ok (.getfield 36, 3) := by decide +kernel
theorem dX6_partClasses_13 : decode cX6_partClasses 13 = .ok (.invokestatic 221, 3) := by decide +kernel
theorem dX6_partClasses_16 : decode cX6_partClasses 16 = .ok (.ireturn, 1) := by decide +kernel
set_option maxRecDepth 20000 in
theorem ggX6_netsLike_X6_isCircuit : GoodIn wsX6_netsLike wsX6_isCircuit := goodIn_r _ [6] (by decide +kernel) (by decide +kernel)
set_option maxRecDepth 20000 in
theorem gX6_netsLike_X6_isCircuit : GoodIn wsX6_netsLike (va_wsS RX6 81 yX6_isCircuit wsX6_isCircuit) := goodIn_app (goodIn_of _ (by decide +kernel)) ggX6_netsLike_X6_isCircuit
set_option maxRecDepth 20000 in
theorem ggX6_netsLike_X6_isNet : GoodIn wsX6_netsLike wsX6_isNet := goodIn_ca (goodIn_r _ [10, 11, 12, 13, 5, 14, 102, 103, 104, 105, 106, 107, 108, 109, 110, 111, 112, 113, 114, 115, 116, 117, 118, 119, 120] (by decide +kernel) (by decide +kernel)) (goodIn_sub (fun _ h => List.mem_cons_of_mem _ (List.mem_append_right _ h)) (by decide +kernel))
set_option maxRecDepth 20000 in
theorem gX6_netsLike_X6_isNet : GoodIn wsX6_netsLike (wsV RX6 89 RX6 yX6_isNet wsX6_isNet) := goodIn_app (goodIn_of _ (by decide +kernel)) ggX6_netsLike_X6_isNet
theorem dX6_netsLike_0 : decode cX6_netsLike 0 = .ok (.aload_n 0, 1) := by decide +kernel
theorem dX6_netsLike_1 : decode cX6_netsLike 1 = .ok (.iload_n 1, 1) := by decide +kernel
theorem dX6_netsLike_2 : decode cX6_netsLike 2 = .ok (.invokestatic 81, 3) := by decide +kernel
theorem dX6_netsLike_5 : decode cX6_netsLike 5 = .ok (.ifCond .eq 10, 3) := by decide +kernel
theorem dX6_netsLike_8 : decode cX6_netsLike 8 = .ok (.iload_n 3, 1) := by decide +kernel
theorem dX6_netsLike_9 : decode cX6_netsLike 9 = .ok (.invokestatic 81, 3) := by decide +kernel
theorem dX6_netsLike_12 : decode cX6_netsLike 12 = .ok (.ifCond .ne 7, 3) := by decide +kernel
theorem dX6_netsLike_15 : decode cX6_netsLike 15 = .ok (.iconst 1, 1) := by decide +kernel
theorem dX6_netsLike_16 : decode cX6_netsLike 16 = .ok (.goto 17, 3) := by decide +kernel
theorem dX6_netsLike_19 : decode cX6_netsLike 19 = .ok (.aload_n 0, 1) := by decide +kernel
theorem dX6_netsLike_20 : decode cX6_netsLike 20 = .ok (.iload_n 1, 1) := by decide +kernel
theorem dX6_netsLike_21 : decode cX6_netsLike 21 = .ok (.iload_n 2, 1) := by decide +kernel
theorem dX6_netsLike_22 : decode cX6_netsLike 22 = .ok (.invokevirtual 89, 3) := by decide +kernel
theorem dX6_netsLike_25 : decode cX6_netsLike 25 = .ok (.ifCond .ne 7, 3) := by decide +kernel
theorem dX6_netsLike_28 : decode cX6_netsLike 28 = .ok (.iconst 2, 1) := by decide +kernel
theorem dX6_netsLike_29 : decode cX6_netsLike 29 = .ok (.goto 4, 3) := by decide +kernel
theorem dX6_netsLike_33 : decode cX6_netsLike 33 = .ok (.putfield 57, 3) := by decide +kernel
theorem dX6_netsLike_36 : decode cX6_netsLike 36 = .ok (.aload_n 0, 1) := by decide +kernel
theorem dX6_netsLike_37 : decode cX6_netsLike 37 = .ok (.getfield 57, 3) := by decide +kernel
theorem dX6_netsLike_40 : decode cX6_netsLike 40 = .ok (.ifCond .le 5, 3) := by decide +kernel
theorem dX6_netsLike_43 : decode cX6_netsLike 43 = .ok (.iconst (-1), 1) := by decide +kernel
theorem dX6_netsLike_44 : decode cX6_netsLike 44 = .ok (.ireturn, 1) := by decide +kernel
set_option maxRecDepth 20000 in
theorem ggX6_partsLike_X6_isCircuit : GoodIn wsX6_partsLike wsX6_isCircuit := goodIn_r _ [6] (by decide +kernel) (by decide +kernel)
set_option maxRecDepth 20000 in
theorem gX6_partsLike_X6_isCircuit : GoodIn wsX6_partsLike (va_wsS RX6 81 yX6_isCircuit wsX6_isCircuit) := goodIn_app (goodIn_of _ (by decide +kernel)) ggX6_partsLike_X6_isCircuit
set_option maxRecDepth 20000 in
theorem ggX6_partsLike_X6_isPart : GoodIn wsX6_partsLike wsX6_isPart := goodIn_ca (goodIn_r _ [10, 11, 12, 13, 14, 5, 15, 102, 103, 104, 105, 106, 107, 108, 109, 110, 111, 112, 113, 114, 115, 116, 117, 118, 119, 120] (by decide +kernel) (by decide +kernel)) (goodIn_sub (fun _ h => List.mem_cons_of_mem _ (List.mem_append_right _ h)) (by decide +kernel))
set_option maxRecDepth 20000 in
theorem gX6_partsLike_X6_isPart : GoodIn wsX6_partsLike (wsV RX6 73 RX6 yX6_isPart wsX6_isPart) := goodIn_app (goodIn_of _ (by decide +kernel)) ggX6_partsLike_X6_isPart
theorem dX6_partsLike_0 : decode cX6_partsLike 0 = .ok (.aload_n 0, 1) := by decide +kernel
theorem dX6_partsLike_1 : decode cX6_partsLike 1 = .ok (.iload_n 1, 1) := by decide +kernel
theorem dX6_partsLike_2 : decode cX6_partsLike 2 = .ok (.invokestatic 81, 3) := by decide +kernel
theorem dX6_partsLike_5 : decode cX6_partsLike 5 = .ok (.ifCond .eq 10, 3) := by decide +kernel
theorem dX6_partsLike_8 : decode cX6_partsLike 8 = .ok (.iload_n 3, 1) := by decide +kernel
theorem dX6_partsLike_9 : decode cX6_partsLike 9 = .ok (.invokestatic 81, 3) := by decide +kernel
theorem dX6_partsLike_12 : decode cX6_partsLike 12 = .ok (.ifCond .ne 7, 3) := by decide +kernel
theorem dX6_partsLike_15 : decode cX6_partsLike 15 = .ok (.iconst 1, 1) := by decide +kernel
theorem dX6_partsLike_16 : decode cX6_partsLike 16 = .ok (.goto 17, 3) := by decide +kernel
theorem dX6_partsLike_19 : decode cX6_partsLike 19 = .ok (.aload_n 0, 1) := by decide +kernel
theorem dX6_partsLike_20 : decode cX6_partsLike 20 = .ok (.iload_n 1, 1) := by decide +kernel
theorem dX6_partsLike_21 : decode cX6_partsLike 21 = .ok (.iload_n 2, 1) := by decide +kernel
theorem dX6_partsLike_22 : decode cX6_partsLike 22 = .ok (.invokevirtual 73, 3) := by decide +kernel
theorem dX6_partsLike_25 : decode cX6_partsLike 25 = .ok (.ifCond .ne 7, 3) := by decide +kernel
theorem dX6_partsLike_28 : decode cX6_partsLike 28 = .ok (.iconst 2, 1) := by decide +kernel
theorem dX6_partsLike_29 : decode cX6_partsLike 29 = .ok (.goto 4, 3) := by decide +kernel
theorem dX6_partsLike_33 : decode cX6_partsLike 33 = .ok (.putfield 57, 3) := by decide +kernel
theorem dX6_partsLike_36 : decode cX6_partsLike 36 = .ok (.aload_n 0, 1) := by decide +kernel
theorem dX6_partsLike_37 : decode cX6_partsLike 37 = .ok (.getfield 57, 3) := by decide +kernel
theorem dX6_partsLike_40 : decode cX6_partsLike 40 = .ok (.ifCond .le 5, 3) := by decide +kernel
theorem dX6_partsLike_43 : decode cX6_partsLike 43 = .ok (.iconst (-1), 1) := by decide +kernel
theorem dX6_partsLike_44 : decode cX6_partsLike 44 = .ok (.ireturn, 1) := by decide +kernel
set_option maxRecDepth 20000 in
theorem ggX6_areAlike_X6_isNet : GoodIn wsX6_areAlike wsX6_isNet := goodIn_ca (goodIn_r _ [7, 8, 9, 10, 6, 11, 96, 97, 98, 99, 100, 101, 102, 103, 104, 105, 106, 107, 108, 109, 110, 111, 112, 113, 114] (by decide +kernel) (by decide +kernel)) (goodIn_sub (fun _ h => List.mem_cons_of_mem _ (List.mem_append_right _ h)) (by decide +kernel))
set_option maxRecDepth 20000 in
theorem gX6_areAlike_X6_isNet : GoodIn wsX6_areAlike (wsV RX6 89 RX6 yX6_isNet wsX6_isNet) := goodIn_app (goodIn_of _ (by decide +kernel)) ggX6_areAlike_X6_isNet
theorem dX6_areAlike_0 : decode cX6_areAlike 0 = .ok (.aload_n 0, 1) := by decide +kernel
theorem dX6_areAlike_1 : decode cX6_areAlike 1 = .ok (.aload_n 0, 1) := by decide +kernel
theorem dX6_areAlike_2 : decode cX6_areAlike 2 = .ok (.iconst 0, 1) := by decide +kernel
theorem dX6_areAlike_3 : decode cX6_areAlike 3 = .ok (.iload_n 1, 1) := by decide +kernel
theorem dX6_areAlike_4 : decode cX6_areAlike 4 = .ok (.invokevirtual 89, 3) := by decide +kernel
theorem dX6_areAlike_7 : decode cX6_areAlike 7 = .ok (.ifCond .eq 12, 3) := by decide +kernel
theorem dX6_areAlike_19 : decode cX6_areAlike 19 = .ok (.iconst 1, 1) := by decide +kernel
theorem dX6_areAlike_20 : decode cX6_areAlike 20 = .ok (.goto 4, 3) := by decide +kernel
theorem dX6_areAlike_24 : decode cX6_areAlike 24 = .ok (.putfield 57, 3) := by decide +kernel
theorem dX6_areAlike_27 : decode cX6_areAlike 27 = .ok (.aload_n 0, 1) := by decide +kernel
theorem dX6_areAlike_28 : decode cX6_areAlike 28 = .ok (.getfield 57, 3) := by decide +kernel
theorem dX6_areAlike_31 : decode cX6_areAlike 31 = .ok (.ifCond .le 5, 3) := by decide +kernel
theorem dX6_areAlike_34 : decode cX6_areAlike 34 = .ok (.iconst 0, 1) := by decide +kernel
theorem dX6_areAlike_35 : decode cX6_areAlike 35 = .ok (.ireturn, 1) := by decide +kernel
set_option maxRecDepth 20000 in
theorem ggX6_isMatched_X6_matches : GoodIn wsX6_isMatched wsX6_matches := goodIn_ca (goodIn_r _ [6, 7, 8, 9, 10, 5, 11, 12, 13, 14, 15, 16, 17, 18, 19, 20, 21, 22, 23, 24, 25, 26, 27, 28, 29, 30, 31, 32, 33, 34, 35, 36, 37, 38, 39, 40, 41, 42, 43, 44, 45, 46, 47, 48, 49, 50, 51, 52, 53, 54, 55, 56, 57, 58, 59, 60, 61, 62, 63, 64, 65, 66, 67, 68, 69, 70, 71, 72, 73, 74, 75, 76, 77, 78, 79, 80, 81, 82, 83, 84, 85, 86, 87, 88, 89, 90, 91, 92, 93, 94, 95, 96, 97, 98, 99, 100, 101, 102, 103, 104, 105, 106, 107, 108, 109, 110, 111, 112, 113, 114, 115, 116, 117, 118, 119, 120, 121, 122, 123, 124, 125, 126, 127, 128, 129, 130, 131, 132, 133, 134, 135, 136, 137, 138, 139, 140, 141, 142, 143, 144, 145] (by decide +kernel) (by decide +kernel)) (goodIn_sub (fun _ h => List.mem_cons_of_mem _ (List.mem_append_right _ h)) (by decide +kernel))
set_option maxRecDepth 20000 in
theorem gX6_isMatched_X6_matches : GoodIn wsX6_isMatched (wsV RX6 253 RX6 yX6_matches wsX6_matches) := goodIn_app (goodIn_of _ (by decide +kernel)) ggX6_isMatched_X6_matches
theorem dX6_isMatched_0 : decode cX6_isMatched 0 = .ok (.aload_n 0, 1) := by decide +kernel
theorem dX6_isMatched_1 : decode cX6_isMatched 1 = .ok (.iconst 0, 1) := by decide +kernel
theorem dX6_isMatched_2 : decode cX6_isMatched 2 = .ok (.putfield 57, 3) := by decide +kernel
theorem dX6_isMatched_5 : decode cX6_isMatched 5 = .ok (.aload_n 0, 1) := by decide +kernel
theorem dX6_isMatched_6 : decode cX6_isMatched 6 = .ok (.invokevirtual 253, 3) := by decide +kernel
theorem dX6_isMatched_9 : decode cX6_isMatched 9 = .ok (.ireturn, 1) := by decide +kernel
set_option maxRecDepth 20000 in
theorem ggX6_isMatchedByTrying_X6_isLarge : GoodIn wsX6_isMatchedByTrying wsX6_isLarge := goodIn_ca (goodIn_r _ [6, 7, 131, 132, 133, 134, 135, 136, 137, 138, 139, 140, 141, 142, 143, 144, 145, 146, 147, 148, 149] (by decide +kernel) (by decide +kernel)) (goodIn_sub (fun _ h => List.mem_cons_of_mem _ (List.mem_append_right _ h)) (by decide +kernel))
set_option maxRecDepth 20000 in
theorem gX6_isMatchedByTrying_X6_isLarge : GoodIn wsX6_isMatchedByTrying (wsV RX6 257 RX6 yX6_isLarge wsX6_isLarge) := goodIn_app (goodIn_of _ (by decide +kernel)) ggX6_isMatchedByTrying_X6_isLarge
set_option maxRecDepth 20000 in
theorem ggX6_isMatchedByTrying_X6_matches : GoodIn wsX6_isMatchedByTrying wsX6_matches := goodIn_ca (goodIn_r _ [11, 7, 12, 13, 14, 5, 15, 16, 17, 18, 19, 20, 21, 22, 23, 24, 25, 26, 27, 28, 29, 30, 31, 32, 33, 34, 35, 36, 37, 38, 39, 40, 41, 42, 43, 44, 45, 46, 47, 48, 49, 50, 51, 52, 53, 54, 55, 56, 57, 58, 59, 60, 61, 62, 63, 64, 65, 66, 67, 68, 69, 70, 71, 72, 73, 74, 75, 76, 77, 78, 79, 80, 81, 82, 83, 84, 85, 86, 87, 88, 89, 90, 91, 92, 93, 94, 95, 96, 97, 98, 99, 100, 101, 102, 103, 104, 105, 106, 107, 108, 109, 110, 111, 112, 113, 114, 115, 116, 117, 118, 119, 120, 121, 122, 123, 124, 125, 126, 127, 128, 129, 130, 131, 132, 133, 134, 135, 136, 137, 138, 139, 140, 141, 142, 143, 144, 145, 146, 147, 148, 149] (by decide +kernel) (by decide +kernel)) (goodIn_sub (fun _ h => List.mem_cons_of_mem _ (List.mem_append_right _ h)) (by decide +kernel))
set_option maxRecDepth 20000 in
theorem gX6_isMatchedByTrying_X6_matches : GoodIn wsX6_isMatchedByTrying (wsV RX6 253 RX6 yX6_matches wsX6_matches) := goodIn_app (goodIn_of _ (by decide +kernel)) ggX6_isMatchedByTrying_X6_matches
theorem dX6_isMatchedByTrying_0 : decode cX6_isMatchedByTrying 0 = .ok (.aload_n 0, 1) := by decide +kernel
theorem dX6_isMatchedByTrying_1 : decode cX6_isMatchedByTrying 1 = .ok (.aload_n 0, 1) := by decide +kernel
theorem dX6_isMatchedByTrying_2 : decode cX6_isMatchedByTrying 2 = .ok (.invokevirtual 257, 3) := by decide +kernel
theorem dX6_isMatchedByTrying_5 : decode cX6_isMatchedByTrying 5 = .ok (.ifCond .eq 7, 3) := by decide +kernel
theorem dX6_isMatchedByTrying_12 : decode cX6_isMatchedByTrying 12 = .ok (.iconst 0, 1) := by decide +kernel
theorem dX6_isMatchedByTrying_13 : decode cX6_isMatchedByTrying 13 = .ok (.putfield 57, 3) := by decide +kernel
theorem dX6_isMatchedByTrying_16 : decode cX6_isMatchedByTrying 16 = .ok (.aload_n 0, 1) := by decide +kernel
theorem dX6_isMatchedByTrying_17 : decode cX6_isMatchedByTrying 17 = .ok (.getfield 57, 3) := by decide +kernel
theorem dX6_isMatchedByTrying_20 : decode cX6_isMatchedByTrying 20 = .ok (.ifCond .ne 14, 3) := by decide +kernel
theorem dX6_isMatchedByTrying_23 : decode cX6_isMatchedByTrying 23 = .ok (.aload_n 0, 1) := by decide +kernel
theorem dX6_isMatchedByTrying_24 : decode cX6_isMatchedByTrying 24 = .ok (.invokevirtual 253, 3) := by decide +kernel
theorem dX6_isMatchedByTrying_27 : decode cX6_isMatchedByTrying 27 = .ok (.ifCond .eq 7, 3) := by decide +kernel
theorem dX6_isMatchedByTrying_30 : decode cX6_isMatchedByTrying 30 = .ok (.iconst 1, 1) := by decide +kernel
theorem dX6_isMatchedByTrying_31 : decode cX6_isMatchedByTrying 31 = .ok (.goto 4, 3) := by decide +kernel
theorem dX6_isMatchedByTrying_35 : decode cX6_isMatchedByTrying 35 = .ok (.ireturn, 1) := by decide +kernel
set_option maxRecDepth 20000 in
theorem ggX6_matchedNet_X6_isNet : GoodIn wsX6_matchedNet wsX6_isNet := goodIn_ca (goodIn_r _ [7, 8, 9, 10, 6, 11, 127, 128, 129, 130, 131, 132, 133, 134, 135, 136, 137, 138, 139, 140, 141, 142, 143, 144, 145] (by decide +kernel) (by decide +kernel)) (goodIn_sub (fun _ h => List.mem_cons_of_mem _ (List.mem_append_right _ h)) (by decide +kernel))
set_option maxRecDepth 20000 in
theorem gX6_matchedNet_X6_isNet : GoodIn wsX6_matchedNet (wsV RX6 89 RX6 yX6_isNet wsX6_isNet) := goodIn_app (goodIn_of _ (by decide +kernel)) ggX6_matchedNet_X6_isNet
theorem dX6_matchedNet_0 : decode cX6_matchedNet 0 = .ok (.aload_n 0, 1) := by decide +kernel
theorem dX6_matchedNet_1 : decode cX6_matchedNet 1 = .ok (.aload_n 0, 1) := by decide +kernel
theorem dX6_matchedNet_2 : decode cX6_matchedNet 2 = .ok (.iconst 0, 1) := by decide +kernel
theorem dX6_matchedNet_3 : decode cX6_matchedNet 3 = .ok (.iload_n 1, 1) := by decide +kernel
theorem dX6_matchedNet_4 : decode cX6_matchedNet 4 = .ok (.invokevirtual 89, 3) := by decide +kernel
theorem dX6_matchedNet_7 : decode cX6_matchedNet 7 = .ok (.ifCond .ne 7, 3) := by decide +kernel
theorem dX6_matchedNet_10 : decode cX6_matchedNet 10 = .ok (.iconst 1, 1) := by decide +kernel
theorem dX6_matchedNet_11 : decode cX6_matchedNet 11 = .ok (.goto 15, 3) := by decide +kernel
theorem dX6_matchedNet_26 : decode cX6_matchedNet 26 = .ok (.putfield 57, 3) := by decide +kernel
theorem dX6_matchedNet_29 : decode cX6_matchedNet 29 = .ok (.aload_n 0, 1) := by decide +kernel
theorem dX6_matchedNet_30 : decode cX6_matchedNet 30 = .ok (.getfield 57, 3) := by decide +kernel
theorem dX6_matchedNet_33 : decode cX6_matchedNet 33 = .ok (.ifCond .ne 12, 3) := by decide +kernel
theorem dX6_matchedNet_45 : decode cX6_matchedNet 45 = .ok (.iconst (-1), 1) := by decide +kernel
theorem dX6_matchedNet_46 : decode cX6_matchedNet 46 = .ok (.ireturn, 1) := by decide +kernel
set_option maxRecDepth 20000 in
theorem ggX6_netByTrying_X6_isNet : GoodIn wsX6_netByTrying wsX6_isNet := goodIn_ca (goodIn_r _ [7, 8, 9, 10, 6, 11, 131, 132, 133, 134, 135, 136, 137, 138, 139, 140, 141, 142, 143, 144, 145, 146, 147, 148, 149] (by decide +kernel) (by decide +kernel)) (goodIn_sub (fun _ h => List.mem_cons_of_mem _ (List.mem_append_right _ h)) (by decide +kernel))
set_option maxRecDepth 20000 in
theorem gX6_netByTrying_X6_isNet : GoodIn wsX6_netByTrying (wsV RX6 89 RX6 yX6_isNet wsX6_isNet) := goodIn_app (goodIn_of _ (by decide +kernel)) ggX6_netByTrying_X6_isNet
theorem dX6_netByTrying_0 : decode cX6_netByTrying 0 = .ok (.aload_n 0, 1) := by decide +kernel
theorem dX6_netByTrying_1 : decode cX6_netByTrying 1 = .ok (.aload_n 0, 1) := by decide +kernel
theorem dX6_netByTrying_2 : decode cX6_netByTrying 2 = .ok (.iconst 0, 1) := by decide +kernel
theorem dX6_netByTrying_3 : decode cX6_netByTrying 3 = .ok (.iload_n 1, 1) := by decide +kernel
theorem dX6_netByTrying_4 : decode cX6_netByTrying 4 = .ok (.invokevirtual 89, 3) := by decide +kernel
theorem dX6_netByTrying_7 : decode cX6_netByTrying 7 = .ok (.ifCond .ne 7, 3) := by decide +kernel
theorem dX6_netByTrying_10 : decode cX6_netByTrying 10 = .ok (.iconst 1, 1) := by decide +kernel
theorem dX6_netByTrying_11 : decode cX6_netByTrying 11 = .ok (.goto 26, 3) := by decide +kernel
theorem dX6_netByTrying_37 : decode cX6_netByTrying 37 = .ok (.putfield 57, 3) := by decide +kernel
theorem dX6_netByTrying_40 : decode cX6_netByTrying 40 = .ok (.aload_n 0, 1) := by decide +kernel
theorem dX6_netByTrying_41 : decode cX6_netByTrying 41 = .ok (.getfield 57, 3) := by decide +kernel
theorem dX6_netByTrying_44 : decode cX6_netByTrying 44 = .ok (.ifCond .ne 12, 3) := by decide +kernel
theorem dX6_netByTrying_56 : decode cX6_netByTrying 56 = .ok (.iconst (-1), 1) := by decide +kernel
theorem dX6_netByTrying_57 : decode cX6_netByTrying 57 = .ok (.ireturn, 1) := by decide +kernel
set_option maxRecDepth 20000 in
theorem ggX6_matchedPart_X6_isPart : GoodIn wsX6_matchedPart wsX6_isPart := goodIn_ca (goodIn_r _ [7, 8, 9, 10, 11, 6, 12, 127, 128, 129, 130, 131, 132, 133, 134, 135, 136, 137, 138, 139, 140, 141, 142, 143, 144, 145] (by decide +kernel) (by decide +kernel)) (goodIn_sub (fun _ h => List.mem_cons_of_mem _ (List.mem_append_right _ h)) (by decide +kernel))
set_option maxRecDepth 20000 in
theorem gX6_matchedPart_X6_isPart : GoodIn wsX6_matchedPart (wsV RX6 73 RX6 yX6_isPart wsX6_isPart) := goodIn_app (goodIn_of _ (by decide +kernel)) ggX6_matchedPart_X6_isPart
theorem dX6_matchedPart_0 : decode cX6_matchedPart 0 = .ok (.aload_n 0, 1) := by decide +kernel
theorem dX6_matchedPart_1 : decode cX6_matchedPart 1 = .ok (.aload_n 0, 1) := by decide +kernel
theorem dX6_matchedPart_2 : decode cX6_matchedPart 2 = .ok (.iconst 0, 1) := by decide +kernel
theorem dX6_matchedPart_3 : decode cX6_matchedPart 3 = .ok (.iload_n 1, 1) := by decide +kernel
theorem dX6_matchedPart_4 : decode cX6_matchedPart 4 = .ok (.invokevirtual 73, 3) := by decide +kernel
theorem dX6_matchedPart_7 : decode cX6_matchedPart 7 = .ok (.ifCond .ne 7, 3) := by decide +kernel
theorem dX6_matchedPart_10 : decode cX6_matchedPart 10 = .ok (.iconst 1, 1) := by decide +kernel
theorem dX6_matchedPart_11 : decode cX6_matchedPart 11 = .ok (.goto 15, 3) := by decide +kernel
theorem dX6_matchedPart_26 : decode cX6_matchedPart 26 = .ok (.putfield 57, 3) := by decide +kernel
theorem dX6_matchedPart_29 : decode cX6_matchedPart 29 = .ok (.aload_n 0, 1) := by decide +kernel
theorem dX6_matchedPart_30 : decode cX6_matchedPart 30 = .ok (.getfield 57, 3) := by decide +kernel
theorem dX6_matchedPart_33 : decode cX6_matchedPart 33 = .ok (.ifCond .ne 12, 3) := by decide +kernel
theorem dX6_matchedPart_45 : decode cX6_matchedPart 45 = .ok (.iconst (-1), 1) := by decide +kernel
theorem dX6_matchedPart_46 : decode cX6_matchedPart 46 = .ok (.ireturn, 1) := by decide +kernel
set_option maxRecDepth 20000 in
theorem ggX6_matchedPin_X6_isPart : GoodIn wsX6_matchedPin wsX6_isPart := goodIn_ca (goodIn_r _ [8, 9, 10, 11, 12, 7, 13, 127, 128, 129, 130, 131, 132, 133, 134, 135, 136, 137, 138, 139, 140, 141, 142, 143, 144, 145] (by decide +kernel) (by decide +kernel)) (goodIn_sub (fun _ h => List.mem_cons_of_mem _ (List.mem_append_right _ h)) (by decide +kernel))
set_option maxRecDepth 20000 in
theorem gX6_matchedPin_X6_isPart : GoodIn wsX6_matchedPin (wsV RX6 73 RX6 yX6_isPart wsX6_isPart) := goodIn_app (goodIn_of _ (by decide +kernel)) ggX6_matchedPin_X6_isPart
theorem dX6_matchedPin_0 : decode cX6_matchedPin 0 = .ok (.aload_n 0, 1) := by decide +kernel
theorem dX6_matchedPin_1 : decode cX6_matchedPin 1 = .ok (.aload_n 0, 1) := by decide +kernel
theorem dX6_matchedPin_2 : decode cX6_matchedPin 2 = .ok (.iconst 0, 1) := by decide +kernel
theorem dX6_matchedPin_3 : decode cX6_matchedPin 3 = .ok (.iload_n 1, 1) := by decide +kernel
theorem dX6_matchedPin_4 : decode cX6_matchedPin 4 = .ok (.invokevirtual 73, 3) := by decide +kernel
theorem dX6_matchedPin_7 : decode cX6_matchedPin 7 = .ok (.ifCond .ne 7, 3) := by decide +kernel
theorem dX6_matchedPin_10 : decode cX6_matchedPin 10 = .ok (.iconst 1, 1) := by decide +kernel
theorem dX6_matchedPin_11 : decode cX6_matchedPin 11 = .ok (.goto 40, 3) := by decide +kernel
theorem dX6_matchedPin_51 : decode cX6_matchedPin 51 = .ok (.putfield 57, 3) := by decide +kernel
theorem dX6_matchedPin_54 : decode cX6_matchedPin 54 = .ok (.aload_n 0, 1) := by decide +kernel
theorem dX6_matchedPin_55 : decode cX6_matchedPin 55 = .ok (.getfield 57, 3) := by decide +kernel
theorem dX6_matchedPin_58 : decode cX6_matchedPin 58 = .ok (.ifCond .le 5, 3) := by decide +kernel
theorem dX6_matchedPin_61 : decode cX6_matchedPin 61 = .ok (.iconst (-1), 1) := by decide +kernel
theorem dX6_matchedPin_62 : decode cX6_matchedPin 62 = .ok (.ireturn, 1) := by decide +kernel
set_option maxRecDepth 20000 in
theorem ggX6_differences_X6_colours : GoodIn wsX6_differences wsX6_colours := goodIn_ca (goodIn_r _ [6, 7, 8, 9, 10, 11, 12, 13, 14, 15, 16, 17, 5, 18, 19, 20, 21, 22, 23, 24, 25, 26, 27, 28, 29, 30, 31, 32, 33, 34, 35, 36, 37, 38, 39, 40, 41, 42, 43, 44, 45, 46, 47, 48, 49, 50, 51, 52, 53, 54, 55, 56, 57, 58, 59, 60, 61, 62, 63, 64, 65, 66, 67, 68, 69, 70, 71, 72, 73, 74, 75, 76, 77, 78, 79, 80, 81, 82, 83, 84, 85, 86, 87, 88, 89, 90, 91, 92, 93, 94, 95, 126, 127, 128, 129, 130, 131, 132, 133, 134, 135, 136, 137, 138, 139, 140, 141, 142, 143, 144] (by decide +kernel) (by decide +kernel)) (goodIn_sub (fun _ h => List.mem_cons_of_mem _ (List.mem_append_right _ h)) (by decide +kernel))
set_option maxRecDepth 20000 in
theorem gX6_differences_X6_colours : GoodIn wsX6_differences (wsV RX6 234 RX6 yX6_colours wsX6_colours) := goodIn_app (goodIn_of _ (by decide +kernel)) ggX6_differences_X6_colours
set_option maxRecDepth 20000 in
theorem ggX6_differences_X6_unequal : GoodIn wsX6_differences wsX6_unequal := goodIn_ca (goodIn_r _ [99, 7, 9, 65, 66, 5, 67, 58, 59, 60, 61, 62, 63, 64, 100, 101, 102, 103, 104, 105, 106, 107, 108, 109, 110, 111, 112, 113, 10, 114, 115, 116, 117, 118, 32, 8, 23, 19, 20, 21, 22, 24, 25, 26, 27, 119, 120, 121, 122, 37, 38, 39, 40, 41, 42, 43, 44, 45, 46, 47, 48, 123, 124, 125, 126, 127, 128, 129, 130, 131, 132, 133, 134, 135, 136, 137, 138, 139, 140, 141, 142, 143, 144] (by decide +kernel) (by decide +kernel)) (goodIn_sub (fun _ h => List.mem_cons_of_mem _ (List.mem_append_right _ h)) (by decide +kernel))
set_option maxRecDepth 20000 in
theorem gX6_differences_X6_unequal : GoodIn wsX6_differences (wsV RX6 270 RX6 yX6_unequal wsX6_unequal) := goodIn_app (goodIn_of _ (by decide +kernel)) ggX6_differences_X6_unequal
theorem dX6_differences_0 : decode cX6_differences 0 = .ok (.aload_n 0, 1) := by decide +kernel
theorem dX6_differences_1 : decode cX6_differences 1 = .ok (.iconst 0, 1) := by decide +kernel
theorem dX6_differences_2 : decode cX6_differences 2 = .ok (.putfield 57, 3) := by decide +kernel
theorem dX6_differences_5 : decode cX6_differences 5 = .ok (.aload_n 0, 1) := by decide +kernel
theorem dX6_differences_6 : decode cX6_differences 6 = .ok (.invokevirtual 234, 3) := by decide +kernel
theorem dX6_differences_9 : decode cX6_differences 9 = .ok (.aload_n 0, 1) := by decide +kernel
theorem dX6_differences_10 : decode cX6_differences 10 = .ok (.invokevirtual 270, 3) := by decide +kernel
theorem dX6_differences_13 : decode cX6_differences 13 = .ok (.ireturn, 1) := by decide +kernel
set_option maxRecDepth 20000 in
theorem ggX6_differenceKind_X6_finds : GoodIn wsX6_differenceKind wsX6_finds := goodIn_ca (goodIn_r _ [6, 7, 8, 9, 1, 10, 11, 12, 13, 5, 14, 15, 16, 17, 18, 19, 20, 21, 22, 23, 24, 25, 26, 27, 28, 29, 30, 31, 32, 33, 34, 35, 36, 37, 38, 39, 40, 41, 42, 43, 44, 45, 46, 47, 48, 49, 50, 51, 52, 53, 54, 55, 56, 57, 58, 59, 60, 61, 62, 63, 64, 65, 66, 67, 68, 69, 70, 71, 72, 73, 74, 75, 76, 77, 78, 79, 80, 81, 82, 83, 84, 85, 86, 87, 88, 89, 90, 91, 92, 93, 94, 95, 96, 97, 98, 99, 100, 101, 102, 103, 104, 105, 106, 107, 108, 109, 110, 111, 112, 113, 114, 115, 116, 117, 118, 119, 120, 121, 122, 123, 124, 125, 126, 127, 128, 129, 130, 131, 132, 133, 134, 135, 136, 137, 138, 139, 140, 141, 142, 143, 144, 145, 146, 147, 148, 149, 150] (by decide +kernel) (by decide +kernel)) (goodIn_sub (fun _ h => List.mem_cons_of_mem _ (List.mem_append_right _ h)) (by decide +kernel))
set_option maxRecDepth 20000 in
theorem gX6_differenceKind_X6_finds : GoodIn wsX6_differenceKind (wsV RX6 280 RX6 yX6_finds wsX6_finds) := goodIn_app (goodIn_of _ (by decide +kernel)) ggX6_differenceKind_X6_finds
theorem dX6_differenceKind_0 : decode cX6_differenceKind 0 = .ok (.aload_n 0, 1) := by decide +kernel
theorem dX6_differenceKind_1 : decode cX6_differenceKind 1 = .ok (.iload_n 1, 1) := by decide +kernel
theorem dX6_differenceKind_2 : decode cX6_differenceKind 2 = .ok (.invokevirtual 280, 3) := by decide +kernel
theorem dX6_differenceKind_5 : decode cX6_differenceKind 5 = .ok (.ifCond .eq 20, 3) := by decide +kernel
theorem dX6_differenceKind_25 : decode cX6_differenceKind 25 = .ok (.bipush 32, 2) := by decide +kernel
theorem dX6_differenceKind_27 : decode cX6_differenceKind 27 = .ok (.ireturn, 1) := by decide +kernel
set_option maxRecDepth 20000 in
theorem ggX6_differenceMember_X6_finds : GoodIn wsX6_differenceMember wsX6_finds := goodIn_ca (goodIn_r _ [9, 10, 3, 2, 1, 4, 11, 12, 13, 8, 14, 15, 16, 17, 18, 19, 20, 21, 22, 23, 24, 25, 26, 27, 28, 29, 30, 31, 32, 33, 34, 35, 36, 37, 38, 39, 40, 41, 42, 43, 44, 45, 46, 47, 48, 49, 50, 51, 52, 53, 54, 55, 56, 57, 58, 59, 60, 61, 62, 63, 64, 65, 66, 67, 68, 69, 70, 71, 72, 73, 74, 75, 76, 77, 78, 79, 80, 81, 82, 83, 84, 85, 86, 87, 88, 89, 90, 91, 92, 93, 94, 95, 96, 97, 98, 99, 100, 101, 102, 103, 104, 105, 106, 107, 108, 109, 110, 111, 112, 113, 114, 115, 116, 117, 118, 119, 120, 121, 122, 123, 124, 125, 126, 127, 128, 129, 130, 131, 132, 133, 134, 135, 136, 137, 138, 139, 140, 141, 142, 143, 144, 145, 146, 147, 148, 149, 150] (by decide +kernel) (by decide +kernel)) (goodIn_sub (fun _ h => List.mem_cons_of_mem _ (List.mem_append_right _ h)) (by decide +kernel))
set_option maxRecDepth 20000 in
theorem gX6_differenceMember_X6_finds : GoodIn wsX6_differenceMember (wsV RX6 280 RX6 yX6_finds wsX6_finds) := goodIn_app (goodIn_of _ (by decide +kernel)) ggX6_differenceMember_X6_finds
theorem dX6_differenceMember_0 : decode cX6_differenceMember 0 = .ok (.aload_n 0, 1) := by decide +kernel
theorem dX6_differenceMember_1 : decode cX6_differenceMember 1 = .ok (.iload_n 1, 1) := by decide +kernel
theorem dX6_differenceMember_2 : decode cX6_differenceMember 2 = .ok (.invokevirtual 280, 3) := by decide +kernel
theorem dX6_differenceMember_5 : decode cX6_differenceMember 5 = .ok (.ifCond .eq 31, 3) := by decide +kernel
theorem dX6_differenceMember_36 : decode cX6_differenceMember 36 = .ok (.iconst (-1), 1) := by decide +kernel
theorem dX6_differenceMember_37 : decode cX6_differenceMember 37 = .ok (.ireturn, 1) := by decide +kernel
set_option maxRecDepth 20000 in
theorem ggX6_differenceDistance_X6_finds : GoodIn wsX6_differenceDistance wsX6_finds := goodIn_ca (goodIn_r _ [7, 8, 9, 10, 1, 2, 11, 12, 13, 6, 14, 15, 16, 17, 18, 19, 20, 21, 22, 23, 24, 25, 26, 27, 28, 29, 30, 31, 32, 33, 34, 35, 36, 37, 38, 39, 40, 41, 42, 43, 44, 45, 46, 47, 48, 49, 50, 51, 52, 53, 54, 55, 56, 57, 58, 59, 60, 61, 62, 63, 64, 65, 66, 67, 68, 69, 70, 71, 72, 73, 74, 75, 76, 77, 78, 79, 80, 81, 82, 83, 84, 85, 86, 87, 88, 89, 90, 91, 92, 93, 94, 95, 96, 97, 98, 99, 100, 101, 102, 103, 104, 105, 106, 107, 108, 109, 110, 111, 112, 113, 114, 115, 116, 117, 118, 119, 120, 121, 122, 123, 124, 125, 126, 127, 128, 129, 130, 131, 132, 133, 134, 135, 136, 137, 138, 139, 140, 141, 142, 143, 144, 145, 146, 147, 148, 149, 150] (by decide +kernel) (by decide +kernel)) (goodIn_sub (fun _ h => List.mem_cons_of_mem _ (List.mem_append_right _ h)) (by decide +kernel))
set_option maxRecDepth 20000 in
theorem gX6_differenceDistance_X6_finds : GoodIn wsX6_differenceDistance (wsV RX6 280 RX6 yX6_finds wsX6_finds) := goodIn_app (goodIn_of _ (by decide +kernel)) ggX6_differenceDistance_X6_finds
theorem dX6_differenceDistance_0 : decode cX6_differenceDistance 0 = .ok (.aload_n 0, 1) := by decide +kernel
theorem dX6_differenceDistance_1 : decode cX6_differenceDistance 1 = .ok (.iload_n 1, 1) := by decide +kernel
theorem dX6_differenceDistance_2 : decode cX6_differenceDistance 2 = .ok (.invokevirtual 280, 3) := by decide +kernel
theorem dX6_differenceDistance_5 : decode cX6_differenceDistance 5 = .ok (.ifCond .eq 18, 3) := by decide +kernel
theorem dX6_differenceDistance_23 : decode cX6_differenceDistance 23 = .ok (.iconst (-1), 1) := by decide +kernel
theorem dX6_differenceDistance_24 : decode cX6_differenceDistance 24 = .ok (.ireturn, 1) := by decide +kernel
set_option maxRecDepth 20000 in
theorem ggX6_differenceSize_X6_finds : GoodIn wsX6_differenceSize wsX6_finds := goodIn_ca (goodIn_r _ [10, 1, 4, 3, 2, 5, 11, 12, 13, 9, 14, 15, 16, 17, 18, 19, 20, 21, 22, 23, 24, 25, 26, 27, 28, 29, 30, 31, 32, 33, 34, 35, 36, 37, 38, 39, 40, 41, 42, 43, 44, 45, 46, 47, 48, 49, 50, 51, 52, 53, 54, 55, 56, 57, 58, 59, 60, 61, 62, 63, 64, 65, 66, 67, 68, 69, 70, 71, 72, 73, 74, 75, 76, 77, 78, 79, 80, 81, 82, 83, 84, 85, 86, 87, 88, 89, 90, 91, 92, 93, 94, 95, 96, 97, 98, 99, 100, 101, 102, 103, 104, 105, 106, 107, 108, 109, 110, 111, 112, 113, 114, 115, 116, 117, 118, 119, 120, 121, 122, 123, 124, 125, 126, 127, 128, 129, 130, 131, 135, 136, 137, 138, 139, 140, 141, 142, 143, 144, 145, 146, 147, 148, 149, 150, 151, 152, 153] (by decide +kernel) (by decide +kernel)) (goodIn_sub (fun _ h => List.mem_cons_of_mem _ (List.mem_append_right _ h)) (by decide +kernel))
set_option maxRecDepth 20000 in
theorem gX6_differenceSize_X6_finds : GoodIn wsX6_differenceSize (wsV RX6 280 RX6 yX6_finds wsX6_finds) := goodIn_app (goodIn_of _ (by decide +kernel)) ggX6_differenceSize_X6_finds
theorem dX6_differenceSize_0 : decode cX6_differenceSize 0 = .ok (.aload_n 0, 1) := by decide +kernel
theorem dX6_differenceSize_1 : decode cX6_differenceSize 1 = .ok (.iload_n 1, 1) := by decide +kernel
theorem dX6_differenceSize_2 : decode cX6_differenceSize 2 = .ok (.invokevirtual 280, 3) := by decide +kernel
theorem dX6_differenceSize_5 : decode cX6_differenceSize 5 = .ok (.ifCond .ne 5, 3) := by decide +kernel
theorem dX6_differenceSize_8 : decode cX6_differenceSize 8 = .ok (.iconst (-1), 1) := by decide +kernel
theorem dX6_differenceSize_9 : decode cX6_differenceSize 9 = .ok (.ireturn, 1) := by decide +kernel
set_option maxRecDepth 20000 in
theorem ggX6_equalShare_X6_colours : GoodIn wsX6_equalShare wsX6_colours := goodIn_ca (goodIn_r _ [8, 1, 9, 2, 10, 11, 12, 13, 14, 15, 16, 17, 7, 18, 19, 20, 21, 22, 23, 24, 25, 26, 27, 28, 29, 30, 31, 32, 33, 34, 35, 36, 37, 38, 39, 40, 41, 42, 43, 44, 45, 46, 47, 48, 49, 50, 51, 52, 53, 54, 55, 56, 57, 58, 59, 60, 61, 62, 63, 64, 65, 66, 67, 68, 69, 70, 71, 72, 73, 74, 75, 76, 77, 78, 79, 80, 81, 82, 83, 84, 85, 86, 87, 88, 89, 90, 91, 92, 93, 94, 95, 126, 127, 128, 129, 130, 131, 132, 133, 134, 135, 136, 137, 138, 139, 140, 141, 142, 143, 144] (by decide +kernel) (by decide +kernel)) (goodIn_sub (fun _ h => List.mem_cons_of_mem _ (List.mem_append_right _ h)) (by decide +kernel))
set_option maxRecDepth 20000 in
theorem gX6_equalShare_X6_colours : GoodIn wsX6_equalShare (wsV RX6 234 RX6 yX6_colours wsX6_colours) := goodIn_app (goodIn_of _ (by decide +kernel)) ggX6_equalShare_X6_colours
set_option maxRecDepth 20000 in
theorem ggX6_equalShare_X6_classes : GoodIn wsX6_equalShare wsX6_classes := goodIn_ca (goodIn_r _ [67, 58, 59, 7, 60, 61, 62, 63, 64] (by decide +kernel) (by decide +kernel)) (goodIn_sub (fun _ h => List.mem_cons_of_mem _ (List.mem_append_right _ h)) (by decide +kernel))
set_option maxRecDepth 20000 in
theorem gX6_equalShare_X6_classes : GoodIn wsX6_equalShare (va_wsS RX6 221 yX6_classes wsX6_classes) := goodIn_app (goodIn_of _ (by decide +kernel)) ggX6_equalShare_X6_classes
theorem dX6_equalShare_0 : decode cX6_equalShare 0 = .ok (.aload_n 0, 1) := by decide +kernel
theorem dX6_equalShare_1 : decode cX6_equalShare 1 = .ok (.invokevirtual 234, 3) := by decide +kernel
theorem dX6_equalShare_4 : decode cX6_equalShare 4 = .ok (.aload_n 0, 1) := by decide +kernel
theorem dX6_equalShare_5 : decode cX6_equalShare 5 = .ok (.getfield 33, 3) := by decide +kernel
theorem dX6_equalShare_8 : decode cX6_equalShare 8 = .ok (.invokestatic 221, 3) := by decide +kernel
theorem dX6_equalShare_11 : decode cX6_equalShare 11 = .ok (.aload_n 0, 1) := by decide +kernel
theorem dX6_equalShare_12 : decode cX6_equalShare 12 = .ok (.getfield 36, 3) := by decide +kernel
theorem dX6_equalShare_15 : decode cX6_equalShare 15 = .ok (.invokestatic 221, 3) := by decide +kernel
theorem dX6_equalShare_18 : decode cX6_equalShare 18 = .ok (.iadd, 1) := by decide +kernel
theorem dX6_equalShare_19 : decode cX6_equalShare 19 = .ok (.istore_n 1, 1) := by decide +kernel
theorem dX6_equalShare_20 : decode cX6_equalShare 20 = .ok (.aload_n 0, 1) := by decide +kernel
theorem dX6_equalShare_21 : decode cX6_equalShare 21 = .ok (.iload_n 1, 1) := by decide +kernel
theorem dX6_equalShare_22 : decode cX6_equalShare 22 = .ok (.ifCond .ne 7, 3) := by decide +kernel
theorem dX6_equalShare_25 : decode cX6_equalShare 25 = .ok (.iconst 1, 1) := by decide +kernel
theorem dX6_equalShare_26 : decode cX6_equalShare 26 = .ok (.goto 4, 3) := by decide +kernel
theorem dX6_equalShare_30 : decode cX6_equalShare 30 = .ok (.putfield 57, 3) := by decide +kernel
theorem dX6_equalShare_33 : decode cX6_equalShare 33 = .ok (.aload_n 0, 1) := by decide +kernel
theorem dX6_equalShare_34 : decode cX6_equalShare 34 = .ok (.getfield 57, 3) := by decide +kernel
theorem dX6_equalShare_37 : decode cX6_equalShare 37 = .ok (.ifCond .ne 16, 3) := by decide +kernel
theorem dX6_equalShare_53 : decode cX6_equalShare 53 = .ok (.fconst 0, 1) := by decide +kernel
theorem dX6_equalShare_54 : decode cX6_equalShare 54 = .ok (.freturn, 1) := by decide +kernel
set_option maxRecDepth 20000 in
theorem ggX6_meanDistance_X6_isCircuit : GoodIn wsX6_meanDistance wsX6_isCircuit := goodIn_r _ [6] (by decide +kernel) (by decide +kernel)
set_option maxRecDepth 20000 in
theorem gX6_meanDistance_X6_isCircuit : GoodIn wsX6_meanDistance (va_wsS RX6 81 yX6_isCircuit wsX6_isCircuit) := goodIn_app (goodIn_of _ (by decide +kernel)) ggX6_meanDistance_X6_isCircuit
theorem dX6_meanDistance_0 : decode cX6_meanDistance 0 = .ok (.aload_n 0, 1) := by decide +kernel
theorem dX6_meanDistance_1 : decode cX6_meanDistance 1 = .ok (.iload_n 1, 1) := by decide +kernel
theorem dX6_meanDistance_2 : decode cX6_meanDistance 2 = .ok (.invokestatic 81, 3) := by decide +kernel
theorem dX6_meanDistance_5 : decode cX6_meanDistance 5 = .ok (.ifCond .eq 7, 3) := by decide +kernel
theorem dX6_meanDistance_8 : decode cX6_meanDistance 8 = .ok (.iconst 0, 1) := by decide +kernel
theorem dX6_meanDistance_9 : decode cX6_meanDistance 9 = .ok (.goto 4, 3) := by decide +kernel
theorem dX6_meanDistance_12 : decode cX6_meanDistance 12 = .ok (.iconst 1, 1) := by decide +kernel
theorem dX6_meanDistance_13 : decode cX6_meanDistance 13 = .ok (.putfield 57, 3) := by decide +kernel
theorem dX6_meanDistance_16 : decode cX6_meanDistance 16 = .ok (.iconst 0, 1) := by decide +kernel
theorem dX6_meanDistance_17 : decode cX6_meanDistance 17 = .ok (.istore_n 2, 1) := by decide +kernel
theorem dX6_meanDistance_18 : decode cX6_meanDistance 18 = .ok (.iconst 0, 1) := by decide +kernel
theorem dX6_meanDistance_19 : decode cX6_meanDistance 19 = .ok (.istore_n 3, 1) := by decide +kernel
theorem dX6_meanDistance_20 : decode cX6_meanDistance 20 = .ok (.iconst 0, 1) := by decide +kernel
theorem dX6_meanDistance_21 : decode cX6_meanDistance 21 = .ok (.istore 4, 2) := by decide +kernel
theorem dX6_meanDistance_23 : decode cX6_meanDistance 23 = .ok (.aload_n 0, 1) := by decide +kernel
theorem dX6_meanDistance_24 : decode cX6_meanDistance 24 = .ok (.getfield 57, 3) := by decide +kernel
theorem dX6_meanDistance_27 : decode cX6_meanDistance 27 = .ok (.ifCond .ne 60, 3) := by decide +kernel
theorem dX6_meanDistance_30 : decode cX6_meanDistance 30 = .ok (.iload 4, 2) := by decide +kernel
theorem dX6_meanDistance_32 : decode cX6_meanDistance 32 = .ok (.aload_n 0, 1) := by decide +kernel
theorem dX6_meanDistance_33 : decode cX6_meanDistance 33 = .ok (.getfield 7, 3) := by decide +kernel
theorem dX6_meanDistance_36 : decode cX6_meanDistance 36 = .ok (.iload_n 1, 1) := by decide +kernel
theorem dX6_meanDistance_37 : decode cX6_meanDistance 37 = .ok (.iaload, 1) := by decide +kernel
theorem dX6_meanDistance_38 : decode cX6_meanDistance 38 = .ok (.if_icmp .ge 49, 3) := by decide +kernel
theorem dX6_meanDistance_87 : decode cX6_meanDistance 87 = .ok (.aload_n 0, 1) := by decide +kernel
theorem dX6_meanDistance_88 : decode cX6_meanDistance 88 = .ok (.aload_n 0, 1) := by decide +kernel
theorem dX6_meanDistance_89 : decode cX6_meanDistance 89 = .ok (.getfield 57, 3) := by decide +kernel
theorem dX6_meanDistance_92 : decode cX6_meanDistance 92 = .ok (.ifCond .ne 11, 3) := by decide +kernel
theorem dX6_meanDistance_95 : decode cX6_meanDistance 95 = .ok (.iload_n 2, 1) := by decide +kernel
theorem dX6_meanDistance_96 : decode cX6_meanDistance 96 = .ok (.ifCond .ne 7, 3) := by decide +kernel
theorem dX6_meanDistance_99 : decode cX6_meanDistance 99 = .ok (.iconst 2, 1) := by decide +kernel
theorem dX6_meanDistance_100 : decode cX6_meanDistance 100 = .ok (.goto 7, 3) := by decide +kernel
theorem dX6_meanDistance_103 : decode cX6_meanDistance 103 = .ok (.aload_n 0, 1) := by decide +kernel
theorem dX6_meanDistance_104 : decode cX6_meanDistance 104 = .ok (.getfield 57, 3) := by decide +kernel
theorem dX6_meanDistance_107 : decode cX6_meanDistance 107 = .ok (.putfield 57, 3) := by decide +kernel
theorem dX6_meanDistance_110 : decode cX6_meanDistance 110 = .ok (.aload_n 0, 1) := by decide +kernel
theorem dX6_meanDistance_111 : decode cX6_meanDistance 111 = .ok (.getfield 57, 3) := by decide +kernel
theorem dX6_meanDistance_114 : decode cX6_meanDistance 114 = .ok (.ifCond .ne 11, 3) := by decide +kernel
theorem dX6_meanDistance_125 : decode cX6_meanDistance 125 = .ok (.dconst 0, 1) := by decide +kernel
theorem dX6_meanDistance_126 : decode cX6_meanDistance 126 = .ok (.dreturn, 1) := by decide +kernel
set_option maxRecDepth 20000 in
theorem ggX6_valueSum_X6_isCircuit : GoodIn wsX6_valueSum wsX6_isCircuit := goodIn_r _ [6] (by decide +kernel) (by decide +kernel)
set_option maxRecDepth 20000 in
theorem gX6_valueSum_X6_isCircuit : GoodIn wsX6_valueSum (va_wsS RX6 81 yX6_isCircuit wsX6_isCircuit) := goodIn_app (goodIn_of _ (by decide +kernel)) ggX6_valueSum_X6_isCircuit
theorem dX6_valueSum_0 : decode cX6_valueSum 0 = .ok (.aload_n 0, 1) := by decide +kernel
theorem dX6_valueSum_1 : decode cX6_valueSum 1 = .ok (.iload_n 1, 1) := by decide +kernel
theorem dX6_valueSum_2 : decode cX6_valueSum 2 = .ok (.invokestatic 81, 3) := by decide +kernel
theorem dX6_valueSum_5 : decode cX6_valueSum 5 = .ok (.ifCond .eq 7, 3) := by decide +kernel
theorem dX6_valueSum_8 : decode cX6_valueSum 8 = .ok (.iconst 0, 1) := by decide +kernel
theorem dX6_valueSum_9 : decode cX6_valueSum 9 = .ok (.goto 4, 3) := by decide +kernel
theorem dX6_valueSum_12 : decode cX6_valueSum 12 = .ok (.iconst 1, 1) := by decide +kernel
theorem dX6_valueSum_13 : decode cX6_valueSum 13 = .ok (.putfield 57, 3) := by decide +kernel
theorem dX6_valueSum_16 : decode cX6_valueSum 16 = .ok (.lconst 0, 1) := by decide +kernel
theorem dX6_valueSum_17 : decode cX6_valueSum 17 = .ok (.lstore_n 2, 1) := by decide +kernel
theorem dX6_valueSum_18 : decode cX6_valueSum 18 = .ok (.iconst 0, 1) := by decide +kernel
theorem dX6_valueSum_19 : decode cX6_valueSum 19 = .ok (.istore 4, 2) := by decide +kernel
theorem dX6_valueSum_21 : decode cX6_valueSum 21 = .ok (.aload_n 0, 1) := by decide +kernel
theorem dX6_valueSum_22 : decode cX6_valueSum 22 = .ok (.getfield 57, 3) := by decide +kernel
theorem dX6_valueSum_25 : decode cX6_valueSum 25 = .ok (.ifCond .ne 45, 3) := by decide +kernel
theorem dX6_valueSum_28 : decode cX6_valueSum 28 = .ok (.iload 4, 2) := by decide +kernel
theorem dX6_valueSum_30 : decode cX6_valueSum 30 = .ok (.aload_n 0, 1) := by decide +kernel
theorem dX6_valueSum_31 : decode cX6_valueSum 31 = .ok (.getfield 13, 3) := by decide +kernel
theorem dX6_valueSum_34 : decode cX6_valueSum 34 = .ok (.iload_n 1, 1) := by decide +kernel
theorem dX6_valueSum_35 : decode cX6_valueSum 35 = .ok (.iaload, 1) := by decide +kernel
theorem dX6_valueSum_36 : decode cX6_valueSum 36 = .ok (.if_icmp .ge 34, 3) := by decide +kernel
theorem dX6_valueSum_70 : decode cX6_valueSum 70 = .ok (.lload_n 2, 1) := by decide +kernel
theorem dX6_valueSum_71 : decode cX6_valueSum 71 = .ok (.lreturn, 1) := by decide +kernel
set_option maxHeartbeats 4000000 in
set_option maxRecDepth 100000 in
/-- isAsked on a fresh model -/
theorem kX6_isAsked (l : Launch) (dC : Nat → ClassId) (dI : Nat → Nat → Nat) (k0 kN kA kO kK kV kG kP kC kD kE kF kX kY kT kU : Nat) (cI : ClassId) (p0 p1 : Int32) (sz : Nat) : fMi l yX6_isAsked wsX6_isAsked ({ frames := 2, cells := 0, slots := 0, locals := 47 } : Room) dC dI [.ref k0, .int p0, .int p1] [(k0, .inr (9, [.ref kN, .ref kA, .ref kO, .ref kK, .ref kV, .ref kG, .ref kP, .ref kC, .ref kD, .ref kE, .ref kF, .ref kX, .ref kY, .int 0, .ref kT, .ref kU, .int 0, .int 0, .int 0])), (kA, .inl (cI, 2, .inl (fun _ => 0)))] [(cI, .int)] sz (fun (r : Int32) (u : Int32) => r = 0 ∧ (u = 1 ∧ ¬ ((p0 = 0) ∨ (p0 = 1)) ∨ u = 2 ∧ ((p0 = 0) ∨ (p0 = 1)))) (fun u => [(k0, .inr (9, [.ref kN, .ref kA, .ref kO, .ref kK, .ref kV, .ref kG, .ref kP, .ref kC, .ref kD, .ref kE, .ref kF, .ref kX, .ref kY, .int 0, .ref kT, .ref kU, .int u, .int 0, .int 0]))]) (fun u => []) := by
  refine oP_z (y := yX6_isAsked) (cc := cX6_isAsked) (maxL := 3) (by decide) rfl (Nat.le_of_ble_eq_true rfl) ?_
  intro p e s m args below meth c ls A Q hx hb hr hml hown hts hN hZ hA hin hlk hP hK hD hl ret
  have hS : va_S A s.heap s.heap [] := va_S.rf
  have hl : lv_has ls 3 [(0, .ref k0), (1, .int p0), (2, .int p1)] := hl
  have hP : va_P (dC, dI) vwCl [(k0, .inr (9, [.ref kN, .ref kA, .ref kO, .ref kK, .ref kV, .ref kG, .ref kP, .ref kC, .ref kD, .ref kE, .ref kF, .ref kX, .ref kY, .int 0, .ref kT, .ref kU, .int 0, .int 0, .int 0])), (kA, .inl (cI, 2, .inl (fun _ => 0)))] _ := hP
  have hD : va_D A [(k0, .inr (9, [.ref kN, .ref kA, .ref kO, .ref kK, .ref kV, .ref kG, .ref kP, .ref kC, .ref kD, .ref kE, .ref kF, .ref kX, .ref kY, .int 0, .ref kT, .ref kU, .int 0, .int 0, .int 0])), (kA, .inl (cI, 2, .inl (fun _ => 0)))] := hD
  refine lv_aload_n hx hb dX6_isAsked_0 rfl (lv_at hl 0 rfl) ?_
  refine lv_iload_n hx hb dX6_isAsked_1 rfl (lv_at hl 1 rfl) ?_
  have hPc := hP.sub (ws' := []) [] rfl
  have hDc := hD.sub (ws' := []) [] (by decide) rfl
  have hKc := hK.sub (tys' := []) [] rfl
  have hFc := va_free (wc := []) hD hS hA [] rfl
  refine va_calli (va_runS (As := [.int p0]) (rest := [.ref k0]) ⟨hx, hb, hml, hown, hts⟩ (kX6_isCircuit l dC dI p0 s.heap.size) (va_cwS 1 hts gX6_isAsked_X6_isCircuit rfl rfl rfl (by decide +kernel) ⟨Nat.le_of_ble_eq_true rfl, Nat.le_of_ble_eq_true rfl⟩) (fPreS hN hZ hS (fun q h => hFc q h) hPc hKc hDc) rfl rfl hl.1 rfl (lv_room (Nat.le_of_ble_eq_true rfl)) dX6_isAsked_2 ⟨Nat.le_of_ble_eq_true rfl, Nat.le_of_ble_eq_true rfl⟩) hS (fun q _ h => hFc q h) hFc (fun r u t H1 locs ht hvm hw hB hz1 hk1 hS => ?_)
  obtain ⟨hP1, hK1, hD1⟩ := hB
  rw [ht] at hP1
  have hK1 := va_K.moved hvm.symm hK1
  obtain ⟨hP, hD⟩ := va_join (wr := [(k0, .inr (9, [.ref kN, .ref kA, .ref kO, .ref kK, .ref kV, .ref kG, .ref kP, .ref kC, .ref kD, .ref kE, .ref kF, .ref kX, .ref kY, .int 0, .ref kT, .ref kU, .int 0, .int 0, .int 0])), (kA, .inl (cI, 2, .inl (fun _ => 0)))]) (w1 := []) hP hD [] [0, 1] rfl rfl (by decide) (by decide) hk1 hFc hP1 hD1
  generalize H1 = H at hP hS ⊢
  have hP : va_P (dC, dI) vwCl [(k0, .inr (9, [.ref kN, .ref kA, .ref kO, .ref kK, .ref kV, .ref kG, .ref kP, .ref kC, .ref kD, .ref kE, .ref kF, .ref kX, .ref kY, .int 0, .ref kT, .ref kU, .int 0, .int 0, .int 0])), (kA, .inl (cI, 2, .inl (fun _ => 0)))] _ := hP
  have hD : va_D A [(k0, .inr (9, [.ref kN, .ref kA, .ref kO, .ref kK, .ref kV, .ref kG, .ref kP, .ref kC, .ref kD, .ref kE, .ref kF, .ref kX, .ref kY, .int 0, .ref kT, .ref kU, .int 0, .int 0, .int 0])), (kA, .inl (cI, 2, .inl (fun _ => 0)))] := hD
  rcases hw with ⟨rfl, hc | hc⟩ | ⟨rfl, hc⟩
  · skip
    subst hc
    have hP : va_P (dC, dI) vwCl [(k0, .inr (9, [.ref kN, .ref kA, .ref kO, .ref kK, .ref kV, .ref kG, .ref kP, .ref kC, .ref kD, .ref kE, .ref kF, .ref kX, .ref kY, .int 0, .ref kT, .ref kU, .int 0, .int 0, .int 0])), (kA, .inl (cI, 2, .inl (fun _ => 0)))] _ := hP
    have hD : va_D A [(k0, .inr (9, [.ref kN, .ref kA, .ref kO, .ref kK, .ref kV, .ref kG, .ref kP, .ref kC, .ref kD, .ref kE, .ref kF, .ref kX, .ref kY, .int 0, .ref kT, .ref kU, .int 0, .int 0, .int 0])), (kA, .inl (cI, 2, .inl (fun _ => 0)))] := hD
    refine lv_if_ne (tgt := 12) hx hb dX6_isAsked_5 (by decide) (fun _ => ?_) (fun h9 => absurd h9 (by decide))
    refine lv_aload_n hx hb dX6_isAsked_12 rfl (lv_at hl 0 rfl) ?_
    refine lv_iload_n hx hb dX6_isAsked_13 rfl (lv_at hl 1 rfl) ?_
    refine lv_iload_n hx hb dX6_isAsked_14 rfl (lv_at hl 2 rfl) ?_
    have hPc := hP.sub (ws' := [(k0, .inr (9, [.ref kN, .ref kA, .ref kO, .ref kK, .ref kV, .ref kG, .ref kP, .ref kC, .ref kD, .ref kE, .ref kF, .ref kX, .ref kY, .int 0, .ref kT, .ref kU, .int 0, .int 0, .int 0])), (kA, .inl (cI, 2, .inl (fun _ => 0)))]) [0, 1] rfl
    have hDc := hD.sub (ws' := [(k0, .inr (9, [.ref kN, .ref kA, .ref kO, .ref kK, .ref kV, .ref kG, .ref kP, .ref kC, .ref kD, .ref kE, .ref kF, .ref kX, .ref kY, .int 0, .ref kT, .ref kU, .int 0, .int 0, .int 0])), (kA, .inl (cI, 2, .inl (fun _ => 0)))]) [0, 1] (by decide) rfl
    have hKc := hK.sub (tys' := [(cI, .int)]) [0] rfl
    have hFc := va_free (wc := [(k0, .inr (9, [.ref kN, .ref kA, .ref kO, .ref kK, .ref kV, .ref kG, .ref kP, .ref kC, .ref kD, .ref kE, .ref kF, .ref kX, .ref kY, .int 0, .ref kT, .ref kU, .int 0, .int 0, .int 0])), (kA, .inl (cI, 2, .inl (fun _ => 0)))]) hD hS hA [0, 1] rfl
    refine va_calli (va_runV (As := [.int 0, .int p1]) (rest := [.ref k0]) ⟨hx, hb, hml, hown, hts⟩ (kX6_isPart0 l dC dI k0 kN kA kO kK kV kG kP kC kD kE kF kX kY kT kU cI p1 H.size) (cwV 2 hts gX6_isAsked_X6_isPart rfl rfl rfl (by decide +kernel) ⟨Nat.le_of_ble_eq_true rfl, Nat.le_of_ble_eq_true rfl⟩) (fPreV hN hZ hS (fun q h => hFc q h) hPc hKc hDc (ci := 9) (q0 := 0) rfl rfl) rfl rfl hl.1 rfl (lv_room (Nat.le_of_ble_eq_true rfl)) dX6_isAsked_15 ⟨Nat.le_of_ble_eq_true rfl, Nat.le_of_ble_eq_true rfl⟩) hS (fun q _ h => hFc q h) hFc (fun r u t H1 locs ht hvm hw hB hz1 hk1 hS => ?_)
    obtain ⟨hP1, hK1, hD1⟩ := hB
    rw [ht] at hP1
    have hK1 := va_K.moved hvm.symm hK1
    obtain ⟨hP, hD⟩ := va_join (wr := []) (w1 := [(k0, .inr (9, [.ref kN, .ref kA, .ref kO, .ref kK, .ref kV, .ref kG, .ref kP, .ref kC, .ref kD, .ref kE, .ref kF, .ref kX, .ref kY, .int 0, .ref kT, .ref kU, .int 0, .int 0, .int 0])), (kA, .inl (cI, 2, .inl (fun _ => 0)))]) hP hD [0, 1] [] rfl rfl (by decide) (by decide) hk1 hFc hP1 hD1
    generalize H1 = H at hP hS ⊢
    have hP : va_P (dC, dI) vwCl [(k0, .inr (9, [.ref kN, .ref kA, .ref kO, .ref kK, .ref kV, .ref kG, .ref kP, .ref kC, .ref kD, .ref kE, .ref kF, .ref kX, .ref kY, .int 0, .ref kT, .ref kU, .int 0, .int 0, .int 0])), (kA, .inl (cI, 2, .inl (fun _ => 0)))] _ := hP
    have hD : va_D A [(k0, .inr (9, [.ref kN, .ref kA, .ref kO, .ref kK, .ref kV, .ref kG, .ref kP, .ref kC, .ref kD, .ref kE, .ref kF, .ref kX, .ref kY, .int 0, .ref kT, .ref kU, .int 0, .int 0, .int 0])), (kA, .inl (cI, 2, .inl (fun _ => 0)))] := hD
    subst hw
    refine lv_if_ne (tgt := 25) hx hb dX6_isAsked_18 (by decide) (fun h9 => absurd (by decide) h9) (fun _ => ?_)
    refine lv_iconst (v := 2) hx hb dX6_isAsked_21 (by decide) ?_
    refine lv_goto (tgt := 26) hx hb dX6_isAsked_22 (by decide) ?_
    refine va_put (D := (dC, dI)) (ci := 9) (v := .int 2) (ty := .int) (C := RX6) (T := TX6) (N := 19) hx hb hts (fun w h => List.mem_cons_of_mem _ (List.mem_append_left _ (List.mem_append_right _ (h)))) tyX6 tyX6_ok nmX6 hown hK hP hD hS 0 rfl rfl 16 (by decide) (hts (.fieldLink RX6 57 "NetcompareModel" "thrown" "I") (List.mem_cons_of_mem _ (List.mem_append_left _ (List.mem_append_left _ (List.mem_of_getElem? (i := 0) rfl))))) (fun _ h9 => h9) rfl (by decide +kernel) rfl rfl (Nat.le_of_ble_eq_true rfl) dX6_isAsked_26 (fun H locs hP hD hS => ?_)
    have hP : va_P (dC, dI) vwCl [(k0, .inr (9, [.ref kN, .ref kA, .ref kO, .ref kK, .ref kV, .ref kG, .ref kP, .ref kC, .ref kD, .ref kE, .ref kF, .ref kX, .ref kY, .int 0, .ref kT, .ref kU, .int 2, .int 0, .int 0])), (kA, .inl (cI, 2, .inl (fun _ => 0)))] _ := hP
    have hD : va_D A [(k0, .inr (9, [.ref kN, .ref kA, .ref kO, .ref kK, .ref kV, .ref kG, .ref kP, .ref kC, .ref kD, .ref kE, .ref kF, .ref kX, .ref kY, .int 0, .ref kT, .ref kU, .int 2, .int 0, .int 0])), (kA, .inl (cI, 2, .inl (fun _ => 0)))] := hD
    refine lv_aload_n hx hb dX6_isAsked_29 rfl (lv_at hl 0 rfl) ?_
    refine va_get (D := (dC, dI)) (ci := 9) (v := .int 2) (C := RX6) (T := TX6) (N := 19) hx hb hts (fun w h => List.mem_cons_of_mem _ (List.mem_append_left _ (List.mem_append_right _ (h)))) hown hK hP 0 rfl rfl 16 (by decide) (hts (.fieldLink RX6 57 "NetcompareModel" "thrown" "I") (List.mem_cons_of_mem _ (List.mem_append_left _ (List.mem_append_left _ (List.mem_of_getElem? (i := 0) rfl))))) (fun _ h9 => h9) rfl dX6_isAsked_30 ?_
    refine lv_if_ne (tgt := 40) hx hb dX6_isAsked_33 (by decide) (fun _ => ?_) (fun h9 => absurd h9 (by decide))
    refine lv_iconst (v := 0) hx hb dX6_isAsked_40 (by decide) ?_
    exact ret _ 2 _ _ _ _ _ _ (rfl) (⟨rfl, Or.inr ⟨rfl, Or.inl (rfl)⟩⟩) (hP.sub [0] rfl) (hK.sub [] rfl) (hD.sub [0] (by decide) rfl) hS (Nat.le_of_ble_eq_true rfl) (Nat.le_of_ble_eq_true rfl) dX6_isAsked_41
  · skip
    subst hc
    have hP : va_P (dC, dI) vwCl [(k0, .inr (9, [.ref kN, .ref kA, .ref kO, .ref kK, .ref kV, .ref kG, .ref kP, .ref kC, .ref kD, .ref kE, .ref kF, .ref kX, .ref kY, .int 0, .ref kT, .ref kU, .int 0, .int 0, .int 0])), (kA, .inl (cI, 2, .inl (fun _ => 0)))] _ := hP
    have hD : va_D A [(k0, .inr (9, [.ref kN, .ref kA, .ref kO, .ref kK, .ref kV, .ref kG, .ref kP, .ref kC, .ref kD, .ref kE, .ref kF, .ref kX, .ref kY, .int 0, .ref kT, .ref kU, .int 0, .int 0, .int 0])), (kA, .inl (cI, 2, .inl (fun _ => 0)))] := hD
    refine lv_if_ne (tgt := 12) hx hb dX6_isAsked_5 (by decide) (fun _ => ?_) (fun h9 => absurd h9 (by decide))
    refine lv_aload_n hx hb dX6_isAsked_12 rfl (lv_at hl 0 rfl) ?_
    refine lv_iload_n hx hb dX6_isAsked_13 rfl (lv_at hl 1 rfl) ?_
    refine lv_iload_n hx hb dX6_isAsked_14 rfl (lv_at hl 2 rfl) ?_
    have hPc := hP.sub (ws' := [(k0, .inr (9, [.ref kN, .ref kA, .ref kO, .ref kK, .ref kV, .ref kG, .ref kP, .ref kC, .ref kD, .ref kE, .ref kF, .ref kX, .ref kY, .int 0, .ref kT, .ref kU, .int 0, .int 0, .int 0])), (kA, .inl (cI, 2, .inl (fun _ => 0)))]) [0, 1] rfl
    have hDc := hD.sub (ws' := [(k0, .inr (9, [.ref kN, .ref kA, .ref kO, .ref kK, .ref kV, .ref kG, .ref kP, .ref kC, .ref kD, .ref kE, .ref kF, .ref kX, .ref kY, .int 0, .ref kT, .ref kU, .int 0, .int 0, .int 0])), (kA, .inl (cI, 2, .inl (fun _ => 0)))]) [0, 1] (by decide) rfl
    have hKc := hK.sub (tys' := [(cI, .int)]) [0] rfl
    have hFc := va_free (wc := [(k0, .inr (9, [.ref kN, .ref kA, .ref kO, .ref kK, .ref kV, .ref kG, .ref kP, .ref kC, .ref kD, .ref kE, .ref kF, .ref kX, .ref kY, .int 0, .ref kT, .ref kU, .int 0, .int 0, .int 0])), (kA, .inl (cI, 2, .inl (fun _ => 0)))]) hD hS hA [0, 1] rfl
    refine va_calli (va_runV (As := [.int 1, .int p1]) (rest := [.ref k0]) ⟨hx, hb, hml, hown, hts⟩ (kX6_isPart1 l dC dI k0 kN kA kO kK kV kG kP kC kD kE kF kX kY kT kU cI p1 H.size) (cwV 2 hts gX6_isAsked_X6_isPart rfl rfl rfl (by decide +kernel) ⟨Nat.le_of_ble_eq_true rfl, Nat.le_of_ble_eq_true rfl⟩) (fPreV hN hZ hS (fun q h => hFc q h) hPc hKc hDc (ci := 9) (q0 := 0) rfl rfl) rfl rfl hl.1 rfl (lv_room (Nat.le_of_ble_eq_true rfl)) dX6_isAsked_15 ⟨Nat.le_of_ble_eq_true rfl, Nat.le_of_ble_eq_true rfl⟩) hS (fun q _ h => hFc q h) hFc (fun r u t H1 locs ht hvm hw hB hz1 hk1 hS => ?_)
    obtain ⟨hP1, hK1, hD1⟩ := hB
    rw [ht] at hP1
    have hK1 := va_K.moved hvm.symm hK1
    obtain ⟨hP, hD⟩ := va_join (wr := []) (w1 := [(k0, .inr (9, [.ref kN, .ref kA, .ref kO, .ref kK, .ref kV, .ref kG, .ref kP, .ref kC, .ref kD, .ref kE, .ref kF, .ref kX, .ref kY, .int 0, .ref kT, .ref kU, .int 0, .int 0, .int 0])), (kA, .inl (cI, 2, .inl (fun _ => 0)))]) hP hD [0, 1] [] rfl rfl (by decide) (by decide) hk1 hFc hP1 hD1
    generalize H1 = H at hP hS ⊢
    have hP : va_P (dC, dI) vwCl [(k0, .inr (9, [.ref kN, .ref kA, .ref kO, .ref kK, .ref kV, .ref kG, .ref kP, .ref kC, .ref kD, .ref kE, .ref kF, .ref kX, .ref kY, .int 0, .ref kT, .ref kU, .int 0, .int 0, .int 0])), (kA, .inl (cI, 2, .inl (fun _ => 0)))] _ := hP
    have hD : va_D A [(k0, .inr (9, [.ref kN, .ref kA, .ref kO, .ref kK, .ref kV, .ref kG, .ref kP, .ref kC, .ref kD, .ref kE, .ref kF, .ref kX, .ref kY, .int 0, .ref kT, .ref kU, .int 0, .int 0, .int 0])), (kA, .inl (cI, 2, .inl (fun _ => 0)))] := hD
    subst hw
    refine lv_if_ne (tgt := 25) hx hb dX6_isAsked_18 (by decide) (fun h9 => absurd (by decide) h9) (fun _ => ?_)
    refine lv_iconst (v := 2) hx hb dX6_isAsked_21 (by decide) ?_
    refine lv_goto (tgt := 26) hx hb dX6_isAsked_22 (by decide) ?_
    refine va_put (D := (dC, dI)) (ci := 9) (v := .int 2) (ty := .int) (C := RX6) (T := TX6) (N := 19) hx hb hts (fun w h => List.mem_cons_of_mem _ (List.mem_append_left _ (List.mem_append_right _ (h)))) tyX6 tyX6_ok nmX6 hown hK hP hD hS 0 rfl rfl 16 (by decide) (hts (.fieldLink RX6 57 "NetcompareModel" "thrown" "I") (List.mem_cons_of_mem _ (List.mem_append_left _ (List.mem_append_left _ (List.mem_of_getElem? (i := 0) rfl))))) (fun _ h9 => h9) rfl (by decide +kernel) rfl rfl (Nat.le_of_ble_eq_true rfl) dX6_isAsked_26 (fun H locs hP hD hS => ?_)
    have hP : va_P (dC, dI) vwCl [(k0, .inr (9, [.ref kN, .ref kA, .ref kO, .ref kK, .ref kV, .ref kG, .ref kP, .ref kC, .ref kD, .ref kE, .ref kF, .ref kX, .ref kY, .int 0, .ref kT, .ref kU, .int 2, .int 0, .int 0])), (kA, .inl (cI, 2, .inl (fun _ => 0)))] _ := hP
    have hD : va_D A [(k0, .inr (9, [.ref kN, .ref kA, .ref kO, .ref kK, .ref kV, .ref kG, .ref kP, .ref kC, .ref kD, .ref kE, .ref kF, .ref kX, .ref kY, .int 0, .ref kT, .ref kU, .int 2, .int 0, .int 0])), (kA, .inl (cI, 2, .inl (fun _ => 0)))] := hD
    refine lv_aload_n hx hb dX6_isAsked_29 rfl (lv_at hl 0 rfl) ?_
    refine va_get (D := (dC, dI)) (ci := 9) (v := .int 2) (C := RX6) (T := TX6) (N := 19) hx hb hts (fun w h => List.mem_cons_of_mem _ (List.mem_append_left _ (List.mem_append_right _ (h)))) hown hK hP 0 rfl rfl 16 (by decide) (hts (.fieldLink RX6 57 "NetcompareModel" "thrown" "I") (List.mem_cons_of_mem _ (List.mem_append_left _ (List.mem_append_left _ (List.mem_of_getElem? (i := 0) rfl))))) (fun _ h9 => h9) rfl dX6_isAsked_30 ?_
    refine lv_if_ne (tgt := 40) hx hb dX6_isAsked_33 (by decide) (fun _ => ?_) (fun h9 => absurd h9 (by decide))
    refine lv_iconst (v := 0) hx hb dX6_isAsked_40 (by decide) ?_
    exact ret _ 2 _ _ _ _ _ _ (rfl) (⟨rfl, Or.inr ⟨rfl, Or.inr (rfl)⟩⟩) (hP.sub [0] rfl) (hK.sub [] rfl) (hD.sub [0] (by decide) rfl) hS (Nat.le_of_ble_eq_true rfl) (Nat.le_of_ble_eq_true rfl) dX6_isAsked_41
  · skip
    have hc1 := hc
    refine lv_if_ne (tgt := 12) hx hb dX6_isAsked_5 (by decide) (fun h9 => absurd (by decide) h9) (fun _ => ?_)
    refine lv_iconst (v := 1) hx hb dX6_isAsked_8 (by decide) ?_
    refine lv_goto (tgt := 26) hx hb dX6_isAsked_9 (by decide) ?_
    refine va_put (D := (dC, dI)) (ci := 9) (v := .int 1) (ty := .int) (C := RX6) (T := TX6) (N := 19) hx hb hts (fun w h => List.mem_cons_of_mem _ (List.mem_append_left _ (List.mem_append_right _ (h)))) tyX6 tyX6_ok nmX6 hown hK hP hD hS 0 rfl rfl 16 (by decide) (hts (.fieldLink RX6 57 "NetcompareModel" "thrown" "I") (List.mem_cons_of_mem _ (List.mem_append_left _ (List.mem_append_left _ (List.mem_of_getElem? (i := 0) rfl))))) (fun _ h9 => h9) rfl (by decide +kernel) rfl rfl (Nat.le_of_ble_eq_true rfl) dX6_isAsked_26 (fun H locs hP hD hS => ?_)
    have hP : va_P (dC, dI) vwCl [(k0, .inr (9, [.ref kN, .ref kA, .ref kO, .ref kK, .ref kV, .ref kG, .ref kP, .ref kC, .ref kD, .ref kE, .ref kF, .ref kX, .ref kY, .int 0, .ref kT, .ref kU, .int 1, .int 0, .int 0])), (kA, .inl (cI, 2, .inl (fun _ => 0)))] _ := hP
    have hD : va_D A [(k0, .inr (9, [.ref kN, .ref kA, .ref kO, .ref kK, .ref kV, .ref kG, .ref kP, .ref kC, .ref kD, .ref kE, .ref kF, .ref kX, .ref kY, .int 0, .ref kT, .ref kU, .int 1, .int 0, .int 0])), (kA, .inl (cI, 2, .inl (fun _ => 0)))] := hD
    refine lv_aload_n hx hb dX6_isAsked_29 rfl (lv_at hl 0 rfl) ?_
    refine va_get (D := (dC, dI)) (ci := 9) (v := .int 1) (C := RX6) (T := TX6) (N := 19) hx hb hts (fun w h => List.mem_cons_of_mem _ (List.mem_append_left _ (List.mem_append_right _ (h)))) hown hK hP 0 rfl rfl 16 (by decide) (hts (.fieldLink RX6 57 "NetcompareModel" "thrown" "I") (List.mem_cons_of_mem _ (List.mem_append_left _ (List.mem_append_left _ (List.mem_of_getElem? (i := 0) rfl))))) (fun _ h9 => h9) rfl dX6_isAsked_30 ?_
    refine lv_if_ne (tgt := 40) hx hb dX6_isAsked_33 (by decide) (fun _ => ?_) (fun h9 => absurd h9 (by decide))
    refine lv_iconst (v := 0) hx hb dX6_isAsked_40 (by decide) ?_
    exact ret _ 1 _ _ _ _ _ _ (rfl) (⟨rfl, Or.inl ⟨rfl, hc1⟩⟩) (hP.sub [0] rfl) (hK.sub [] rfl) (hD.sub [0] (by decide) rfl) hS (Nat.le_of_ble_eq_true rfl) (Nat.le_of_ble_eq_true rfl) dX6_isAsked_41

set_option maxHeartbeats 4000000 in
set_option maxRecDepth 100000 in
/-- areAsked on a fresh model -/
theorem kX6_areAsked (l : Launch) (dC : Nat → ClassId) (dI : Nat → Nat → Nat) (k0 kN kA kO kK kV kG kP kC kD kE kF kX kY kT kU : Nat) (cI : ClassId) (p0 p1 p2 : Int32) (sz : Nat) : fMi l yX6_areAsked wsX6_areAsked ({ frames := 2, cells := 0, slots := 0, locals := 47 } : Room) dC dI [.ref k0, .int p0, .int p1, .int p2] [(k0, .inr (9, [.ref kN, .ref kA, .ref kO, .ref kK, .ref kV, .ref kG, .ref kP, .ref kC, .ref kD, .ref kE, .ref kF, .ref kX, .ref kY, .int 0, .ref kT, .ref kU, .int 0, .int 0, .int 0])), (kA, .inl (cI, 2, .inl (fun _ => 0)))] [(cI, .int)] sz (fun (r : Int32) (u : Int32) => r = 0 ∧ (u = 1 ∧ ¬ ((p0 = 0) ∨ (p0 = 1)) ∨ u = 2 ∧ ((p0 = 0) ∨ (p0 = 1)))) (fun u => [(k0, .inr (9, [.ref kN, .ref kA, .ref kO, .ref kK, .ref kV, .ref kG, .ref kP, .ref kC, .ref kD, .ref kE, .ref kF, .ref kX, .ref kY, .int 0, .ref kT, .ref kU, .int u, .int 0, .int 0]))]) (fun u => []) := by
  refine oP_z (y := yX6_areAsked) (cc := cX6_areAsked) (maxL := 4) (by decide) rfl (Nat.le_of_ble_eq_true rfl) ?_
  intro p e s m args below meth c ls A Q hx hb hr hml hown hts hN hZ hA hin hlk hP hK hD hl ret
  have hS : va_S A s.heap s.heap [] := va_S.rf
  have hl : lv_has ls 4 [(0, .ref k0), (1, .int p0), (2, .int p1), (3, .int p2)] := hl
  have hP : va_P (dC, dI) vwCl [(k0, .inr (9, [.ref kN, .ref kA, .ref kO, .ref kK, .ref kV, .ref kG, .ref kP, .ref kC, .ref kD, .ref kE, .ref kF, .ref kX, .ref kY, .int 0, .ref kT, .ref kU, .int 0, .int 0, .int 0])), (kA, .inl (cI, 2, .inl (fun _ => 0)))] _ := hP
  have hD : va_D A [(k0, .inr (9, [.ref kN, .ref kA, .ref kO, .ref kK, .ref kV, .ref kG, .ref kP, .ref kC, .ref kD, .ref kE, .ref kF, .ref kX, .ref kY, .int 0, .ref kT, .ref kU, .int 0, .int 0, .int 0])), (kA, .inl (cI, 2, .inl (fun _ => 0)))] := hD
  refine lv_aload_n hx hb dX6_areAsked_0 rfl (lv_at hl 0 rfl) ?_
  refine lv_iload_n hx hb dX6_areAsked_1 rfl (lv_at hl 1 rfl) ?_
  have hPc := hP.sub (ws' := []) [] rfl
  have hDc := hD.sub (ws' := []) [] (by decide) rfl
  have hKc := hK.sub (tys' := []) [] rfl
  have hFc := va_free (wc := []) hD hS hA [] rfl
  refine va_calli (va_runS (As := [.int p0]) (rest := [.ref k0]) ⟨hx, hb, hml, hown, hts⟩ (kX6_isCircuit l dC dI p0 s.heap.size) (va_cwS 1 hts gX6_areAsked_X6_isCircuit rfl rfl rfl (by decide +kernel) ⟨Nat.le_of_ble_eq_true rfl, Nat.le_of_ble_eq_true rfl⟩) (fPreS hN hZ hS (fun q h => hFc q h) hPc hKc hDc) rfl rfl hl.1 rfl (lv_room (Nat.le_of_ble_eq_true rfl)) dX6_areAsked_2 ⟨Nat.le_of_ble_eq_true rfl, Nat.le_of_ble_eq_true rfl⟩) hS (fun q _ h => hFc q h) hFc (fun r u t H1 locs ht hvm hw hB hz1 hk1 hS => ?_)
  obtain ⟨hP1, hK1, hD1⟩ := hB
  rw [ht] at hP1
  have hK1 := va_K.moved hvm.symm hK1
  obtain ⟨hP, hD⟩ := va_join (wr := [(k0, .inr (9, [.ref kN, .ref kA, .ref kO, .ref kK, .ref kV, .ref kG, .ref kP, .ref kC, .ref kD, .ref kE, .ref kF, .ref kX, .ref kY, .int 0, .ref kT, .ref kU, .int 0, .int 0, .int 0])), (kA, .inl (cI, 2, .inl (fun _ => 0)))]) (w1 := []) hP hD [] [0, 1] rfl rfl (by decide) (by decide) hk1 hFc hP1 hD1
  generalize H1 = H at hP hS ⊢
  have hP : va_P (dC, dI) vwCl [(k0, .inr (9, [.ref kN, .ref kA, .ref kO, .ref kK, .ref kV, .ref kG, .ref kP, .ref kC, .ref kD, .ref kE, .ref kF, .ref kX, .ref kY, .int 0, .ref kT, .ref kU, .int 0, .int 0, .int 0])), (kA, .inl (cI, 2, .inl (fun _ => 0)))] _ := hP
  have hD : va_D A [(k0, .inr (9, [.ref kN, .ref kA, .ref kO, .ref kK, .ref kV, .ref kG, .ref kP, .ref kC, .ref kD, .ref kE, .ref kF, .ref kX, .ref kY, .int 0, .ref kT, .ref kU, .int 0, .int 0, .int 0])), (kA, .inl (cI, 2, .inl (fun _ => 0)))] := hD
  rcases hw with ⟨rfl, hc | hc⟩ | ⟨rfl, hc⟩
  · skip
    subst hc
    have hP : va_P (dC, dI) vwCl [(k0, .inr (9, [.ref kN, .ref kA, .ref kO, .ref kK, .ref kV, .ref kG, .ref kP, .ref kC, .ref kD, .ref kE, .ref kF, .ref kX, .ref kY, .int 0, .ref kT, .ref kU, .int 0, .int 0, .int 0])), (kA, .inl (cI, 2, .inl (fun _ => 0)))] _ := hP
    have hD : va_D A [(k0, .inr (9, [.ref kN, .ref kA, .ref kO, .ref kK, .ref kV, .ref kG, .ref kP, .ref kC, .ref kD, .ref kE, .ref kF, .ref kX, .ref kY, .int 0, .ref kT, .ref kU, .int 0, .int 0, .int 0])), (kA, .inl (cI, 2, .inl (fun _ => 0)))] := hD
    refine lv_if_ne (tgt := 12) hx hb dX6_areAsked_5 (by decide) (fun _ => ?_) (fun h9 => absurd h9 (by decide))
    refine lv_aload_n hx hb dX6_areAsked_12 rfl (lv_at hl 0 rfl) ?_
    refine lv_iload_n hx hb dX6_areAsked_13 rfl (lv_at hl 1 rfl) ?_
    refine lv_iload_n hx hb dX6_areAsked_14 rfl (lv_at hl 2 rfl) ?_
    have hPc := hP.sub (ws' := [(k0, .inr (9, [.ref kN, .ref kA, .ref kO, .ref kK, .ref kV, .ref kG, .ref kP, .ref kC, .ref kD, .ref kE, .ref kF, .ref kX, .ref kY, .int 0, .ref kT, .ref kU, .int 0, .int 0, .int 0])), (kA, .inl (cI, 2, .inl (fun _ => 0)))]) [0, 1] rfl
    have hDc := hD.sub (ws' := [(k0, .inr (9, [.ref kN, .ref kA, .ref kO, .ref kK, .ref kV, .ref kG, .ref kP, .ref kC, .ref kD, .ref kE, .ref kF, .ref kX, .ref kY, .int 0, .ref kT, .ref kU, .int 0, .int 0, .int 0])), (kA, .inl (cI, 2, .inl (fun _ => 0)))]) [0, 1] (by decide) rfl
    have hKc := hK.sub (tys' := [(cI, .int)]) [0] rfl
    have hFc := va_free (wc := [(k0, .inr (9, [.ref kN, .ref kA, .ref kO, .ref kK, .ref kV, .ref kG, .ref kP, .ref kC, .ref kD, .ref kE, .ref kF, .ref kX, .ref kY, .int 0, .ref kT, .ref kU, .int 0, .int 0, .int 0])), (kA, .inl (cI, 2, .inl (fun _ => 0)))]) hD hS hA [0, 1] rfl
    refine va_calli (va_runV (As := [.int 0, .int p1]) (rest := [.ref k0]) ⟨hx, hb, hml, hown, hts⟩ (kX6_isPart0 l dC dI k0 kN kA kO kK kV kG kP kC kD kE kF kX kY kT kU cI p1 H.size) (cwV 2 hts gX6_areAsked_X6_isPart rfl rfl rfl (by decide +kernel) ⟨Nat.le_of_ble_eq_true rfl, Nat.le_of_ble_eq_true rfl⟩) (fPreV hN hZ hS (fun q h => hFc q h) hPc hKc hDc (ci := 9) (q0 := 0) rfl rfl) rfl rfl hl.1 rfl (lv_room (Nat.le_of_ble_eq_true rfl)) dX6_areAsked_15 ⟨Nat.le_of_ble_eq_true rfl, Nat.le_of_ble_eq_true rfl⟩) hS (fun q _ h => hFc q h) hFc (fun r u t H1 locs ht hvm hw hB hz1 hk1 hS => ?_)
    obtain ⟨hP1, hK1, hD1⟩ := hB
    rw [ht] at hP1
    have hK1 := va_K.moved hvm.symm hK1
    obtain ⟨hP, hD⟩ := va_join (wr := []) (w1 := [(k0, .inr (9, [.ref kN, .ref kA, .ref kO, .ref kK, .ref kV, .ref kG, .ref kP, .ref kC, .ref kD, .ref kE, .ref kF, .ref kX, .ref kY, .int 0, .ref kT, .ref kU, .int 0, .int 0, .int 0])), (kA, .inl (cI, 2, .inl (fun _ => 0)))]) hP hD [0, 1] [] rfl rfl (by decide) (by decide) hk1 hFc hP1 hD1
    generalize H1 = H at hP hS ⊢
    have hP : va_P (dC, dI) vwCl [(k0, .inr (9, [.ref kN, .ref kA, .ref kO, .ref kK, .ref kV, .ref kG, .ref kP, .ref kC, .ref kD, .ref kE, .ref kF, .ref kX, .ref kY, .int 0, .ref kT, .ref kU, .int 0, .int 0, .int 0])), (kA, .inl (cI, 2, .inl (fun _ => 0)))] _ := hP
    have hD : va_D A [(k0, .inr (9, [.ref kN, .ref kA, .ref kO, .ref kK, .ref kV, .ref kG, .ref kP, .ref kC, .ref kD, .ref kE, .ref kF, .ref kX, .ref kY, .int 0, .ref kT, .ref kU, .int 0, .int 0, .int 0])), (kA, .inl (cI, 2, .inl (fun _ => 0)))] := hD
    subst hw
    refine lv_if_eq (tgt := 30) hx hb dX6_areAsked_18 (by decide) (fun _ => ?_) (fun h9 => absurd (by decide) h9)
    refine lv_iconst (v := 2) hx hb dX6_areAsked_30 (by decide) ?_
    refine lv_goto (tgt := 35) hx hb dX6_areAsked_31 (by decide) ?_
    refine va_put (D := (dC, dI)) (ci := 9) (v := .int 2) (ty := .int) (C := RX6) (T := TX6) (N := 19) hx hb hts (fun w h => List.mem_cons_of_mem _ (List.mem_append_left _ (List.mem_append_right _ (h)))) tyX6 tyX6_ok nmX6 hown hK hP hD hS 0 rfl rfl 16 (by decide) (hts (.fieldLink RX6 57 "NetcompareModel" "thrown" "I") (List.mem_cons_of_mem _ (List.mem_append_left _ (List.mem_append_left _ (List.mem_of_getElem? (i := 0) rfl))))) (fun _ h9 => h9) rfl (by decide +kernel) rfl rfl (Nat.le_of_ble_eq_true rfl) dX6_areAsked_35 (fun H locs hP hD hS => ?_)
    have hP : va_P (dC, dI) vwCl [(k0, .inr (9, [.ref kN, .ref kA, .ref kO, .ref kK, .ref kV, .ref kG, .ref kP, .ref kC, .ref kD, .ref kE, .ref kF, .ref kX, .ref kY, .int 0, .ref kT, .ref kU, .int 2, .int 0, .int 0])), (kA, .inl (cI, 2, .inl (fun _ => 0)))] _ := hP
    have hD : va_D A [(k0, .inr (9, [.ref kN, .ref kA, .ref kO, .ref kK, .ref kV, .ref kG, .ref kP, .ref kC, .ref kD, .ref kE, .ref kF, .ref kX, .ref kY, .int 0, .ref kT, .ref kU, .int 2, .int 0, .int 0])), (kA, .inl (cI, 2, .inl (fun _ => 0)))] := hD
    refine lv_aload_n hx hb dX6_areAsked_38 rfl (lv_at hl 0 rfl) ?_
    refine va_get (D := (dC, dI)) (ci := 9) (v := .int 2) (C := RX6) (T := TX6) (N := 19) hx hb hts (fun w h => List.mem_cons_of_mem _ (List.mem_append_left _ (List.mem_append_right _ (h)))) hown hK hP 0 rfl rfl 16 (by decide) (hts (.fieldLink RX6 57 "NetcompareModel" "thrown" "I") (List.mem_cons_of_mem _ (List.mem_append_left _ (List.mem_append_left _ (List.mem_of_getElem? (i := 0) rfl))))) (fun _ h9 => h9) rfl dX6_areAsked_39 ?_
    refine lv_if_ne (tgt := 49) hx hb dX6_areAsked_42 (by decide) (fun _ => ?_) (fun h9 => absurd h9 (by decide))
    refine lv_iconst (v := 0) hx hb dX6_areAsked_49 (by decide) ?_
    exact ret _ 2 _ _ _ _ _ _ (rfl) (⟨rfl, Or.inr ⟨rfl, Or.inl (rfl)⟩⟩) (hP.sub [0] rfl) (hK.sub [] rfl) (hD.sub [0] (by decide) rfl) hS (Nat.le_of_ble_eq_true rfl) (Nat.le_of_ble_eq_true rfl) dX6_areAsked_50
  · skip
    subst hc
    have hP : va_P (dC, dI) vwCl [(k0, .inr (9, [.ref kN, .ref kA, .ref kO, .ref kK, .ref kV, .ref kG, .ref kP, .ref kC, .ref kD, .ref kE, .ref kF, .ref kX, .ref kY, .int 0, .ref kT, .ref kU, .int 0, .int 0, .int 0])), (kA, .inl (cI, 2, .inl (fun _ => 0)))] _ := hP
    have hD : va_D A [(k0, .inr (9, [.ref kN, .ref kA, .ref kO, .ref kK, .ref kV, .ref kG, .ref kP, .ref kC, .ref kD, .ref kE, .ref kF, .ref kX, .ref kY, .int 0, .ref kT, .ref kU, .int 0, .int 0, .int 0])), (kA, .inl (cI, 2, .inl (fun _ => 0)))] := hD
    refine lv_if_ne (tgt := 12) hx hb dX6_areAsked_5 (by decide) (fun _ => ?_) (fun h9 => absurd h9 (by decide))
    refine lv_aload_n hx hb dX6_areAsked_12 rfl (lv_at hl 0 rfl) ?_
    refine lv_iload_n hx hb dX6_areAsked_13 rfl (lv_at hl 1 rfl) ?_
    refine lv_iload_n hx hb dX6_areAsked_14 rfl (lv_at hl 2 rfl) ?_
    have hPc := hP.sub (ws' := [(k0, .inr (9, [.ref kN, .ref kA, .ref kO, .ref kK, .ref kV, .ref kG, .ref kP, .ref kC, .ref kD, .ref kE, .ref kF, .ref kX, .ref kY, .int 0, .ref kT, .ref kU, .int 0, .int 0, .int 0])), (kA, .inl (cI, 2, .inl (fun _ => 0)))]) [0, 1] rfl
    have hDc := hD.sub (ws' := [(k0, .inr (9, [.ref kN, .ref kA, .ref kO, .ref kK, .ref kV, .ref kG, .ref kP, .ref kC, .ref kD, .ref kE, .ref kF, .ref kX, .ref kY, .int 0, .ref kT, .ref kU, .int 0, .int 0, .int 0])), (kA, .inl (cI, 2, .inl (fun _ => 0)))]) [0, 1] (by decide) rfl
    have hKc := hK.sub (tys' := [(cI, .int)]) [0] rfl
    have hFc := va_free (wc := [(k0, .inr (9, [.ref kN, .ref kA, .ref kO, .ref kK, .ref kV, .ref kG, .ref kP, .ref kC, .ref kD, .ref kE, .ref kF, .ref kX, .ref kY, .int 0, .ref kT, .ref kU, .int 0, .int 0, .int 0])), (kA, .inl (cI, 2, .inl (fun _ => 0)))]) hD hS hA [0, 1] rfl
    refine va_calli (va_runV (As := [.int 1, .int p1]) (rest := [.ref k0]) ⟨hx, hb, hml, hown, hts⟩ (kX6_isPart1 l dC dI k0 kN kA kO kK kV kG kP kC kD kE kF kX kY kT kU cI p1 H.size) (cwV 2 hts gX6_areAsked_X6_isPart rfl rfl rfl (by decide +kernel) ⟨Nat.le_of_ble_eq_true rfl, Nat.le_of_ble_eq_true rfl⟩) (fPreV hN hZ hS (fun q h => hFc q h) hPc hKc hDc (ci := 9) (q0 := 0) rfl rfl) rfl rfl hl.1 rfl (lv_room (Nat.le_of_ble_eq_true rfl)) dX6_areAsked_15 ⟨Nat.le_of_ble_eq_true rfl, Nat.le_of_ble_eq_true rfl⟩) hS (fun q _ h => hFc q h) hFc (fun r u t H1 locs ht hvm hw hB hz1 hk1 hS => ?_)
    obtain ⟨hP1, hK1, hD1⟩ := hB
    rw [ht] at hP1
    have hK1 := va_K.moved hvm.symm hK1
    obtain ⟨hP, hD⟩ := va_join (wr := []) (w1 := [(k0, .inr (9, [.ref kN, .ref kA, .ref kO, .ref kK, .ref kV, .ref kG, .ref kP, .ref kC, .ref kD, .ref kE, .ref kF, .ref kX, .ref kY, .int 0, .ref kT, .ref kU, .int 0, .int 0, .int 0])), (kA, .inl (cI, 2, .inl (fun _ => 0)))]) hP hD [0, 1] [] rfl rfl (by decide) (by decide) hk1 hFc hP1 hD1
    generalize H1 = H at hP hS ⊢
    have hP : va_P (dC, dI) vwCl [(k0, .inr (9, [.ref kN, .ref kA, .ref kO, .ref kK, .ref kV, .ref kG, .ref kP, .ref kC, .ref kD, .ref kE, .ref kF, .ref kX, .ref kY, .int 0, .ref kT, .ref kU, .int 0, .int 0, .int 0])), (kA, .inl (cI, 2, .inl (fun _ => 0)))] _ := hP
    have hD : va_D A [(k0, .inr (9, [.ref kN, .ref kA, .ref kO, .ref kK, .ref kV, .ref kG, .ref kP, .ref kC, .ref kD, .ref kE, .ref kF, .ref kX, .ref kY, .int 0, .ref kT, .ref kU, .int 0, .int 0, .int 0])), (kA, .inl (cI, 2, .inl (fun _ => 0)))] := hD
    subst hw
    refine lv_if_eq (tgt := 30) hx hb dX6_areAsked_18 (by decide) (fun _ => ?_) (fun h9 => absurd (by decide) h9)
    refine lv_iconst (v := 2) hx hb dX6_areAsked_30 (by decide) ?_
    refine lv_goto (tgt := 35) hx hb dX6_areAsked_31 (by decide) ?_
    refine va_put (D := (dC, dI)) (ci := 9) (v := .int 2) (ty := .int) (C := RX6) (T := TX6) (N := 19) hx hb hts (fun w h => List.mem_cons_of_mem _ (List.mem_append_left _ (List.mem_append_right _ (h)))) tyX6 tyX6_ok nmX6 hown hK hP hD hS 0 rfl rfl 16 (by decide) (hts (.fieldLink RX6 57 "NetcompareModel" "thrown" "I") (List.mem_cons_of_mem _ (List.mem_append_left _ (List.mem_append_left _ (List.mem_of_getElem? (i := 0) rfl))))) (fun _ h9 => h9) rfl (by decide +kernel) rfl rfl (Nat.le_of_ble_eq_true rfl) dX6_areAsked_35 (fun H locs hP hD hS => ?_)
    have hP : va_P (dC, dI) vwCl [(k0, .inr (9, [.ref kN, .ref kA, .ref kO, .ref kK, .ref kV, .ref kG, .ref kP, .ref kC, .ref kD, .ref kE, .ref kF, .ref kX, .ref kY, .int 0, .ref kT, .ref kU, .int 2, .int 0, .int 0])), (kA, .inl (cI, 2, .inl (fun _ => 0)))] _ := hP
    have hD : va_D A [(k0, .inr (9, [.ref kN, .ref kA, .ref kO, .ref kK, .ref kV, .ref kG, .ref kP, .ref kC, .ref kD, .ref kE, .ref kF, .ref kX, .ref kY, .int 0, .ref kT, .ref kU, .int 2, .int 0, .int 0])), (kA, .inl (cI, 2, .inl (fun _ => 0)))] := hD
    refine lv_aload_n hx hb dX6_areAsked_38 rfl (lv_at hl 0 rfl) ?_
    refine va_get (D := (dC, dI)) (ci := 9) (v := .int 2) (C := RX6) (T := TX6) (N := 19) hx hb hts (fun w h => List.mem_cons_of_mem _ (List.mem_append_left _ (List.mem_append_right _ (h)))) hown hK hP 0 rfl rfl 16 (by decide) (hts (.fieldLink RX6 57 "NetcompareModel" "thrown" "I") (List.mem_cons_of_mem _ (List.mem_append_left _ (List.mem_append_left _ (List.mem_of_getElem? (i := 0) rfl))))) (fun _ h9 => h9) rfl dX6_areAsked_39 ?_
    refine lv_if_ne (tgt := 49) hx hb dX6_areAsked_42 (by decide) (fun _ => ?_) (fun h9 => absurd h9 (by decide))
    refine lv_iconst (v := 0) hx hb dX6_areAsked_49 (by decide) ?_
    exact ret _ 2 _ _ _ _ _ _ (rfl) (⟨rfl, Or.inr ⟨rfl, Or.inr (rfl)⟩⟩) (hP.sub [0] rfl) (hK.sub [] rfl) (hD.sub [0] (by decide) rfl) hS (Nat.le_of_ble_eq_true rfl) (Nat.le_of_ble_eq_true rfl) dX6_areAsked_50
  · skip
    have hc1 := hc
    refine lv_if_ne (tgt := 12) hx hb dX6_areAsked_5 (by decide) (fun h9 => absurd (by decide) h9) (fun _ => ?_)
    refine lv_iconst (v := 1) hx hb dX6_areAsked_8 (by decide) ?_
    refine lv_goto (tgt := 35) hx hb dX6_areAsked_9 (by decide) ?_
    refine va_put (D := (dC, dI)) (ci := 9) (v := .int 1) (ty := .int) (C := RX6) (T := TX6) (N := 19) hx hb hts (fun w h => List.mem_cons_of_mem _ (List.mem_append_left _ (List.mem_append_right _ (h)))) tyX6 tyX6_ok nmX6 hown hK hP hD hS 0 rfl rfl 16 (by decide) (hts (.fieldLink RX6 57 "NetcompareModel" "thrown" "I") (List.mem_cons_of_mem _ (List.mem_append_left _ (List.mem_append_left _ (List.mem_of_getElem? (i := 0) rfl))))) (fun _ h9 => h9) rfl (by decide +kernel) rfl rfl (Nat.le_of_ble_eq_true rfl) dX6_areAsked_35 (fun H locs hP hD hS => ?_)
    have hP : va_P (dC, dI) vwCl [(k0, .inr (9, [.ref kN, .ref kA, .ref kO, .ref kK, .ref kV, .ref kG, .ref kP, .ref kC, .ref kD, .ref kE, .ref kF, .ref kX, .ref kY, .int 0, .ref kT, .ref kU, .int 1, .int 0, .int 0])), (kA, .inl (cI, 2, .inl (fun _ => 0)))] _ := hP
    have hD : va_D A [(k0, .inr (9, [.ref kN, .ref kA, .ref kO, .ref kK, .ref kV, .ref kG, .ref kP, .ref kC, .ref kD, .ref kE, .ref kF, .ref kX, .ref kY, .int 0, .ref kT, .ref kU, .int 1, .int 0, .int 0])), (kA, .inl (cI, 2, .inl (fun _ => 0)))] := hD
    refine lv_aload_n hx hb dX6_areAsked_38 rfl (lv_at hl 0 rfl) ?_
    refine va_get (D := (dC, dI)) (ci := 9) (v := .int 1) (C := RX6) (T := TX6) (N := 19) hx hb hts (fun w h => List.mem_cons_of_mem _ (List.mem_append_left _ (List.mem_append_right _ (h)))) hown hK hP 0 rfl rfl 16 (by decide) (hts (.fieldLink RX6 57 "NetcompareModel" "thrown" "I") (List.mem_cons_of_mem _ (List.mem_append_left _ (List.mem_append_left _ (List.mem_of_getElem? (i := 0) rfl))))) (fun _ h9 => h9) rfl dX6_areAsked_39 ?_
    refine lv_if_ne (tgt := 49) hx hb dX6_areAsked_42 (by decide) (fun _ => ?_) (fun h9 => absurd h9 (by decide))
    refine lv_iconst (v := 0) hx hb dX6_areAsked_49 (by decide) ?_
    exact ret _ 1 _ _ _ _ _ _ (rfl) (⟨rfl, Or.inl ⟨rfl, hc1⟩⟩) (hP.sub [0] rfl) (hK.sub [] rfl) (hD.sub [0] (by decide) rfl) hS (Nat.le_of_ble_eq_true rfl) (Nat.le_of_ble_eq_true rfl) dX6_areAsked_50

set_option maxHeartbeats 4000000 in
set_option maxRecDepth 100000 in
/-- isNetAsked on a fresh model -/
theorem kX6_isNetAsked (l : Launch) (dC : Nat → ClassId) (dI : Nat → Nat → Nat) (k0 kN kA kO kK kV kG kP kC kD kE kF kX kY kT kU : Nat) (cI : ClassId) (p0 p1 : Int32) (sz : Nat) : fMi l yX6_isNetAsked wsX6_isNetAsked ({ frames := 2, cells := 0, slots := 0, locals := 47 } : Room) dC dI [.ref k0, .int p0, .int p1] [(k0, .inr (9, [.ref kN, .ref kA, .ref kO, .ref kK, .ref kV, .ref kG, .ref kP, .ref kC, .ref kD, .ref kE, .ref kF, .ref kX, .ref kY, .int 0, .ref kT, .ref kU, .int 0, .int 0, .int 0])), (kN, .inl (cI, 2, .inl (fun _ => 0)))] [(cI, .int)] sz (fun (r : Int32) (u : Int32) => r = 0 ∧ (u = 1 ∧ ¬ ((p0 = 0) ∨ (p0 = 1)) ∨ u = 2 ∧ ((p0 = 0) ∨ (p0 = 1)))) (fun u => [(k0, .inr (9, [.ref kN, .ref kA, .ref kO, .ref kK, .ref kV, .ref kG, .ref kP, .ref kC, .ref kD, .ref kE, .ref kF, .ref kX, .ref kY, .int 0, .ref kT, .ref kU, .int u, .int 0, .int 0]))]) (fun u => []) := by
  refine oP_z (y := yX6_isNetAsked) (cc := cX6_isNetAsked) (maxL := 3) (by decide) rfl (Nat.le_of_ble_eq_true rfl) ?_
  intro p e s m args below meth c ls A Q hx hb hr hml hown hts hN hZ hA hin hlk hP hK hD hl ret
  have hS : va_S A s.heap s.heap [] := va_S.rf
  have hl : lv_has ls 3 [(0, .ref k0), (1, .int p0), (2, .int p1)] := hl
  have hP : va_P (dC, dI) vwCl [(k0, .inr (9, [.ref kN, .ref kA, .ref kO, .ref kK, .ref kV, .ref kG, .ref kP, .ref kC, .ref kD, .ref kE, .ref kF, .ref kX, .ref kY, .int 0, .ref kT, .ref kU, .int 0, .int 0, .int 0])), (kN, .inl (cI, 2, .inl (fun _ => 0)))] _ := hP
  have hD : va_D A [(k0, .inr (9, [.ref kN, .ref kA, .ref kO, .ref kK, .ref kV, .ref kG, .ref kP, .ref kC, .ref kD, .ref kE, .ref kF, .ref kX, .ref kY, .int 0, .ref kT, .ref kU, .int 0, .int 0, .int 0])), (kN, .inl (cI, 2, .inl (fun _ => 0)))] := hD
  refine lv_aload_n hx hb dX6_isNetAsked_0 rfl (lv_at hl 0 rfl) ?_
  refine lv_iload_n hx hb dX6_isNetAsked_1 rfl (lv_at hl 1 rfl) ?_
  have hPc := hP.sub (ws' := []) [] rfl
  have hDc := hD.sub (ws' := []) [] (by decide) rfl
  have hKc := hK.sub (tys' := []) [] rfl
  have hFc := va_free (wc := []) hD hS hA [] rfl
  refine va_calli (va_runS (As := [.int p0]) (rest := [.ref k0]) ⟨hx, hb, hml, hown, hts⟩ (kX6_isCircuit l dC dI p0 s.heap.size) (va_cwS 1 hts gX6_isNetAsked_X6_isCircuit rfl rfl rfl (by decide +kernel) ⟨Nat.le_of_ble_eq_true rfl, Nat.le_of_ble_eq_true rfl⟩) (fPreS hN hZ hS (fun q h => hFc q h) hPc hKc hDc) rfl rfl hl.1 rfl (lv_room (Nat.le_of_ble_eq_true rfl)) dX6_isNetAsked_2 ⟨Nat.le_of_ble_eq_true rfl, Nat.le_of_ble_eq_true rfl⟩) hS (fun q _ h => hFc q h) hFc (fun r u t H1 locs ht hvm hw hB hz1 hk1 hS => ?_)
  obtain ⟨hP1, hK1, hD1⟩ := hB
  rw [ht] at hP1
  have hK1 := va_K.moved hvm.symm hK1
  obtain ⟨hP, hD⟩ := va_join (wr := [(k0, .inr (9, [.ref kN, .ref kA, .ref kO, .ref kK, .ref kV, .ref kG, .ref kP, .ref kC, .ref kD, .ref kE, .ref kF, .ref kX, .ref kY, .int 0, .ref kT, .ref kU, .int 0, .int 0, .int 0])), (kN, .inl (cI, 2, .inl (fun _ => 0)))]) (w1 := []) hP hD [] [0, 1] rfl rfl (by decide) (by decide) hk1 hFc hP1 hD1
  generalize H1 = H at hP hS ⊢
  have hP : va_P (dC, dI) vwCl [(k0, .inr (9, [.ref kN, .ref kA, .ref kO, .ref kK, .ref kV, .ref kG, .ref kP, .ref kC, .ref kD, .ref kE, .ref kF, .ref kX, .ref kY, .int 0, .ref kT, .ref kU, .int 0, .int 0, .int 0])), (kN, .inl (cI, 2, .inl (fun _ => 0)))] _ := hP
  have hD : va_D A [(k0, .inr (9, [.ref kN, .ref kA, .ref kO, .ref kK, .ref kV, .ref kG, .ref kP, .ref kC, .ref kD, .ref kE, .ref kF, .ref kX, .ref kY, .int 0, .ref kT, .ref kU, .int 0, .int 0, .int 0])), (kN, .inl (cI, 2, .inl (fun _ => 0)))] := hD
  rcases hw with ⟨rfl, hc | hc⟩ | ⟨rfl, hc⟩
  · skip
    subst hc
    have hP : va_P (dC, dI) vwCl [(k0, .inr (9, [.ref kN, .ref kA, .ref kO, .ref kK, .ref kV, .ref kG, .ref kP, .ref kC, .ref kD, .ref kE, .ref kF, .ref kX, .ref kY, .int 0, .ref kT, .ref kU, .int 0, .int 0, .int 0])), (kN, .inl (cI, 2, .inl (fun _ => 0)))] _ := hP
    have hD : va_D A [(k0, .inr (9, [.ref kN, .ref kA, .ref kO, .ref kK, .ref kV, .ref kG, .ref kP, .ref kC, .ref kD, .ref kE, .ref kF, .ref kX, .ref kY, .int 0, .ref kT, .ref kU, .int 0, .int 0, .int 0])), (kN, .inl (cI, 2, .inl (fun _ => 0)))] := hD
    refine lv_if_ne (tgt := 12) hx hb dX6_isNetAsked_5 (by decide) (fun _ => ?_) (fun h9 => absurd h9 (by decide))
    refine lv_aload_n hx hb dX6_isNetAsked_12 rfl (lv_at hl 0 rfl) ?_
    refine lv_iload_n hx hb dX6_isNetAsked_13 rfl (lv_at hl 1 rfl) ?_
    refine lv_iload_n hx hb dX6_isNetAsked_14 rfl (lv_at hl 2 rfl) ?_
    have hPc := hP.sub (ws' := [(k0, .inr (9, [.ref kN, .ref kA, .ref kO, .ref kK, .ref kV, .ref kG, .ref kP, .ref kC, .ref kD, .ref kE, .ref kF, .ref kX, .ref kY, .int 0, .ref kT, .ref kU, .int 0, .int 0, .int 0])), (kN, .inl (cI, 2, .inl (fun _ => 0)))]) [0, 1] rfl
    have hDc := hD.sub (ws' := [(k0, .inr (9, [.ref kN, .ref kA, .ref kO, .ref kK, .ref kV, .ref kG, .ref kP, .ref kC, .ref kD, .ref kE, .ref kF, .ref kX, .ref kY, .int 0, .ref kT, .ref kU, .int 0, .int 0, .int 0])), (kN, .inl (cI, 2, .inl (fun _ => 0)))]) [0, 1] (by decide) rfl
    have hKc := hK.sub (tys' := [(cI, .int)]) [0] rfl
    have hFc := va_free (wc := [(k0, .inr (9, [.ref kN, .ref kA, .ref kO, .ref kK, .ref kV, .ref kG, .ref kP, .ref kC, .ref kD, .ref kE, .ref kF, .ref kX, .ref kY, .int 0, .ref kT, .ref kU, .int 0, .int 0, .int 0])), (kN, .inl (cI, 2, .inl (fun _ => 0)))]) hD hS hA [0, 1] rfl
    refine va_calli (va_runV (As := [.int 0, .int p1]) (rest := [.ref k0]) ⟨hx, hb, hml, hown, hts⟩ (kX6_isNet0 l dC dI k0 kN kA kO kK kV kG kP kC kD kE kF kX kY kT kU cI p1 H.size) (cwV 2 hts gX6_isNetAsked_X6_isNet rfl rfl rfl (by decide +kernel) ⟨Nat.le_of_ble_eq_true rfl, Nat.le_of_ble_eq_true rfl⟩) (fPreV hN hZ hS (fun q h => hFc q h) hPc hKc hDc (ci := 9) (q0 := 0) rfl rfl) rfl rfl hl.1 rfl (lv_room (Nat.le_of_ble_eq_true rfl)) dX6_isNetAsked_15 ⟨Nat.le_of_ble_eq_true rfl, Nat.le_of_ble_eq_true rfl⟩) hS (fun q _ h => hFc q h) hFc (fun r u t H1 locs ht hvm hw hB hz1 hk1 hS => ?_)
    obtain ⟨hP1, hK1, hD1⟩ := hB
    rw [ht] at hP1
    have hK1 := va_K.moved hvm.symm hK1
    obtain ⟨hP, hD⟩ := va_join (wr := []) (w1 := [(k0, .inr (9, [.ref kN, .ref kA, .ref kO, .ref kK, .ref kV, .ref kG, .ref kP, .ref kC, .ref kD, .ref kE, .ref kF, .ref kX, .ref kY, .int 0, .ref kT, .ref kU, .int 0, .int 0, .int 0])), (kN, .inl (cI, 2, .inl (fun _ => 0)))]) hP hD [0, 1] [] rfl rfl (by decide) (by decide) hk1 hFc hP1 hD1
    generalize H1 = H at hP hS ⊢
    have hP : va_P (dC, dI) vwCl [(k0, .inr (9, [.ref kN, .ref kA, .ref kO, .ref kK, .ref kV, .ref kG, .ref kP, .ref kC, .ref kD, .ref kE, .ref kF, .ref kX, .ref kY, .int 0, .ref kT, .ref kU, .int 0, .int 0, .int 0])), (kN, .inl (cI, 2, .inl (fun _ => 0)))] _ := hP
    have hD : va_D A [(k0, .inr (9, [.ref kN, .ref kA, .ref kO, .ref kK, .ref kV, .ref kG, .ref kP, .ref kC, .ref kD, .ref kE, .ref kF, .ref kX, .ref kY, .int 0, .ref kT, .ref kU, .int 0, .int 0, .int 0])), (kN, .inl (cI, 2, .inl (fun _ => 0)))] := hD
    subst hw
    refine lv_if_ne (tgt := 25) hx hb dX6_isNetAsked_18 (by decide) (fun h9 => absurd (by decide) h9) (fun _ => ?_)
    refine lv_iconst (v := 2) hx hb dX6_isNetAsked_21 (by decide) ?_
    refine lv_goto (tgt := 26) hx hb dX6_isNetAsked_22 (by decide) ?_
    refine va_put (D := (dC, dI)) (ci := 9) (v := .int 2) (ty := .int) (C := RX6) (T := TX6) (N := 19) hx hb hts (fun w h => List.mem_cons_of_mem _ (List.mem_append_left _ (List.mem_append_right _ (h)))) tyX6 tyX6_ok nmX6 hown hK hP hD hS 0 rfl rfl 16 (by decide) (hts (.fieldLink RX6 57 "NetcompareModel" "thrown" "I") (List.mem_cons_of_mem _ (List.mem_append_left _ (List.mem_append_left _ (List.mem_of_getElem? (i := 0) rfl))))) (fun _ h9 => h9) rfl (by decide +kernel) rfl rfl (Nat.le_of_ble_eq_true rfl) dX6_isNetAsked_26 (fun H locs hP hD hS => ?_)
    have hP : va_P (dC, dI) vwCl [(k0, .inr (9, [.ref kN, .ref kA, .ref kO, .ref kK, .ref kV, .ref kG, .ref kP, .ref kC, .ref kD, .ref kE, .ref kF, .ref kX, .ref kY, .int 0, .ref kT, .ref kU, .int 2, .int 0, .int 0])), (kN, .inl (cI, 2, .inl (fun _ => 0)))] _ := hP
    have hD : va_D A [(k0, .inr (9, [.ref kN, .ref kA, .ref kO, .ref kK, .ref kV, .ref kG, .ref kP, .ref kC, .ref kD, .ref kE, .ref kF, .ref kX, .ref kY, .int 0, .ref kT, .ref kU, .int 2, .int 0, .int 0])), (kN, .inl (cI, 2, .inl (fun _ => 0)))] := hD
    refine lv_aload_n hx hb dX6_isNetAsked_29 rfl (lv_at hl 0 rfl) ?_
    refine va_get (D := (dC, dI)) (ci := 9) (v := .int 2) (C := RX6) (T := TX6) (N := 19) hx hb hts (fun w h => List.mem_cons_of_mem _ (List.mem_append_left _ (List.mem_append_right _ (h)))) hown hK hP 0 rfl rfl 16 (by decide) (hts (.fieldLink RX6 57 "NetcompareModel" "thrown" "I") (List.mem_cons_of_mem _ (List.mem_append_left _ (List.mem_append_left _ (List.mem_of_getElem? (i := 0) rfl))))) (fun _ h9 => h9) rfl dX6_isNetAsked_30 ?_
    refine lv_if_ne (tgt := 40) hx hb dX6_isNetAsked_33 (by decide) (fun _ => ?_) (fun h9 => absurd h9 (by decide))
    refine lv_iconst (v := 0) hx hb dX6_isNetAsked_40 (by decide) ?_
    exact ret _ 2 _ _ _ _ _ _ (rfl) (⟨rfl, Or.inr ⟨rfl, Or.inl (rfl)⟩⟩) (hP.sub [0] rfl) (hK.sub [] rfl) (hD.sub [0] (by decide) rfl) hS (Nat.le_of_ble_eq_true rfl) (Nat.le_of_ble_eq_true rfl) dX6_isNetAsked_41
  · skip
    subst hc
    have hP : va_P (dC, dI) vwCl [(k0, .inr (9, [.ref kN, .ref kA, .ref kO, .ref kK, .ref kV, .ref kG, .ref kP, .ref kC, .ref kD, .ref kE, .ref kF, .ref kX, .ref kY, .int 0, .ref kT, .ref kU, .int 0, .int 0, .int 0])), (kN, .inl (cI, 2, .inl (fun _ => 0)))] _ := hP
    have hD : va_D A [(k0, .inr (9, [.ref kN, .ref kA, .ref kO, .ref kK, .ref kV, .ref kG, .ref kP, .ref kC, .ref kD, .ref kE, .ref kF, .ref kX, .ref kY, .int 0, .ref kT, .ref kU, .int 0, .int 0, .int 0])), (kN, .inl (cI, 2, .inl (fun _ => 0)))] := hD
    refine lv_if_ne (tgt := 12) hx hb dX6_isNetAsked_5 (by decide) (fun _ => ?_) (fun h9 => absurd h9 (by decide))
    refine lv_aload_n hx hb dX6_isNetAsked_12 rfl (lv_at hl 0 rfl) ?_
    refine lv_iload_n hx hb dX6_isNetAsked_13 rfl (lv_at hl 1 rfl) ?_
    refine lv_iload_n hx hb dX6_isNetAsked_14 rfl (lv_at hl 2 rfl) ?_
    have hPc := hP.sub (ws' := [(k0, .inr (9, [.ref kN, .ref kA, .ref kO, .ref kK, .ref kV, .ref kG, .ref kP, .ref kC, .ref kD, .ref kE, .ref kF, .ref kX, .ref kY, .int 0, .ref kT, .ref kU, .int 0, .int 0, .int 0])), (kN, .inl (cI, 2, .inl (fun _ => 0)))]) [0, 1] rfl
    have hDc := hD.sub (ws' := [(k0, .inr (9, [.ref kN, .ref kA, .ref kO, .ref kK, .ref kV, .ref kG, .ref kP, .ref kC, .ref kD, .ref kE, .ref kF, .ref kX, .ref kY, .int 0, .ref kT, .ref kU, .int 0, .int 0, .int 0])), (kN, .inl (cI, 2, .inl (fun _ => 0)))]) [0, 1] (by decide) rfl
    have hKc := hK.sub (tys' := [(cI, .int)]) [0] rfl
    have hFc := va_free (wc := [(k0, .inr (9, [.ref kN, .ref kA, .ref kO, .ref kK, .ref kV, .ref kG, .ref kP, .ref kC, .ref kD, .ref kE, .ref kF, .ref kX, .ref kY, .int 0, .ref kT, .ref kU, .int 0, .int 0, .int 0])), (kN, .inl (cI, 2, .inl (fun _ => 0)))]) hD hS hA [0, 1] rfl
    refine va_calli (va_runV (As := [.int 1, .int p1]) (rest := [.ref k0]) ⟨hx, hb, hml, hown, hts⟩ (kX6_isNet1 l dC dI k0 kN kA kO kK kV kG kP kC kD kE kF kX kY kT kU cI p1 H.size) (cwV 2 hts gX6_isNetAsked_X6_isNet rfl rfl rfl (by decide +kernel) ⟨Nat.le_of_ble_eq_true rfl, Nat.le_of_ble_eq_true rfl⟩) (fPreV hN hZ hS (fun q h => hFc q h) hPc hKc hDc (ci := 9) (q0 := 0) rfl rfl) rfl rfl hl.1 rfl (lv_room (Nat.le_of_ble_eq_true rfl)) dX6_isNetAsked_15 ⟨Nat.le_of_ble_eq_true rfl, Nat.le_of_ble_eq_true rfl⟩) hS (fun q _ h => hFc q h) hFc (fun r u t H1 locs ht hvm hw hB hz1 hk1 hS => ?_)
    obtain ⟨hP1, hK1, hD1⟩ := hB
    rw [ht] at hP1
    have hK1 := va_K.moved hvm.symm hK1
    obtain ⟨hP, hD⟩ := va_join (wr := []) (w1 := [(k0, .inr (9, [.ref kN, .ref kA, .ref kO, .ref kK, .ref kV, .ref kG, .ref kP, .ref kC, .ref kD, .ref kE, .ref kF, .ref kX, .ref kY, .int 0, .ref kT, .ref kU, .int 0, .int 0, .int 0])), (kN, .inl (cI, 2, .inl (fun _ => 0)))]) hP hD [0, 1] [] rfl rfl (by decide) (by decide) hk1 hFc hP1 hD1
    generalize H1 = H at hP hS ⊢
    have hP : va_P (dC, dI) vwCl [(k0, .inr (9, [.ref kN, .ref kA, .ref kO, .ref kK, .ref kV, .ref kG, .ref kP, .ref kC, .ref kD, .ref kE, .ref kF, .ref kX, .ref kY, .int 0, .ref kT, .ref kU, .int 0, .int 0, .int 0])), (kN, .inl (cI, 2, .inl (fun _ => 0)))] _ := hP
    have hD : va_D A [(k0, .inr (9, [.ref kN, .ref kA, .ref kO, .ref kK, .ref kV, .ref kG, .ref kP, .ref kC, .ref kD, .ref kE, .ref kF, .ref kX, .ref kY, .int 0, .ref kT, .ref kU, .int 0, .int 0, .int 0])), (kN, .inl (cI, 2, .inl (fun _ => 0)))] := hD
    subst hw
    refine lv_if_ne (tgt := 25) hx hb dX6_isNetAsked_18 (by decide) (fun h9 => absurd (by decide) h9) (fun _ => ?_)
    refine lv_iconst (v := 2) hx hb dX6_isNetAsked_21 (by decide) ?_
    refine lv_goto (tgt := 26) hx hb dX6_isNetAsked_22 (by decide) ?_
    refine va_put (D := (dC, dI)) (ci := 9) (v := .int 2) (ty := .int) (C := RX6) (T := TX6) (N := 19) hx hb hts (fun w h => List.mem_cons_of_mem _ (List.mem_append_left _ (List.mem_append_right _ (h)))) tyX6 tyX6_ok nmX6 hown hK hP hD hS 0 rfl rfl 16 (by decide) (hts (.fieldLink RX6 57 "NetcompareModel" "thrown" "I") (List.mem_cons_of_mem _ (List.mem_append_left _ (List.mem_append_left _ (List.mem_of_getElem? (i := 0) rfl))))) (fun _ h9 => h9) rfl (by decide +kernel) rfl rfl (Nat.le_of_ble_eq_true rfl) dX6_isNetAsked_26 (fun H locs hP hD hS => ?_)
    have hP : va_P (dC, dI) vwCl [(k0, .inr (9, [.ref kN, .ref kA, .ref kO, .ref kK, .ref kV, .ref kG, .ref kP, .ref kC, .ref kD, .ref kE, .ref kF, .ref kX, .ref kY, .int 0, .ref kT, .ref kU, .int 2, .int 0, .int 0])), (kN, .inl (cI, 2, .inl (fun _ => 0)))] _ := hP
    have hD : va_D A [(k0, .inr (9, [.ref kN, .ref kA, .ref kO, .ref kK, .ref kV, .ref kG, .ref kP, .ref kC, .ref kD, .ref kE, .ref kF, .ref kX, .ref kY, .int 0, .ref kT, .ref kU, .int 2, .int 0, .int 0])), (kN, .inl (cI, 2, .inl (fun _ => 0)))] := hD
    refine lv_aload_n hx hb dX6_isNetAsked_29 rfl (lv_at hl 0 rfl) ?_
    refine va_get (D := (dC, dI)) (ci := 9) (v := .int 2) (C := RX6) (T := TX6) (N := 19) hx hb hts (fun w h => List.mem_cons_of_mem _ (List.mem_append_left _ (List.mem_append_right _ (h)))) hown hK hP 0 rfl rfl 16 (by decide) (hts (.fieldLink RX6 57 "NetcompareModel" "thrown" "I") (List.mem_cons_of_mem _ (List.mem_append_left _ (List.mem_append_left _ (List.mem_of_getElem? (i := 0) rfl))))) (fun _ h9 => h9) rfl dX6_isNetAsked_30 ?_
    refine lv_if_ne (tgt := 40) hx hb dX6_isNetAsked_33 (by decide) (fun _ => ?_) (fun h9 => absurd h9 (by decide))
    refine lv_iconst (v := 0) hx hb dX6_isNetAsked_40 (by decide) ?_
    exact ret _ 2 _ _ _ _ _ _ (rfl) (⟨rfl, Or.inr ⟨rfl, Or.inr (rfl)⟩⟩) (hP.sub [0] rfl) (hK.sub [] rfl) (hD.sub [0] (by decide) rfl) hS (Nat.le_of_ble_eq_true rfl) (Nat.le_of_ble_eq_true rfl) dX6_isNetAsked_41
  · skip
    have hc1 := hc
    refine lv_if_ne (tgt := 12) hx hb dX6_isNetAsked_5 (by decide) (fun h9 => absurd (by decide) h9) (fun _ => ?_)
    refine lv_iconst (v := 1) hx hb dX6_isNetAsked_8 (by decide) ?_
    refine lv_goto (tgt := 26) hx hb dX6_isNetAsked_9 (by decide) ?_
    refine va_put (D := (dC, dI)) (ci := 9) (v := .int 1) (ty := .int) (C := RX6) (T := TX6) (N := 19) hx hb hts (fun w h => List.mem_cons_of_mem _ (List.mem_append_left _ (List.mem_append_right _ (h)))) tyX6 tyX6_ok nmX6 hown hK hP hD hS 0 rfl rfl 16 (by decide) (hts (.fieldLink RX6 57 "NetcompareModel" "thrown" "I") (List.mem_cons_of_mem _ (List.mem_append_left _ (List.mem_append_left _ (List.mem_of_getElem? (i := 0) rfl))))) (fun _ h9 => h9) rfl (by decide +kernel) rfl rfl (Nat.le_of_ble_eq_true rfl) dX6_isNetAsked_26 (fun H locs hP hD hS => ?_)
    have hP : va_P (dC, dI) vwCl [(k0, .inr (9, [.ref kN, .ref kA, .ref kO, .ref kK, .ref kV, .ref kG, .ref kP, .ref kC, .ref kD, .ref kE, .ref kF, .ref kX, .ref kY, .int 0, .ref kT, .ref kU, .int 1, .int 0, .int 0])), (kN, .inl (cI, 2, .inl (fun _ => 0)))] _ := hP
    have hD : va_D A [(k0, .inr (9, [.ref kN, .ref kA, .ref kO, .ref kK, .ref kV, .ref kG, .ref kP, .ref kC, .ref kD, .ref kE, .ref kF, .ref kX, .ref kY, .int 0, .ref kT, .ref kU, .int 1, .int 0, .int 0])), (kN, .inl (cI, 2, .inl (fun _ => 0)))] := hD
    refine lv_aload_n hx hb dX6_isNetAsked_29 rfl (lv_at hl 0 rfl) ?_
    refine va_get (D := (dC, dI)) (ci := 9) (v := .int 1) (C := RX6) (T := TX6) (N := 19) hx hb hts (fun w h => List.mem_cons_of_mem _ (List.mem_append_left _ (List.mem_append_right _ (h)))) hown hK hP 0 rfl rfl 16 (by decide) (hts (.fieldLink RX6 57 "NetcompareModel" "thrown" "I") (List.mem_cons_of_mem _ (List.mem_append_left _ (List.mem_append_left _ (List.mem_of_getElem? (i := 0) rfl))))) (fun _ h9 => h9) rfl dX6_isNetAsked_30 ?_
    refine lv_if_ne (tgt := 40) hx hb dX6_isNetAsked_33 (by decide) (fun _ => ?_) (fun h9 => absurd h9 (by decide))
    refine lv_iconst (v := 0) hx hb dX6_isNetAsked_40 (by decide) ?_
    exact ret _ 1 _ _ _ _ _ _ (rfl) (⟨rfl, Or.inl ⟨rfl, hc1⟩⟩) (hP.sub [0] rfl) (hK.sub [] rfl) (hD.sub [0] (by decide) rfl) hS (Nat.le_of_ble_eq_true rfl) (Nat.le_of_ble_eq_true rfl) dX6_isNetAsked_41

set_option maxHeartbeats 4000000 in
set_option maxRecDepth 100000 in
/-- the model: addNet on a fresh one -/
theorem kX6_addNet (l : Launch) (dC : Nat → ClassId) (dI : Nat → Nat → Nat) (k0 kN kA kO kK kV kG kP kC kD kE kF kX kY kT kU : Nat) (cI cC : ClassId) (p0 : Int32) (sz : Nat) : fMi l yX6_addNet wsX6_addNet ({ frames := 1, cells := 0, slots := 0, locals := 20 } : Room) dC dI [.ref k0, .int p0] [(k0, .inr (9, [.ref kN, .ref kA, .ref kO, .ref kK, .ref kV, .ref kG, .ref kP, .ref kC, .ref kD, .ref kE, .ref kF, .ref kX, .ref kY, .int 0, .ref kT, .ref kU, .int 0, .int 0, .int 0])), (kN, .inl (cI, 2, .inl (fun _ => 0))), (kA, .inl (cI, 2, .inl (fun _ => 0))), (kO, .inl (cC, 20, .inl (fun _ => 0)))] [(cI, .int), (cC, .char)] sz (fun (r : Int32) (u : Int32) => u = 0 ∧ r = 0 ∧ ((p0 = 0) ∨ (p0 = 1)) ∨ u = 1 ∧ (¬ ((p0 = 0) ∨ (p0 = 1)))) (fun u => [(k0, .inr (9, [.ref kN, .ref kA, .ref kO, .ref kK, .ref kV, .ref kG, .ref kP, .ref kC, .ref kD, .ref kE, .ref kF, .ref kX, .ref kY, .int 0, .ref kT, .ref kU, .int u, .int 0, .int 0]))]) (fun u => []) := by
  refine oP_i (y := yX6_addNet) (cc := cX6_addNet) (maxL := 2) (by decide) rfl (Nat.le_of_ble_eq_true rfl) ?_
  intro p e s m args below meth c ls A Q hx hb hr hml hown hts hN hZ hA hin hlk hP hK hD hl ret
  have hS : va_S A s.heap s.heap [] := va_S.rf
  have hl : lv_has ls 2 [(0, .ref k0), (1, .int p0)] := hl
  have hP : va_P (dC, dI) vwCl [(k0, .inr (9, [.ref kN, .ref kA, .ref kO, .ref kK, .ref kV, .ref kG, .ref kP, .ref kC, .ref kD, .ref kE, .ref kF, .ref kX, .ref kY, .int 0, .ref kT, .ref kU, .int 0, .int 0, .int 0])), (kN, .inl (cI, 2, .inl (fun _ => 0))), (kA, .inl (cI, 2, .inl (fun _ => 0))), (kO, .inl (cC, 20, .inl (fun _ => 0)))] _ := hP
  have hD : va_D A [(k0, .inr (9, [.ref kN, .ref kA, .ref kO, .ref kK, .ref kV, .ref kG, .ref kP, .ref kC, .ref kD, .ref kE, .ref kF, .ref kX, .ref kY, .int 0, .ref kT, .ref kU, .int 0, .int 0, .int 0])), (kN, .inl (cI, 2, .inl (fun _ => 0))), (kA, .inl (cI, 2, .inl (fun _ => 0))), (kO, .inl (cC, 20, .inl (fun _ => 0)))] := hD
  refine lv_aload_n hx hb dX6_addNet_0 rfl (lv_at hl 0 rfl) ?_
  refine lv_iload_n hx hb dX6_addNet_1 rfl (lv_at hl 1 rfl) ?_
  have hPc := hP.sub (ws' := []) [] rfl
  have hDc := hD.sub (ws' := []) [] (by decide) rfl
  have hKc := hK.sub (tys' := []) [] rfl
  have hFc := va_free (wc := []) hD hS hA [] rfl
  refine va_calli (va_runS (As := [.int p0]) (rest := [.ref k0]) ⟨hx, hb, hml, hown, hts⟩ (kX6_isCircuit l dC dI p0 s.heap.size) (va_cwS 1 hts gX6_addNet_X6_isCircuit rfl rfl rfl (by decide +kernel) ⟨Nat.le_of_ble_eq_true rfl, Nat.le_of_ble_eq_true rfl⟩) (fPreS hN hZ hS (fun q h => hFc q h) hPc hKc hDc) rfl rfl hl.1 rfl (lv_room (Nat.le_of_ble_eq_true rfl)) dX6_addNet_2 ⟨Nat.le_of_ble_eq_true rfl, Nat.le_of_ble_eq_true rfl⟩) hS (fun q _ h => hFc q h) hFc (fun r u t H1 locs ht hvm hw hB hz1 hk1 hS => ?_)
  obtain ⟨hP1, hK1, hD1⟩ := hB
  rw [ht] at hP1
  have hK1 := va_K.moved hvm.symm hK1
  obtain ⟨hP, hD⟩ := va_join (wr := [(k0, .inr (9, [.ref kN, .ref kA, .ref kO, .ref kK, .ref kV, .ref kG, .ref kP, .ref kC, .ref kD, .ref kE, .ref kF, .ref kX, .ref kY, .int 0, .ref kT, .ref kU, .int 0, .int 0, .int 0])), (kN, .inl (cI, 2, .inl (fun _ => 0))), (kA, .inl (cI, 2, .inl (fun _ => 0))), (kO, .inl (cC, 20, .inl (fun _ => 0)))]) (w1 := []) hP hD [] [0, 1, 2, 3] rfl rfl (by decide) (by decide) hk1 hFc hP1 hD1
  generalize H1 = H at hP hS ⊢
  have hP : va_P (dC, dI) vwCl [(k0, .inr (9, [.ref kN, .ref kA, .ref kO, .ref kK, .ref kV, .ref kG, .ref kP, .ref kC, .ref kD, .ref kE, .ref kF, .ref kX, .ref kY, .int 0, .ref kT, .ref kU, .int 0, .int 0, .int 0])), (kN, .inl (cI, 2, .inl (fun _ => 0))), (kA, .inl (cI, 2, .inl (fun _ => 0))), (kO, .inl (cC, 20, .inl (fun _ => 0)))] _ := hP
  have hD : va_D A [(k0, .inr (9, [.ref kN, .ref kA, .ref kO, .ref kK, .ref kV, .ref kG, .ref kP, .ref kC, .ref kD, .ref kE, .ref kF, .ref kX, .ref kY, .int 0, .ref kT, .ref kU, .int 0, .int 0, .int 0])), (kN, .inl (cI, 2, .inl (fun _ => 0))), (kA, .inl (cI, 2, .inl (fun _ => 0))), (kO, .inl (cC, 20, .inl (fun _ => 0)))] := hD
  rcases hw with ⟨rfl, hc | hc⟩ | ⟨rfl, hc⟩
  · skip
    subst hc
    have hP : va_P (dC, dI) vwCl [(k0, .inr (9, [.ref kN, .ref kA, .ref kO, .ref kK, .ref kV, .ref kG, .ref kP, .ref kC, .ref kD, .ref kE, .ref kF, .ref kX, .ref kY, .int 0, .ref kT, .ref kU, .int 0, .int 0, .int 0])), (kN, .inl (cI, 2, .inl (fun _ => 0))), (kA, .inl (cI, 2, .inl (fun _ => 0))), (kO, .inl (cC, 20, .inl (fun _ => 0)))] _ := hP
    have hD : va_D A [(k0, .inr (9, [.ref kN, .ref kA, .ref kO, .ref kK, .ref kV, .ref kG, .ref kP, .ref kC, .ref kD, .ref kE, .ref kF, .ref kX, .ref kY, .int 0, .ref kT, .ref kU, .int 0, .int 0, .int 0])), (kN, .inl (cI, 2, .inl (fun _ => 0))), (kA, .inl (cI, 2, .inl (fun _ => 0))), (kO, .inl (cC, 20, .inl (fun _ => 0)))] := hD
    refine lv_if_ne (tgt := 12) hx hb dX6_addNet_5 (by decide) (fun _ => ?_) (fun h9 => absurd h9 (by decide))
    refine lv_aload_n hx hb dX6_addNet_12 rfl (lv_at hl 0 rfl) ?_
    refine va_get (D := (dC, dI)) (ci := 9) (v := .ref kN) (C := RX6) (T := TX6) (N := 19) hx hb hts (fun w h => List.mem_cons_of_mem _ (List.mem_append_left _ (List.mem_append_right _ (h)))) hown hK hP 0 rfl rfl 0 (by decide) (hts (.fieldLink RX6 7 "NetcompareModel" "nets" "[I") (List.mem_cons_of_mem _ (List.mem_append_left _ (List.mem_append_left _ (List.mem_of_getElem? (i := 0) rfl))))) (fun _ h9 => h9) rfl dX6_addNet_13 ?_
    refine lv_iload_n hx hb dX6_addNet_16 rfl (lv_at hl 1 rfl) ?_
    refine va_iald hx hb hK hP 1 0 rfl rfl (show ¬ (_ ∨ _) by decide) dX6_addNet_17 ?_
    refine W.eq (g2 := F0 m 18 ls [.int 0, .ref k0]) rfl ?_
    refine lv_bipush (v := 10) hx hb dX6_addNet_18 (by decide) ?_
    refine lv_icmp_ne (tgt := 27) hx hb dX6_addNet_20 (by decide) (fun _ => ?_) (fun h9 => absurd h9 (by decide))
    refine lv_iconst (v := 0) hx hb dX6_addNet_27 (by decide) ?_
    refine va_put (D := (dC, dI)) (ci := 9) (v := .int 0) (ty := .int) (C := RX6) (T := TX6) (N := 19) hx hb hts (fun w h => List.mem_cons_of_mem _ (List.mem_append_left _ (List.mem_append_right _ (h)))) tyX6 tyX6_ok nmX6 hown hK hP hD hS 0 rfl rfl 16 (by decide) (hts (.fieldLink RX6 57 "NetcompareModel" "thrown" "I") (List.mem_cons_of_mem _ (List.mem_append_left _ (List.mem_append_left _ (List.mem_of_getElem? (i := 1) rfl))))) (fun _ h9 => h9) rfl (by decide +kernel) rfl rfl (Nat.le_of_ble_eq_true rfl) dX6_addNet_28 (fun H locs hP hD hS => ?_)
    have hP : va_P (dC, dI) vwCl [(k0, .inr (9, [.ref kN, .ref kA, .ref kO, .ref kK, .ref kV, .ref kG, .ref kP, .ref kC, .ref kD, .ref kE, .ref kF, .ref kX, .ref kY, .int 0, .ref kT, .ref kU, .int 0, .int 0, .int 0])), (kN, .inl (cI, 2, .inl (fun _ => 0))), (kA, .inl (cI, 2, .inl (fun _ => 0))), (kO, .inl (cC, 20, .inl (fun _ => 0)))] _ := hP
    have hD : va_D A [(k0, .inr (9, [.ref kN, .ref kA, .ref kO, .ref kK, .ref kV, .ref kG, .ref kP, .ref kC, .ref kD, .ref kE, .ref kF, .ref kX, .ref kY, .int 0, .ref kT, .ref kU, .int 0, .int 0, .int 0])), (kN, .inl (cI, 2, .inl (fun _ => 0))), (kA, .inl (cI, 2, .inl (fun _ => 0))), (kO, .inl (cC, 20, .inl (fun _ => 0)))] := hD
    refine lv_aload_n hx hb dX6_addNet_31 rfl (lv_at hl 0 rfl) ?_
    refine va_get (D := (dC, dI)) (ci := 9) (v := .int 0) (C := RX6) (T := TX6) (N := 19) hx hb hts (fun w h => List.mem_cons_of_mem _ (List.mem_append_left _ (List.mem_append_right _ (h)))) hown hK hP 0 rfl rfl 16 (by decide) (hts (.fieldLink RX6 57 "NetcompareModel" "thrown" "I") (List.mem_cons_of_mem _ (List.mem_append_left _ (List.mem_append_left _ (List.mem_of_getElem? (i := 1) rfl))))) (fun _ h9 => h9) rfl dX6_addNet_32 ?_
    refine lv_if_le (tgt := 40) hx hb dX6_addNet_35 (by decide) (fun _ => ?_) (fun h9 => absurd (by decide) h9)
    refine lv_aload_n hx hb dX6_addNet_40 rfl (lv_at hl 0 rfl) ?_
    refine va_get (D := (dC, dI)) (ci := 9) (v := .ref kO) (C := RX6) (T := TX6) (N := 19) hx hb hts (fun w h => List.mem_cons_of_mem _ (List.mem_append_left _ (List.mem_append_right _ (h)))) hown hK hP 0 rfl rfl 2 (by decide) (hts (.fieldLink RX6 16 "NetcompareModel" "ports" "[C") (List.mem_cons_of_mem _ (List.mem_append_left _ (List.mem_append_left _ (List.mem_of_getElem? (i := 2) rfl))))) (fun _ h9 => h9) rfl dX6_addNet_41 ?_
    refine lv_bipush (v := 10) hx hb dX6_addNet_44 (by decide) ?_
    refine lv_iload_n hx hb dX6_addNet_46 rfl (lv_at hl 1 rfl) ?_
    refine lv_imul hx hb dX6_addNet_47 ?_
    refine lv_topi (fun y1 ey1 => ?_)
    obtain rfl : y1 = 0 := ey1.trans (by decide)
    refine lv_aload_n hx hb dX6_addNet_48 rfl (lv_at hl 0 rfl) ?_
    refine va_get (D := (dC, dI)) (ci := 9) (v := .ref kN) (C := RX6) (T := TX6) (N := 19) hx hb hts (fun w h => List.mem_cons_of_mem _ (List.mem_append_left _ (List.mem_append_right _ (h)))) hown hK hP 0 rfl rfl 0 (by decide) (hts (.fieldLink RX6 7 "NetcompareModel" "nets" "[I") (List.mem_cons_of_mem _ (List.mem_append_left _ (List.mem_append_left _ (List.mem_of_getElem? (i := 0) rfl))))) (fun _ h9 => h9) rfl dX6_addNet_49 ?_
    refine lv_iload_n hx hb dX6_addNet_52 rfl (lv_at hl 1 rfl) ?_
    refine va_iald hx hb hK hP 1 0 rfl rfl (show ¬ (_ ∨ _) by decide) dX6_addNet_53 ?_
    refine W.eq (g2 := F0 m 54 ls [.int 0, .int 0, .ref kO]) rfl ?_
    refine lv_iadd hx hb dX6_addNet_54 ?_
    refine lv_topi (fun y2 ey2 => ?_)
    obtain rfl : y2 = 0 := ey2.trans (by decide)
    refine lv_bipush (v := 45) hx hb dX6_addNet_55 (by decide) ?_
    refine va_cast hx hb hK hP hD hS 3 1 rfl rfl (show ¬ (_ ∨ _) by decide) dX6_addNet_57 (fun H locs hP hD hS => ?_)
    have hP : va_P (dC, dI) vwCl [(k0, .inr (9, [.ref kN, .ref kA, .ref kO, .ref kK, .ref kV, .ref kG, .ref kP, .ref kC, .ref kD, .ref kE, .ref kF, .ref kX, .ref kY, .int 0, .ref kT, .ref kU, .int 0, .int 0, .int 0])), (kN, .inl (cI, 2, .inl (fun _ => 0))), (kA, .inl (cI, 2, .inl (fun _ => 0))), (kO, .inl (cC, 20, .inl (upd (fun _ => 0) 0 (vp_nar .char 45))))] _ := hP
    have hD : va_D A [(k0, .inr (9, [.ref kN, .ref kA, .ref kO, .ref kK, .ref kV, .ref kG, .ref kP, .ref kC, .ref kD, .ref kE, .ref kF, .ref kX, .ref kY, .int 0, .ref kT, .ref kU, .int 0, .int 0, .int 0])), (kN, .inl (cI, 2, .inl (fun _ => 0))), (kA, .inl (cI, 2, .inl (fun _ => 0))), (kO, .inl (cC, 20, .inl (upd (fun _ => 0) 0 (vp_nar .char 45))))] := hD
    rw [show vp_nar .char 45 = 45 from rfl] at hP hD
    have hP : va_P (dC, dI) vwCl [(k0, .inr (9, [.ref kN, .ref kA, .ref kO, .ref kK, .ref kV, .ref kG, .ref kP, .ref kC, .ref kD, .ref kE, .ref kF, .ref kX, .ref kY, .int 0, .ref kT, .ref kU, .int 0, .int 0, .int 0])), (kN, .inl (cI, 2, .inl (fun _ => 0))), (kA, .inl (cI, 2, .inl (fun _ => 0))), (kO, .inl (cC, 20, .inl (upd (fun _ => 0) 0 45)))] _ := hP
    have hD : va_D A [(k0, .inr (9, [.ref kN, .ref kA, .ref kO, .ref kK, .ref kV, .ref kG, .ref kP, .ref kC, .ref kD, .ref kE, .ref kF, .ref kX, .ref kY, .int 0, .ref kT, .ref kU, .int 0, .int 0, .int 0])), (kN, .inl (cI, 2, .inl (fun _ => 0))), (kA, .inl (cI, 2, .inl (fun _ => 0))), (kO, .inl (cC, 20, .inl (upd (fun _ => 0) 0 45)))] := hD
    refine lv_aload_n hx hb dX6_addNet_58 rfl (lv_at hl 0 rfl) ?_
    refine va_get (D := (dC, dI)) (ci := 9) (v := .ref kN) (C := RX6) (T := TX6) (N := 19) hx hb hts (fun w h => List.mem_cons_of_mem _ (List.mem_append_left _ (List.mem_append_right _ (h)))) hown hK hP 0 rfl rfl 0 (by decide) (hts (.fieldLink RX6 7 "NetcompareModel" "nets" "[I") (List.mem_cons_of_mem _ (List.mem_append_left _ (List.mem_append_left _ (List.mem_of_getElem? (i := 0) rfl))))) (fun _ h9 => h9) rfl dX6_addNet_59 ?_
    refine lv_iload_n hx hb dX6_addNet_62 rfl (lv_at hl 1 rfl) ?_
    refine lv_dup2_11 hx hb dX6_addNet_63 rfl rfl ?_
    refine va_iald hx hb hK hP 1 0 rfl rfl (show ¬ (_ ∨ _) by decide) dX6_addNet_64 ?_
    refine W.eq (g2 := F0 m 65 ls [.int 0, .int 0, .ref kN]) rfl ?_
    refine lv_iconst (v := 1) hx hb dX6_addNet_65 (by decide) ?_
    refine lv_iadd hx hb dX6_addNet_66 ?_
    refine lv_topi (fun y3 ey3 => ?_)
    obtain rfl : y3 = 1 := ey3.trans (by decide)
    refine va_iast hx hb hK hP hD hS 1 0 rfl rfl (show ¬ (_ ∨ _) by decide) dX6_addNet_67 (fun H locs hP hD hS => ?_)
    have hP : va_P (dC, dI) vwCl [(k0, .inr (9, [.ref kN, .ref kA, .ref kO, .ref kK, .ref kV, .ref kG, .ref kP, .ref kC, .ref kD, .ref kE, .ref kF, .ref kX, .ref kY, .int 0, .ref kT, .ref kU, .int 0, .int 0, .int 0])), (kN, .inl (cI, 2, .inl (upd (fun _ => 0) 0 1))), (kA, .inl (cI, 2, .inl (fun _ => 0))), (kO, .inl (cC, 20, .inl (upd (fun _ => 0) 0 45)))] _ := hP
    have hD : va_D A [(k0, .inr (9, [.ref kN, .ref kA, .ref kO, .ref kK, .ref kV, .ref kG, .ref kP, .ref kC, .ref kD, .ref kE, .ref kF, .ref kX, .ref kY, .int 0, .ref kT, .ref kU, .int 0, .int 0, .int 0])), (kN, .inl (cI, 2, .inl (upd (fun _ => 0) 0 1))), (kA, .inl (cI, 2, .inl (fun _ => 0))), (kO, .inl (cC, 20, .inl (upd (fun _ => 0) 0 45)))] := hD
    refine lv_aload_n hx hb dX6_addNet_68 rfl (lv_at hl 0 rfl) ?_
    refine va_get (D := (dC, dI)) (ci := 9) (v := .ref kN) (C := RX6) (T := TX6) (N := 19) hx hb hts (fun w h => List.mem_cons_of_mem _ (List.mem_append_left _ (List.mem_append_right _ (h)))) hown hK hP 0 rfl rfl 0 (by decide) (hts (.fieldLink RX6 7 "NetcompareModel" "nets" "[I") (List.mem_cons_of_mem _ (List.mem_append_left _ (List.mem_append_left _ (List.mem_of_getElem? (i := 0) rfl))))) (fun _ h9 => h9) rfl dX6_addNet_69 ?_
    refine lv_iload_n hx hb dX6_addNet_72 rfl (lv_at hl 1 rfl) ?_
    refine va_iald hx hb hK hP 1 0 rfl rfl (show ¬ (_ ∨ _) by decide) dX6_addNet_73 ?_
    refine W.eq (g2 := F0 m 74 ls [.int 1]) rfl ?_
    refine lv_iconst (v := 1) hx hb dX6_addNet_74 (by decide) ?_
    refine lv_isub hx hb dX6_addNet_75 ?_
    refine lv_topi (fun y4 ey4 => ?_)
    obtain rfl : y4 = 0 := ey4.trans (by decide)
    exact ret _ 0 _ _ _ _ _ _ (Or.inl (⟨rfl, rfl, Or.inl (rfl)⟩)) (hP.sub [0] rfl) (hK.sub [] rfl) (hD.sub [0] (by decide) rfl) hS (Nat.le_of_ble_eq_true rfl) (Nat.le_of_ble_eq_true rfl) dX6_addNet_76
  · skip
    subst hc
    have hP : va_P (dC, dI) vwCl [(k0, .inr (9, [.ref kN, .ref kA, .ref kO, .ref kK, .ref kV, .ref kG, .ref kP, .ref kC, .ref kD, .ref kE, .ref kF, .ref kX, .ref kY, .int 0, .ref kT, .ref kU, .int 0, .int 0, .int 0])), (kN, .inl (cI, 2, .inl (fun _ => 0))), (kA, .inl (cI, 2, .inl (fun _ => 0))), (kO, .inl (cC, 20, .inl (fun _ => 0)))] _ := hP
    have hD : va_D A [(k0, .inr (9, [.ref kN, .ref kA, .ref kO, .ref kK, .ref kV, .ref kG, .ref kP, .ref kC, .ref kD, .ref kE, .ref kF, .ref kX, .ref kY, .int 0, .ref kT, .ref kU, .int 0, .int 0, .int 0])), (kN, .inl (cI, 2, .inl (fun _ => 0))), (kA, .inl (cI, 2, .inl (fun _ => 0))), (kO, .inl (cC, 20, .inl (fun _ => 0)))] := hD
    refine lv_if_ne (tgt := 12) hx hb dX6_addNet_5 (by decide) (fun _ => ?_) (fun h9 => absurd h9 (by decide))
    refine lv_aload_n hx hb dX6_addNet_12 rfl (lv_at hl 0 rfl) ?_
    refine va_get (D := (dC, dI)) (ci := 9) (v := .ref kN) (C := RX6) (T := TX6) (N := 19) hx hb hts (fun w h => List.mem_cons_of_mem _ (List.mem_append_left _ (List.mem_append_right _ (h)))) hown hK hP 0 rfl rfl 0 (by decide) (hts (.fieldLink RX6 7 "NetcompareModel" "nets" "[I") (List.mem_cons_of_mem _ (List.mem_append_left _ (List.mem_append_left _ (List.mem_of_getElem? (i := 0) rfl))))) (fun _ h9 => h9) rfl dX6_addNet_13 ?_
    refine lv_iload_n hx hb dX6_addNet_16 rfl (lv_at hl 1 rfl) ?_
    refine va_iald hx hb hK hP 1 0 rfl rfl (show ¬ (_ ∨ _) by decide) dX6_addNet_17 ?_
    refine W.eq (g2 := F0 m 18 ls [.int 0, .ref k0]) rfl ?_
    refine lv_bipush (v := 10) hx hb dX6_addNet_18 (by decide) ?_
    refine lv_icmp_ne (tgt := 27) hx hb dX6_addNet_20 (by decide) (fun _ => ?_) (fun h9 => absurd h9 (by decide))
    refine lv_iconst (v := 0) hx hb dX6_addNet_27 (by decide) ?_
    refine va_put (D := (dC, dI)) (ci := 9) (v := .int 0) (ty := .int) (C := RX6) (T := TX6) (N := 19) hx hb hts (fun w h => List.mem_cons_of_mem _ (List.mem_append_left _ (List.mem_append_right _ (h)))) tyX6 tyX6_ok nmX6 hown hK hP hD hS 0 rfl rfl 16 (by decide) (hts (.fieldLink RX6 57 "NetcompareModel" "thrown" "I") (List.mem_cons_of_mem _ (List.mem_append_left _ (List.mem_append_left _ (List.mem_of_getElem? (i := 1) rfl))))) (fun _ h9 => h9) rfl (by decide +kernel) rfl rfl (Nat.le_of_ble_eq_true rfl) dX6_addNet_28 (fun H locs hP hD hS => ?_)
    have hP : va_P (dC, dI) vwCl [(k0, .inr (9, [.ref kN, .ref kA, .ref kO, .ref kK, .ref kV, .ref kG, .ref kP, .ref kC, .ref kD, .ref kE, .ref kF, .ref kX, .ref kY, .int 0, .ref kT, .ref kU, .int 0, .int 0, .int 0])), (kN, .inl (cI, 2, .inl (fun _ => 0))), (kA, .inl (cI, 2, .inl (fun _ => 0))), (kO, .inl (cC, 20, .inl (fun _ => 0)))] _ := hP
    have hD : va_D A [(k0, .inr (9, [.ref kN, .ref kA, .ref kO, .ref kK, .ref kV, .ref kG, .ref kP, .ref kC, .ref kD, .ref kE, .ref kF, .ref kX, .ref kY, .int 0, .ref kT, .ref kU, .int 0, .int 0, .int 0])), (kN, .inl (cI, 2, .inl (fun _ => 0))), (kA, .inl (cI, 2, .inl (fun _ => 0))), (kO, .inl (cC, 20, .inl (fun _ => 0)))] := hD
    refine lv_aload_n hx hb dX6_addNet_31 rfl (lv_at hl 0 rfl) ?_
    refine va_get (D := (dC, dI)) (ci := 9) (v := .int 0) (C := RX6) (T := TX6) (N := 19) hx hb hts (fun w h => List.mem_cons_of_mem _ (List.mem_append_left _ (List.mem_append_right _ (h)))) hown hK hP 0 rfl rfl 16 (by decide) (hts (.fieldLink RX6 57 "NetcompareModel" "thrown" "I") (List.mem_cons_of_mem _ (List.mem_append_left _ (List.mem_append_left _ (List.mem_of_getElem? (i := 1) rfl))))) (fun _ h9 => h9) rfl dX6_addNet_32 ?_
    refine lv_if_le (tgt := 40) hx hb dX6_addNet_35 (by decide) (fun _ => ?_) (fun h9 => absurd (by decide) h9)
    refine lv_aload_n hx hb dX6_addNet_40 rfl (lv_at hl 0 rfl) ?_
    refine va_get (D := (dC, dI)) (ci := 9) (v := .ref kO) (C := RX6) (T := TX6) (N := 19) hx hb hts (fun w h => List.mem_cons_of_mem _ (List.mem_append_left _ (List.mem_append_right _ (h)))) hown hK hP 0 rfl rfl 2 (by decide) (hts (.fieldLink RX6 16 "NetcompareModel" "ports" "[C") (List.mem_cons_of_mem _ (List.mem_append_left _ (List.mem_append_left _ (List.mem_of_getElem? (i := 2) rfl))))) (fun _ h9 => h9) rfl dX6_addNet_41 ?_
    refine lv_bipush (v := 10) hx hb dX6_addNet_44 (by decide) ?_
    refine lv_iload_n hx hb dX6_addNet_46 rfl (lv_at hl 1 rfl) ?_
    refine lv_imul hx hb dX6_addNet_47 ?_
    refine lv_topi (fun y5 ey5 => ?_)
    obtain rfl : y5 = 10 := ey5.trans (by decide)
    refine lv_aload_n hx hb dX6_addNet_48 rfl (lv_at hl 0 rfl) ?_
    refine va_get (D := (dC, dI)) (ci := 9) (v := .ref kN) (C := RX6) (T := TX6) (N := 19) hx hb hts (fun w h => List.mem_cons_of_mem _ (List.mem_append_left _ (List.mem_append_right _ (h)))) hown hK hP 0 rfl rfl 0 (by decide) (hts (.fieldLink RX6 7 "NetcompareModel" "nets" "[I") (List.mem_cons_of_mem _ (List.mem_append_left _ (List.mem_append_left _ (List.mem_of_getElem? (i := 0) rfl))))) (fun _ h9 => h9) rfl dX6_addNet_49 ?_
    refine lv_iload_n hx hb dX6_addNet_52 rfl (lv_at hl 1 rfl) ?_
    refine va_iald hx hb hK hP 1 0 rfl rfl (show ¬ (_ ∨ _) by decide) dX6_addNet_53 ?_
    refine W.eq (g2 := F0 m 54 ls [.int 0, .int 10, .ref kO]) rfl ?_
    refine lv_iadd hx hb dX6_addNet_54 ?_
    refine lv_topi (fun y6 ey6 => ?_)
    obtain rfl : y6 = 10 := ey6.trans (by decide)
    refine lv_bipush (v := 45) hx hb dX6_addNet_55 (by decide) ?_
    refine va_cast hx hb hK hP hD hS 3 1 rfl rfl (show ¬ (_ ∨ _) by decide) dX6_addNet_57 (fun H locs hP hD hS => ?_)
    have hP : va_P (dC, dI) vwCl [(k0, .inr (9, [.ref kN, .ref kA, .ref kO, .ref kK, .ref kV, .ref kG, .ref kP, .ref kC, .ref kD, .ref kE, .ref kF, .ref kX, .ref kY, .int 0, .ref kT, .ref kU, .int 0, .int 0, .int 0])), (kN, .inl (cI, 2, .inl (fun _ => 0))), (kA, .inl (cI, 2, .inl (fun _ => 0))), (kO, .inl (cC, 20, .inl (upd (fun _ => 0) 10 (vp_nar .char 45))))] _ := hP
    have hD : va_D A [(k0, .inr (9, [.ref kN, .ref kA, .ref kO, .ref kK, .ref kV, .ref kG, .ref kP, .ref kC, .ref kD, .ref kE, .ref kF, .ref kX, .ref kY, .int 0, .ref kT, .ref kU, .int 0, .int 0, .int 0])), (kN, .inl (cI, 2, .inl (fun _ => 0))), (kA, .inl (cI, 2, .inl (fun _ => 0))), (kO, .inl (cC, 20, .inl (upd (fun _ => 0) 10 (vp_nar .char 45))))] := hD
    rw [show vp_nar .char 45 = 45 from rfl] at hP hD
    have hP : va_P (dC, dI) vwCl [(k0, .inr (9, [.ref kN, .ref kA, .ref kO, .ref kK, .ref kV, .ref kG, .ref kP, .ref kC, .ref kD, .ref kE, .ref kF, .ref kX, .ref kY, .int 0, .ref kT, .ref kU, .int 0, .int 0, .int 0])), (kN, .inl (cI, 2, .inl (fun _ => 0))), (kA, .inl (cI, 2, .inl (fun _ => 0))), (kO, .inl (cC, 20, .inl (upd (fun _ => 0) 10 45)))] _ := hP
    have hD : va_D A [(k0, .inr (9, [.ref kN, .ref kA, .ref kO, .ref kK, .ref kV, .ref kG, .ref kP, .ref kC, .ref kD, .ref kE, .ref kF, .ref kX, .ref kY, .int 0, .ref kT, .ref kU, .int 0, .int 0, .int 0])), (kN, .inl (cI, 2, .inl (fun _ => 0))), (kA, .inl (cI, 2, .inl (fun _ => 0))), (kO, .inl (cC, 20, .inl (upd (fun _ => 0) 10 45)))] := hD
    refine lv_aload_n hx hb dX6_addNet_58 rfl (lv_at hl 0 rfl) ?_
    refine va_get (D := (dC, dI)) (ci := 9) (v := .ref kN) (C := RX6) (T := TX6) (N := 19) hx hb hts (fun w h => List.mem_cons_of_mem _ (List.mem_append_left _ (List.mem_append_right _ (h)))) hown hK hP 0 rfl rfl 0 (by decide) (hts (.fieldLink RX6 7 "NetcompareModel" "nets" "[I") (List.mem_cons_of_mem _ (List.mem_append_left _ (List.mem_append_left _ (List.mem_of_getElem? (i := 0) rfl))))) (fun _ h9 => h9) rfl dX6_addNet_59 ?_
    refine lv_iload_n hx hb dX6_addNet_62 rfl (lv_at hl 1 rfl) ?_
    refine lv_dup2_11 hx hb dX6_addNet_63 rfl rfl ?_
    refine va_iald hx hb hK hP 1 0 rfl rfl (show ¬ (_ ∨ _) by decide) dX6_addNet_64 ?_
    refine W.eq (g2 := F0 m 65 ls [.int 0, .int 1, .ref kN]) rfl ?_
    refine lv_iconst (v := 1) hx hb dX6_addNet_65 (by decide) ?_
    refine lv_iadd hx hb dX6_addNet_66 ?_
    refine lv_topi (fun y7 ey7 => ?_)
    obtain rfl : y7 = 1 := ey7.trans (by decide)
    refine va_iast hx hb hK hP hD hS 1 0 rfl rfl (show ¬ (_ ∨ _) by decide) dX6_addNet_67 (fun H locs hP hD hS => ?_)
    have hP : va_P (dC, dI) vwCl [(k0, .inr (9, [.ref kN, .ref kA, .ref kO, .ref kK, .ref kV, .ref kG, .ref kP, .ref kC, .ref kD, .ref kE, .ref kF, .ref kX, .ref kY, .int 0, .ref kT, .ref kU, .int 0, .int 0, .int 0])), (kN, .inl (cI, 2, .inl (upd (fun _ => 0) 1 1))), (kA, .inl (cI, 2, .inl (fun _ => 0))), (kO, .inl (cC, 20, .inl (upd (fun _ => 0) 10 45)))] _ := hP
    have hD : va_D A [(k0, .inr (9, [.ref kN, .ref kA, .ref kO, .ref kK, .ref kV, .ref kG, .ref kP, .ref kC, .ref kD, .ref kE, .ref kF, .ref kX, .ref kY, .int 0, .ref kT, .ref kU, .int 0, .int 0, .int 0])), (kN, .inl (cI, 2, .inl (upd (fun _ => 0) 1 1))), (kA, .inl (cI, 2, .inl (fun _ => 0))), (kO, .inl (cC, 20, .inl (upd (fun _ => 0) 10 45)))] := hD
    refine lv_aload_n hx hb dX6_addNet_68 rfl (lv_at hl 0 rfl) ?_
    refine va_get (D := (dC, dI)) (ci := 9) (v := .ref kN) (C := RX6) (T := TX6) (N := 19) hx hb hts (fun w h => List.mem_cons_of_mem _ (List.mem_append_left _ (List.mem_append_right _ (h)))) hown hK hP 0 rfl rfl 0 (by decide) (hts (.fieldLink RX6 7 "NetcompareModel" "nets" "[I") (List.mem_cons_of_mem _ (List.mem_append_left _ (List.mem_append_left _ (List.mem_of_getElem? (i := 0) rfl))))) (fun _ h9 => h9) rfl dX6_addNet_69 ?_
    refine lv_iload_n hx hb dX6_addNet_72 rfl (lv_at hl 1 rfl) ?_
    refine va_iald hx hb hK hP 1 0 rfl rfl (show ¬ (_ ∨ _) by decide) dX6_addNet_73 ?_
    refine W.eq (g2 := F0 m 74 ls [.int 1]) rfl ?_
    refine lv_iconst (v := 1) hx hb dX6_addNet_74 (by decide) ?_
    refine lv_isub hx hb dX6_addNet_75 ?_
    refine lv_topi (fun y8 ey8 => ?_)
    obtain rfl : y8 = 0 := ey8.trans (by decide)
    exact ret _ 0 _ _ _ _ _ _ (Or.inl (⟨rfl, rfl, Or.inr (rfl)⟩)) (hP.sub [0] rfl) (hK.sub [] rfl) (hD.sub [0] (by decide) rfl) hS (Nat.le_of_ble_eq_true rfl) (Nat.le_of_ble_eq_true rfl) dX6_addNet_76
  · skip
    have hc10 := hc
    refine lv_if_ne (tgt := 12) hx hb dX6_addNet_5 (by decide) (fun h9 => absurd (by decide) h9) (fun _ => ?_)
    refine lv_iconst (v := 1) hx hb dX6_addNet_8 (by decide) ?_
    refine lv_goto (tgt := 28) hx hb dX6_addNet_9 (by decide) ?_
    refine va_put (D := (dC, dI)) (ci := 9) (v := .int 1) (ty := .int) (C := RX6) (T := TX6) (N := 19) hx hb hts (fun w h => List.mem_cons_of_mem _ (List.mem_append_left _ (List.mem_append_right _ (h)))) tyX6 tyX6_ok nmX6 hown hK hP hD hS 0 rfl rfl 16 (by decide) (hts (.fieldLink RX6 57 "NetcompareModel" "thrown" "I") (List.mem_cons_of_mem _ (List.mem_append_left _ (List.mem_append_left _ (List.mem_of_getElem? (i := 1) rfl))))) (fun _ h9 => h9) rfl (by decide +kernel) rfl rfl (Nat.le_of_ble_eq_true rfl) dX6_addNet_28 (fun H locs hP hD hS => ?_)
    have hP : va_P (dC, dI) vwCl [(k0, .inr (9, [.ref kN, .ref kA, .ref kO, .ref kK, .ref kV, .ref kG, .ref kP, .ref kC, .ref kD, .ref kE, .ref kF, .ref kX, .ref kY, .int 0, .ref kT, .ref kU, .int 1, .int 0, .int 0])), (kN, .inl (cI, 2, .inl (fun _ => 0))), (kA, .inl (cI, 2, .inl (fun _ => 0))), (kO, .inl (cC, 20, .inl (fun _ => 0)))] _ := hP
    have hD : va_D A [(k0, .inr (9, [.ref kN, .ref kA, .ref kO, .ref kK, .ref kV, .ref kG, .ref kP, .ref kC, .ref kD, .ref kE, .ref kF, .ref kX, .ref kY, .int 0, .ref kT, .ref kU, .int 1, .int 0, .int 0])), (kN, .inl (cI, 2, .inl (fun _ => 0))), (kA, .inl (cI, 2, .inl (fun _ => 0))), (kO, .inl (cC, 20, .inl (fun _ => 0)))] := hD
    refine lv_aload_n hx hb dX6_addNet_31 rfl (lv_at hl 0 rfl) ?_
    refine va_get (D := (dC, dI)) (ci := 9) (v := .int 1) (C := RX6) (T := TX6) (N := 19) hx hb hts (fun w h => List.mem_cons_of_mem _ (List.mem_append_left _ (List.mem_append_right _ (h)))) hown hK hP 0 rfl rfl 16 (by decide) (hts (.fieldLink RX6 57 "NetcompareModel" "thrown" "I") (List.mem_cons_of_mem _ (List.mem_append_left _ (List.mem_append_left _ (List.mem_of_getElem? (i := 1) rfl))))) (fun _ h9 => h9) rfl dX6_addNet_32 ?_
    refine lv_if_le (tgt := 40) hx hb dX6_addNet_35 (by decide) (fun h9 => absurd h9 (by decide)) (fun _ => ?_)
    refine lv_iconst (v := (-1)) hx hb dX6_addNet_38 (by decide) ?_
    exact ret _ 1 _ _ _ _ _ _ (Or.inr (⟨rfl, hc10⟩)) (hP.sub [0] rfl) (hK.sub [] rfl) (hD.sub [0] (by decide) rfl) hS (Nat.le_of_ble_eq_true rfl) (Nat.le_of_ble_eq_true rfl) dX6_addNet_39

set_option maxHeartbeats 4000000 in
set_option maxRecDepth 100000 in
/-- the model: setPort on a fresh one -/
theorem kX6_setPort (l : Launch) (dC : Nat → ClassId) (dI : Nat → Nat → Nat) (k0 kN kA kO kK kV kG kP kC kD kE kF kX kY kT kU : Nat) (cI : ClassId) (p0 p1 p2 : Int32) (sz : Nat) : fMi l yX6_setPort wsX6_setPort ({ frames := 2, cells := 0, slots := 0, locals := 47 } : Room) dC dI [.ref k0, .int p0, .int p1, .int p2] [(k0, .inr (9, [.ref kN, .ref kA, .ref kO, .ref kK, .ref kV, .ref kG, .ref kP, .ref kC, .ref kD, .ref kE, .ref kF, .ref kX, .ref kY, .int 0, .ref kT, .ref kU, .int 0, .int 0, .int 0])), (kN, .inl (cI, 2, .inl (fun _ => 0))), (kA, .inl (cI, 2, .inl (fun _ => 0)))] [(cI, .int)] sz (fun (r : Int32) (u : Int32) => u = 1 ∧ ((¬ ((p0 = 0) ∨ (p0 = 1))) ∨ (¬ ((p2 = 45) ∨ ((¬ (p2 < 97)) ∧ (¬ (102 < p2)))))) ∨ u = 2 ∧ (¬ ((¬ ((p0 = 0) ∨ (p0 = 1))) ∨ (¬ ((p2 = 45) ∨ ((¬ (p2 < 97)) ∧ (¬ (102 < p2)))))))) (fun u => [(k0, .inr (9, [.ref kN, .ref kA, .ref kO, .ref kK, .ref kV, .ref kG, .ref kP, .ref kC, .ref kD, .ref kE, .ref kF, .ref kX, .ref kY, .int 0, .ref kT, .ref kU, .int u, .int 0, .int 0]))]) (fun u => []) := by
  refine oP_z (y := yX6_setPort) (cc := cX6_setPort) (maxL := 7) (by decide) rfl (Nat.le_of_ble_eq_true rfl) ?_
  intro p e s m args below meth c ls A Q hx hb hr hml hown hts hN hZ hA hin hlk hP hK hD hl ret
  have hS : va_S A s.heap s.heap [] := va_S.rf
  have hl : lv_has ls 7 [(0, .ref k0), (1, .int p0), (2, .int p1), (3, .int p2)] := hl
  have hP : va_P (dC, dI) vwCl [(k0, .inr (9, [.ref kN, .ref kA, .ref kO, .ref kK, .ref kV, .ref kG, .ref kP, .ref kC, .ref kD, .ref kE, .ref kF, .ref kX, .ref kY, .int 0, .ref kT, .ref kU, .int 0, .int 0, .int 0])), (kN, .inl (cI, 2, .inl (fun _ => 0))), (kA, .inl (cI, 2, .inl (fun _ => 0)))] _ := hP
  have hD : va_D A [(k0, .inr (9, [.ref kN, .ref kA, .ref kO, .ref kK, .ref kV, .ref kG, .ref kP, .ref kC, .ref kD, .ref kE, .ref kF, .ref kX, .ref kY, .int 0, .ref kT, .ref kU, .int 0, .int 0, .int 0])), (kN, .inl (cI, 2, .inl (fun _ => 0))), (kA, .inl (cI, 2, .inl (fun _ => 0)))] := hD
  refine lv_iload_n hx hb dX6_setPort_0 rfl (lv_at hl 3 rfl) ?_
  refine lv_bipush (v := 45) hx hb dX6_setPort_1 (by decide) ?_
  refine lv_icmp_eq (tgt := 20) hx hb dX6_setPort_3 (by decide) (fun h1 => ?_) (fun h1 => ?_)
  · skip
    refine lv_iconst (v := 1) hx hb dX6_setPort_20 (by decide) ?_
    refine lv_goto (tgt := 25) hx hb dX6_setPort_21 (by decide) ?_
    refine lv_istore (lv' := [(4, .int 1), (0, .ref k0), (1, .int p0), (2, .int p1), (3, .int p2)]) hx hb dX6_setPort_25 hl (Nat.le_of_ble_eq_true rfl) rfl (fun ls hl => ?_)
    refine lv_iload_n hx hb dX6_setPort_27 rfl (lv_at hl 2 rfl) ?_
    have hPc := hP.sub (ws' := []) [] rfl
    have hDc := hD.sub (ws' := []) [] (by decide) rfl
    have hKc := hK.sub (tys' := []) [] rfl
    have hFc := va_free (wc := []) hD hS hA [] rfl
    refine va_calli (va_runS (As := [.int p0]) (rest := []) ⟨hx, hb, hml, hown, hts⟩ (kX6_isCircuit l dC dI p0 s.heap.size) (va_cwS 1 hts gX6_setPort_X6_isCircuit rfl rfl rfl (by decide +kernel) ⟨Nat.le_of_ble_eq_true rfl, Nat.le_of_ble_eq_true rfl⟩) (fPreS hN hZ hS (fun q h => hFc q h) hPc hKc hDc) rfl rfl hl.1 rfl (lv_room (Nat.le_of_ble_eq_true rfl)) dX6_setPort_28 ⟨Nat.le_of_ble_eq_true rfl, Nat.le_of_ble_eq_true rfl⟩) hS (fun q _ h => hFc q h) hFc (fun r u t H1 locs ht hvm hw hB hz1 hk1 hS => ?_)
    obtain ⟨hP1, hK1, hD1⟩ := hB
    rw [ht] at hP1
    have hK1 := va_K.moved hvm.symm hK1
    obtain ⟨hP, hD⟩ := va_join (wr := [(k0, .inr (9, [.ref kN, .ref kA, .ref kO, .ref kK, .ref kV, .ref kG, .ref kP, .ref kC, .ref kD, .ref kE, .ref kF, .ref kX, .ref kY, .int 0, .ref kT, .ref kU, .int 0, .int 0, .int 0])), (kN, .inl (cI, 2, .inl (fun _ => 0))), (kA, .inl (cI, 2, .inl (fun _ => 0)))]) (w1 := []) hP hD [] [0, 1, 2] rfl rfl (by decide) (by decide) hk1 hFc hP1 hD1
    generalize H1 = H at hP hS ⊢
    have hP : va_P (dC, dI) vwCl [(k0, .inr (9, [.ref kN, .ref kA, .ref kO, .ref kK, .ref kV, .ref kG, .ref kP, .ref kC, .ref kD, .ref kE, .ref kF, .ref kX, .ref kY, .int 0, .ref kT, .ref kU, .int 0, .int 0, .int 0])), (kN, .inl (cI, 2, .inl (fun _ => 0))), (kA, .inl (cI, 2, .inl (fun _ => 0)))] _ := hP
    have hD : va_D A [(k0, .inr (9, [.ref kN, .ref kA, .ref kO, .ref kK, .ref kV, .ref kG, .ref kP, .ref kC, .ref kD, .ref kE, .ref kF, .ref kX, .ref kY, .int 0, .ref kT, .ref kU, .int 0, .int 0, .int 0])), (kN, .inl (cI, 2, .inl (fun _ => 0))), (kA, .inl (cI, 2, .inl (fun _ => 0)))] := hD
    rcases hw with ⟨rfl, hc | hc⟩ | ⟨rfl, hc⟩
    · skip
      subst hc
      have hP : va_P (dC, dI) vwCl [(k0, .inr (9, [.ref kN, .ref kA, .ref kO, .ref kK, .ref kV, .ref kG, .ref kP, .ref kC, .ref kD, .ref kE, .ref kF, .ref kX, .ref kY, .int 0, .ref kT, .ref kU, .int 0, .int 0, .int 0])), (kN, .inl (cI, 2, .inl (fun _ => 0))), (kA, .inl (cI, 2, .inl (fun _ => 0)))] _ := hP
      have hD : va_D A [(k0, .inr (9, [.ref kN, .ref kA, .ref kO, .ref kK, .ref kV, .ref kG, .ref kP, .ref kC, .ref kD, .ref kE, .ref kF, .ref kX, .ref kY, .int 0, .ref kT, .ref kU, .int 0, .int 0, .int 0])), (kN, .inl (cI, 2, .inl (fun _ => 0))), (kA, .inl (cI, 2, .inl (fun _ => 0)))] := hD
      refine lv_if_eq (tgt := 48) hx hb dX6_setPort_31 (by decide) (fun h9 => absurd h9 (by decide)) (fun _ => ?_)
      refine lv_iload hx hb dX6_setPort_34 (lv_at hl 0 rfl) ?_
      refine lv_if_eq (tgt := 48) hx hb dX6_setPort_36 (by decide) (fun h9 => absurd h9 (by decide)) (fun _ => ?_)
      refine lv_aload_n hx hb dX6_setPort_39 rfl (lv_at hl 1 rfl) ?_
      refine lv_iload_n hx hb dX6_setPort_40 rfl (lv_at hl 2 rfl) ?_
      refine lv_iload_n hx hb dX6_setPort_41 rfl (lv_at hl 3 rfl) ?_
      have hPc := hP.sub (ws' := [(k0, .inr (9, [.ref kN, .ref kA, .ref kO, .ref kK, .ref kV, .ref kG, .ref kP, .ref kC, .ref kD, .ref kE, .ref kF, .ref kX, .ref kY, .int 0, .ref kT, .ref kU, .int 0, .int 0, .int 0])), (kN, .inl (cI, 2, .inl (fun _ => 0)))]) [0, 1] rfl
      have hDc := hD.sub (ws' := [(k0, .inr (9, [.ref kN, .ref kA, .ref kO, .ref kK, .ref kV, .ref kG, .ref kP, .ref kC, .ref kD, .ref kE, .ref kF, .ref kX, .ref kY, .int 0, .ref kT, .ref kU, .int 0, .int 0, .int 0])), (kN, .inl (cI, 2, .inl (fun _ => 0)))]) [0, 1] (by decide) rfl
      have hKc := hK.sub (tys' := [(cI, .int)]) [0] rfl
      have hFc := va_free (wc := [(k0, .inr (9, [.ref kN, .ref kA, .ref kO, .ref kK, .ref kV, .ref kG, .ref kP, .ref kC, .ref kD, .ref kE, .ref kF, .ref kX, .ref kY, .int 0, .ref kT, .ref kU, .int 0, .int 0, .int 0])), (kN, .inl (cI, 2, .inl (fun _ => 0)))]) hD hS hA [0, 1] rfl
      refine va_calli (va_runV (As := [.int 0, .int p1]) (rest := []) ⟨hx, hb, hml, hown, hts⟩ (kX6_isNet0 l dC dI k0 kN kA kO kK kV kG kP kC kD kE kF kX kY kT kU cI p1 H.size) (cwV 2 hts gX6_setPort_X6_isNet rfl rfl rfl (by decide +kernel) ⟨Nat.le_of_ble_eq_true rfl, Nat.le_of_ble_eq_true rfl⟩) (fPreV hN hZ hS (fun q h => hFc q h) hPc hKc hDc (ci := 9) (q0 := 0) rfl rfl) rfl rfl hl.1 rfl (lv_room (Nat.le_of_ble_eq_true rfl)) dX6_setPort_42 ⟨Nat.le_of_ble_eq_true rfl, Nat.le_of_ble_eq_true rfl⟩) hS (fun q _ h => hFc q h) hFc (fun r u t H1 locs ht hvm hw hB hz1 hk1 hS => ?_)
      obtain ⟨hP1, hK1, hD1⟩ := hB
      rw [ht] at hP1
      have hK1 := va_K.moved hvm.symm hK1
      obtain ⟨hP, hD⟩ := va_join (wr := [(kA, .inl (cI, 2, .inl (fun _ => 0)))]) (w1 := [(k0, .inr (9, [.ref kN, .ref kA, .ref kO, .ref kK, .ref kV, .ref kG, .ref kP, .ref kC, .ref kD, .ref kE, .ref kF, .ref kX, .ref kY, .int 0, .ref kT, .ref kU, .int 0, .int 0, .int 0])), (kN, .inl (cI, 2, .inl (fun _ => 0)))]) hP hD [0, 1] [2] rfl rfl (by decide) (by decide) hk1 hFc hP1 hD1
      generalize H1 = H at hP hS ⊢
      have hP : va_P (dC, dI) vwCl [(kA, .inl (cI, 2, .inl (fun _ => 0))), (k0, .inr (9, [.ref kN, .ref kA, .ref kO, .ref kK, .ref kV, .ref kG, .ref kP, .ref kC, .ref kD, .ref kE, .ref kF, .ref kX, .ref kY, .int 0, .ref kT, .ref kU, .int 0, .int 0, .int 0])), (kN, .inl (cI, 2, .inl (fun _ => 0)))] _ := hP
      have hD : va_D A [(kA, .inl (cI, 2, .inl (fun _ => 0))), (k0, .inr (9, [.ref kN, .ref kA, .ref kO, .ref kK, .ref kV, .ref kG, .ref kP, .ref kC, .ref kD, .ref kE, .ref kF, .ref kX, .ref kY, .int 0, .ref kT, .ref kU, .int 0, .int 0, .int 0])), (kN, .inl (cI, 2, .inl (fun _ => 0)))] := hD
      subst hw
      refine lv_if_ne (tgt := 72) hx hb dX6_setPort_45 (by decide) (fun h9 => absurd (by decide) h9) (fun _ => ?_)
      refine lv_aload_n hx hb dX6_setPort_48 rfl (lv_at hl 1 rfl) ?_
      refine lv_iload_n hx hb dX6_setPort_49 rfl (lv_at hl 2 rfl) ?_
      have hPc := hP.sub (ws' := []) [] rfl
      have hDc := hD.sub (ws' := []) [] (by decide) rfl
      have hKc := hK.sub (tys' := []) [] rfl
      have hFc := va_free (wc := []) hD hS hA [] rfl
      refine va_calli (va_runS (As := [.int 0]) (rest := [.ref k0]) ⟨hx, hb, hml, hown, hts⟩ (kX6_isCircuit l dC dI 0 H.size) (va_cwS 1 hts gX6_setPort_X6_isCircuit rfl rfl rfl (by decide +kernel) ⟨Nat.le_of_ble_eq_true rfl, Nat.le_of_ble_eq_true rfl⟩) (fPreS hN hZ hS (fun q h => hFc q h) hPc hKc hDc) rfl rfl hl.1 rfl (lv_room (Nat.le_of_ble_eq_true rfl)) dX6_setPort_50 ⟨Nat.le_of_ble_eq_true rfl, Nat.le_of_ble_eq_true rfl⟩) hS (fun q _ h => hFc q h) hFc (fun r u t H1 locs ht hvm hw hB hz1 hk1 hS => ?_)
      obtain ⟨hP1, hK1, hD1⟩ := hB
      rw [ht] at hP1
      have hK1 := va_K.moved hvm.symm hK1
      obtain ⟨hP, hD⟩ := va_join (wr := [(kA, .inl (cI, 2, .inl (fun _ => 0))), (k0, .inr (9, [.ref kN, .ref kA, .ref kO, .ref kK, .ref kV, .ref kG, .ref kP, .ref kC, .ref kD, .ref kE, .ref kF, .ref kX, .ref kY, .int 0, .ref kT, .ref kU, .int 0, .int 0, .int 0])), (kN, .inl (cI, 2, .inl (fun _ => 0)))]) (w1 := []) hP hD [] [0, 1, 2] rfl rfl (by decide) (by decide) hk1 hFc hP1 hD1
      generalize H1 = H at hP hS ⊢
      have hP : va_P (dC, dI) vwCl [(kA, .inl (cI, 2, .inl (fun _ => 0))), (k0, .inr (9, [.ref kN, .ref kA, .ref kO, .ref kK, .ref kV, .ref kG, .ref kP, .ref kC, .ref kD, .ref kE, .ref kF, .ref kX, .ref kY, .int 0, .ref kT, .ref kU, .int 0, .int 0, .int 0])), (kN, .inl (cI, 2, .inl (fun _ => 0)))] _ := hP
      have hD : va_D A [(kA, .inl (cI, 2, .inl (fun _ => 0))), (k0, .inr (9, [.ref kN, .ref kA, .ref kO, .ref kK, .ref kV, .ref kG, .ref kP, .ref kC, .ref kD, .ref kE, .ref kF, .ref kX, .ref kY, .int 0, .ref kT, .ref kU, .int 0, .int 0, .int 0])), (kN, .inl (cI, 2, .inl (fun _ => 0)))] := hD
      have hw : r = 1 := hw.elim (fun h => h.1) (fun h => absurd (by decide) h.2)
      subst hw
      refine lv_if_eq (tgt := 61) hx hb dX6_setPort_53 (by decide) (fun h9 => absurd h9 (by decide)) (fun _ => ?_)
      refine lv_iload hx hb dX6_setPort_56 (lv_at hl 0 rfl) ?_
      refine lv_if_ne (tgt := 65) hx hb dX6_setPort_58 (by decide) (fun _ => ?_) (fun h9 => absurd h9 (by decide))
      refine lv_iconst (v := 2) hx hb dX6_setPort_65 (by decide) ?_
      refine va_put (D := (dC, dI)) (ci := 9) (v := .int 2) (ty := .int) (C := RX6) (T := TX6) (N := 19) hx hb hts (fun w h => List.mem_cons_of_mem _ (List.mem_append_left _ (List.mem_append_right _ (h)))) tyX6 tyX6_ok nmX6 hown hK hP hD hS 1 rfl rfl 16 (by decide) (hts (.fieldLink RX6 57 "NetcompareModel" "thrown" "I") (List.mem_cons_of_mem _ (List.mem_append_left _ (List.mem_append_left _ (List.mem_of_getElem? (i := 2) rfl))))) (fun _ h9 => h9) rfl (by decide +kernel) rfl rfl (Nat.le_of_ble_eq_true rfl) dX6_setPort_66 (fun H locs hP hD hS => ?_)
      have hP : va_P (dC, dI) vwCl [(kA, .inl (cI, 2, .inl (fun _ => 0))), (k0, .inr (9, [.ref kN, .ref kA, .ref kO, .ref kK, .ref kV, .ref kG, .ref kP, .ref kC, .ref kD, .ref kE, .ref kF, .ref kX, .ref kY, .int 0, .ref kT, .ref kU, .int 2, .int 0, .int 0])), (kN, .inl (cI, 2, .inl (fun _ => 0)))] _ := hP
      have hD : va_D A [(kA, .inl (cI, 2, .inl (fun _ => 0))), (k0, .inr (9, [.ref kN, .ref kA, .ref kO, .ref kK, .ref kV, .ref kG, .ref kP, .ref kC, .ref kD, .ref kE, .ref kF, .ref kX, .ref kY, .int 0, .ref kT, .ref kU, .int 2, .int 0, .int 0])), (kN, .inl (cI, 2, .inl (fun _ => 0)))] := hD
      refine lv_bipush (v := 32) hx hb dX6_setPort_69 (by decide) ?_
      exact ret _ 2 _ _ _ _ _ _ (by decide) (Or.inr (⟨rfl, (fun h9 => h9.elim ((fun h9 => h9 (Or.inl (rfl)))) ((fun h9 => h9 (Or.inl (h1)))))⟩)) (hP.sub [1] rfl) (hK.sub [] rfl) (hD.sub [1] (by decide) rfl) hS (Nat.le_of_ble_eq_true rfl) (Nat.le_of_ble_eq_true rfl) dX6_setPort_71
    · skip
      subst hc
      have hP : va_P (dC, dI) vwCl [(k0, .inr (9, [.ref kN, .ref kA, .ref kO, .ref kK, .ref kV, .ref kG, .ref kP, .ref kC, .ref kD, .ref kE, .ref kF, .ref kX, .ref kY, .int 0, .ref kT, .ref kU, .int 0, .int 0, .int 0])), (kN, .inl (cI, 2, .inl (fun _ => 0))), (kA, .inl (cI, 2, .inl (fun _ => 0)))] _ := hP
      have hD : va_D A [(k0, .inr (9, [.ref kN, .ref kA, .ref kO, .ref kK, .ref kV, .ref kG, .ref kP, .ref kC, .ref kD, .ref kE, .ref kF, .ref kX, .ref kY, .int 0, .ref kT, .ref kU, .int 0, .int 0, .int 0])), (kN, .inl (cI, 2, .inl (fun _ => 0))), (kA, .inl (cI, 2, .inl (fun _ => 0)))] := hD
      refine lv_if_eq (tgt := 48) hx hb dX6_setPort_31 (by decide) (fun h9 => absurd h9 (by decide)) (fun _ => ?_)
      refine lv_iload hx hb dX6_setPort_34 (lv_at hl 0 rfl) ?_
      refine lv_if_eq (tgt := 48) hx hb dX6_setPort_36 (by decide) (fun h9 => absurd h9 (by decide)) (fun _ => ?_)
      refine lv_aload_n hx hb dX6_setPort_39 rfl (lv_at hl 1 rfl) ?_
      refine lv_iload_n hx hb dX6_setPort_40 rfl (lv_at hl 2 rfl) ?_
      refine lv_iload_n hx hb dX6_setPort_41 rfl (lv_at hl 3 rfl) ?_
      have hPc := hP.sub (ws' := [(k0, .inr (9, [.ref kN, .ref kA, .ref kO, .ref kK, .ref kV, .ref kG, .ref kP, .ref kC, .ref kD, .ref kE, .ref kF, .ref kX, .ref kY, .int 0, .ref kT, .ref kU, .int 0, .int 0, .int 0])), (kN, .inl (cI, 2, .inl (fun _ => 0)))]) [0, 1] rfl
      have hDc := hD.sub (ws' := [(k0, .inr (9, [.ref kN, .ref kA, .ref kO, .ref kK, .ref kV, .ref kG, .ref kP, .ref kC, .ref kD, .ref kE, .ref kF, .ref kX, .ref kY, .int 0, .ref kT, .ref kU, .int 0, .int 0, .int 0])), (kN, .inl (cI, 2, .inl (fun _ => 0)))]) [0, 1] (by decide) rfl
      have hKc := hK.sub (tys' := [(cI, .int)]) [0] rfl
      have hFc := va_free (wc := [(k0, .inr (9, [.ref kN, .ref kA, .ref kO, .ref kK, .ref kV, .ref kG, .ref kP, .ref kC, .ref kD, .ref kE, .ref kF, .ref kX, .ref kY, .int 0, .ref kT, .ref kU, .int 0, .int 0, .int 0])), (kN, .inl (cI, 2, .inl (fun _ => 0)))]) hD hS hA [0, 1] rfl
      refine va_calli (va_runV (As := [.int 1, .int p1]) (rest := []) ⟨hx, hb, hml, hown, hts⟩ (kX6_isNet1 l dC dI k0 kN kA kO kK kV kG kP kC kD kE kF kX kY kT kU cI p1 H.size) (cwV 2 hts gX6_setPort_X6_isNet rfl rfl rfl (by decide +kernel) ⟨Nat.le_of_ble_eq_true rfl, Nat.le_of_ble_eq_true rfl⟩) (fPreV hN hZ hS (fun q h => hFc q h) hPc hKc hDc (ci := 9) (q0 := 0) rfl rfl) rfl rfl hl.1 rfl (lv_room (Nat.le_of_ble_eq_true rfl)) dX6_setPort_42 ⟨Nat.le_of_ble_eq_true rfl, Nat.le_of_ble_eq_true rfl⟩) hS (fun q _ h => hFc q h) hFc (fun r u t H1 locs ht hvm hw hB hz1 hk1 hS => ?_)
      obtain ⟨hP1, hK1, hD1⟩ := hB
      rw [ht] at hP1
      have hK1 := va_K.moved hvm.symm hK1
      obtain ⟨hP, hD⟩ := va_join (wr := [(kA, .inl (cI, 2, .inl (fun _ => 0)))]) (w1 := [(k0, .inr (9, [.ref kN, .ref kA, .ref kO, .ref kK, .ref kV, .ref kG, .ref kP, .ref kC, .ref kD, .ref kE, .ref kF, .ref kX, .ref kY, .int 0, .ref kT, .ref kU, .int 0, .int 0, .int 0])), (kN, .inl (cI, 2, .inl (fun _ => 0)))]) hP hD [0, 1] [2] rfl rfl (by decide) (by decide) hk1 hFc hP1 hD1
      generalize H1 = H at hP hS ⊢
      have hP : va_P (dC, dI) vwCl [(kA, .inl (cI, 2, .inl (fun _ => 0))), (k0, .inr (9, [.ref kN, .ref kA, .ref kO, .ref kK, .ref kV, .ref kG, .ref kP, .ref kC, .ref kD, .ref kE, .ref kF, .ref kX, .ref kY, .int 0, .ref kT, .ref kU, .int 0, .int 0, .int 0])), (kN, .inl (cI, 2, .inl (fun _ => 0)))] _ := hP
      have hD : va_D A [(kA, .inl (cI, 2, .inl (fun _ => 0))), (k0, .inr (9, [.ref kN, .ref kA, .ref kO, .ref kK, .ref kV, .ref kG, .ref kP, .ref kC, .ref kD, .ref kE, .ref kF, .ref kX, .ref kY, .int 0, .ref kT, .ref kU, .int 0, .int 0, .int 0])), (kN, .inl (cI, 2, .inl (fun _ => 0)))] := hD
      subst hw
      refine lv_if_ne (tgt := 72) hx hb dX6_setPort_45 (by decide) (fun h9 => absurd (by decide) h9) (fun _ => ?_)
      refine lv_aload_n hx hb dX6_setPort_48 rfl (lv_at hl 1 rfl) ?_
      refine lv_iload_n hx hb dX6_setPort_49 rfl (lv_at hl 2 rfl) ?_
      have hPc := hP.sub (ws' := []) [] rfl
      have hDc := hD.sub (ws' := []) [] (by decide) rfl
      have hKc := hK.sub (tys' := []) [] rfl
      have hFc := va_free (wc := []) hD hS hA [] rfl
      refine va_calli (va_runS (As := [.int 1]) (rest := [.ref k0]) ⟨hx, hb, hml, hown, hts⟩ (kX6_isCircuit l dC dI 1 H.size) (va_cwS 1 hts gX6_setPort_X6_isCircuit rfl rfl rfl (by decide +kernel) ⟨Nat.le_of_ble_eq_true rfl, Nat.le_of_ble_eq_true rfl⟩) (fPreS hN hZ hS (fun q h => hFc q h) hPc hKc hDc) rfl rfl hl.1 rfl (lv_room (Nat.le_of_ble_eq_true rfl)) dX6_setPort_50 ⟨Nat.le_of_ble_eq_true rfl, Nat.le_of_ble_eq_true rfl⟩) hS (fun q _ h => hFc q h) hFc (fun r u t H1 locs ht hvm hw hB hz1 hk1 hS => ?_)
      obtain ⟨hP1, hK1, hD1⟩ := hB
      rw [ht] at hP1
      have hK1 := va_K.moved hvm.symm hK1
      obtain ⟨hP, hD⟩ := va_join (wr := [(kA, .inl (cI, 2, .inl (fun _ => 0))), (k0, .inr (9, [.ref kN, .ref kA, .ref kO, .ref kK, .ref kV, .ref kG, .ref kP, .ref kC, .ref kD, .ref kE, .ref kF, .ref kX, .ref kY, .int 0, .ref kT, .ref kU, .int 0, .int 0, .int 0])), (kN, .inl (cI, 2, .inl (fun _ => 0)))]) (w1 := []) hP hD [] [0, 1, 2] rfl rfl (by decide) (by decide) hk1 hFc hP1 hD1
      generalize H1 = H at hP hS ⊢
      have hP : va_P (dC, dI) vwCl [(kA, .inl (cI, 2, .inl (fun _ => 0))), (k0, .inr (9, [.ref kN, .ref kA, .ref kO, .ref kK, .ref kV, .ref kG, .ref kP, .ref kC, .ref kD, .ref kE, .ref kF, .ref kX, .ref kY, .int 0, .ref kT, .ref kU, .int 0, .int 0, .int 0])), (kN, .inl (cI, 2, .inl (fun _ => 0)))] _ := hP
      have hD : va_D A [(kA, .inl (cI, 2, .inl (fun _ => 0))), (k0, .inr (9, [.ref kN, .ref kA, .ref kO, .ref kK, .ref kV, .ref kG, .ref kP, .ref kC, .ref kD, .ref kE, .ref kF, .ref kX, .ref kY, .int 0, .ref kT, .ref kU, .int 0, .int 0, .int 0])), (kN, .inl (cI, 2, .inl (fun _ => 0)))] := hD
      have hw : r = 1 := hw.elim (fun h => h.1) (fun h => absurd (by decide) h.2)
      subst hw
      refine lv_if_eq (tgt := 61) hx hb dX6_setPort_53 (by decide) (fun h9 => absurd h9 (by decide)) (fun _ => ?_)
      refine lv_iload hx hb dX6_setPort_56 (lv_at hl 0 rfl) ?_
      refine lv_if_ne (tgt := 65) hx hb dX6_setPort_58 (by decide) (fun _ => ?_) (fun h9 => absurd h9 (by decide))
      refine lv_iconst (v := 2) hx hb dX6_setPort_65 (by decide) ?_
      refine va_put (D := (dC, dI)) (ci := 9) (v := .int 2) (ty := .int) (C := RX6) (T := TX6) (N := 19) hx hb hts (fun w h => List.mem_cons_of_mem _ (List.mem_append_left _ (List.mem_append_right _ (h)))) tyX6 tyX6_ok nmX6 hown hK hP hD hS 1 rfl rfl 16 (by decide) (hts (.fieldLink RX6 57 "NetcompareModel" "thrown" "I") (List.mem_cons_of_mem _ (List.mem_append_left _ (List.mem_append_left _ (List.mem_of_getElem? (i := 2) rfl))))) (fun _ h9 => h9) rfl (by decide +kernel) rfl rfl (Nat.le_of_ble_eq_true rfl) dX6_setPort_66 (fun H locs hP hD hS => ?_)
      have hP : va_P (dC, dI) vwCl [(kA, .inl (cI, 2, .inl (fun _ => 0))), (k0, .inr (9, [.ref kN, .ref kA, .ref kO, .ref kK, .ref kV, .ref kG, .ref kP, .ref kC, .ref kD, .ref kE, .ref kF, .ref kX, .ref kY, .int 0, .ref kT, .ref kU, .int 2, .int 0, .int 0])), (kN, .inl (cI, 2, .inl (fun _ => 0)))] _ := hP
      have hD : va_D A [(kA, .inl (cI, 2, .inl (fun _ => 0))), (k0, .inr (9, [.ref kN, .ref kA, .ref kO, .ref kK, .ref kV, .ref kG, .ref kP, .ref kC, .ref kD, .ref kE, .ref kF, .ref kX, .ref kY, .int 0, .ref kT, .ref kU, .int 2, .int 0, .int 0])), (kN, .inl (cI, 2, .inl (fun _ => 0)))] := hD
      refine lv_bipush (v := 32) hx hb dX6_setPort_69 (by decide) ?_
      exact ret _ 2 _ _ _ _ _ _ (by decide) (Or.inr (⟨rfl, (fun h9 => h9.elim ((fun h9 => h9 (Or.inr (rfl)))) ((fun h9 => h9 (Or.inl (h1)))))⟩)) (hP.sub [1] rfl) (hK.sub [] rfl) (hD.sub [1] (by decide) rfl) hS (Nat.le_of_ble_eq_true rfl) (Nat.le_of_ble_eq_true rfl) dX6_setPort_71
    · skip
      have hc2 := hc
      refine lv_if_eq (tgt := 48) hx hb dX6_setPort_31 (by decide) (fun _ => ?_) (fun h9 => absurd (by decide) h9)
      refine lv_aload_n hx hb dX6_setPort_48 rfl (lv_at hl 1 rfl) ?_
      refine lv_iload_n hx hb dX6_setPort_49 rfl (lv_at hl 2 rfl) ?_
      have hPc := hP.sub (ws' := []) [] rfl
      have hDc := hD.sub (ws' := []) [] (by decide) rfl
      have hKc := hK.sub (tys' := []) [] rfl
      have hFc := va_free (wc := []) hD hS hA [] rfl
      refine va_calli (va_runS (As := [.int p0]) (rest := [.ref k0]) ⟨hx, hb, hml, hown, hts⟩ (kX6_isCircuit l dC dI p0 H.size) (va_cwS 1 hts gX6_setPort_X6_isCircuit rfl rfl rfl (by decide +kernel) ⟨Nat.le_of_ble_eq_true rfl, Nat.le_of_ble_eq_true rfl⟩) (fPreS hN hZ hS (fun q h => hFc q h) hPc hKc hDc) rfl rfl hl.1 rfl (lv_room (Nat.le_of_ble_eq_true rfl)) dX6_setPort_50 ⟨Nat.le_of_ble_eq_true rfl, Nat.le_of_ble_eq_true rfl⟩) hS (fun q _ h => hFc q h) hFc (fun r u t H1 locs ht hvm hw hB hz1 hk1 hS => ?_)
      obtain ⟨hP1, hK1, hD1⟩ := hB
      rw [ht] at hP1
      have hK1 := va_K.moved hvm.symm hK1
      obtain ⟨hP, hD⟩ := va_join (wr := [(k0, .inr (9, [.ref kN, .ref kA, .ref kO, .ref kK, .ref kV, .ref kG, .ref kP, .ref kC, .ref kD, .ref kE, .ref kF, .ref kX, .ref kY, .int 0, .ref kT, .ref kU, .int 0, .int 0, .int 0])), (kN, .inl (cI, 2, .inl (fun _ => 0))), (kA, .inl (cI, 2, .inl (fun _ => 0)))]) (w1 := []) hP hD [] [0, 1, 2] rfl rfl (by decide) (by decide) hk1 hFc hP1 hD1
      generalize H1 = H at hP hS ⊢
      have hP : va_P (dC, dI) vwCl [(k0, .inr (9, [.ref kN, .ref kA, .ref kO, .ref kK, .ref kV, .ref kG, .ref kP, .ref kC, .ref kD, .ref kE, .ref kF, .ref kX, .ref kY, .int 0, .ref kT, .ref kU, .int 0, .int 0, .int 0])), (kN, .inl (cI, 2, .inl (fun _ => 0))), (kA, .inl (cI, 2, .inl (fun _ => 0)))] _ := hP
      have hD : va_D A [(k0, .inr (9, [.ref kN, .ref kA, .ref kO, .ref kK, .ref kV, .ref kG, .ref kP, .ref kC, .ref kD, .ref kE, .ref kF, .ref kX, .ref kY, .int 0, .ref kT, .ref kU, .int 0, .int 0, .int 0])), (kN, .inl (cI, 2, .inl (fun _ => 0))), (kA, .inl (cI, 2, .inl (fun _ => 0)))] := hD
      have hw : r = 0 := hw.elim (fun h => absurd h.2 (hc2)) (fun h => h.1)
      subst hw
      refine lv_if_eq (tgt := 61) hx hb dX6_setPort_53 (by decide) (fun _ => ?_) (fun h9 => absurd (by decide) h9)
      refine lv_iconst (v := 1) hx hb dX6_setPort_61 (by decide) ?_
      refine lv_goto (tgt := 66) hx hb dX6_setPort_62 (by decide) ?_
      refine va_put (D := (dC, dI)) (ci := 9) (v := .int 1) (ty := .int) (C := RX6) (T := TX6) (N := 19) hx hb hts (fun w h => List.mem_cons_of_mem _ (List.mem_append_left _ (List.mem_append_right _ (h)))) tyX6 tyX6_ok nmX6 hown hK hP hD hS 0 rfl rfl 16 (by decide) (hts (.fieldLink RX6 57 "NetcompareModel" "thrown" "I") (List.mem_cons_of_mem _ (List.mem_append_left _ (List.mem_append_left _ (List.mem_of_getElem? (i := 2) rfl))))) (fun _ h9 => h9) rfl (by decide +kernel) rfl rfl (Nat.le_of_ble_eq_true rfl) dX6_setPort_66 (fun H locs hP hD hS => ?_)
      have hP : va_P (dC, dI) vwCl [(k0, .inr (9, [.ref kN, .ref kA, .ref kO, .ref kK, .ref kV, .ref kG, .ref kP, .ref kC, .ref kD, .ref kE, .ref kF, .ref kX, .ref kY, .int 0, .ref kT, .ref kU, .int 1, .int 0, .int 0])), (kN, .inl (cI, 2, .inl (fun _ => 0))), (kA, .inl (cI, 2, .inl (fun _ => 0)))] _ := hP
      have hD : va_D A [(k0, .inr (9, [.ref kN, .ref kA, .ref kO, .ref kK, .ref kV, .ref kG, .ref kP, .ref kC, .ref kD, .ref kE, .ref kF, .ref kX, .ref kY, .int 0, .ref kT, .ref kU, .int 1, .int 0, .int 0])), (kN, .inl (cI, 2, .inl (fun _ => 0))), (kA, .inl (cI, 2, .inl (fun _ => 0)))] := hD
      refine lv_bipush (v := 32) hx hb dX6_setPort_69 (by decide) ?_
      exact ret _ 1 _ _ _ _ _ _ (by decide) (Or.inl (⟨rfl, Or.inl (hc2)⟩)) (hP.sub [0] rfl) (hK.sub [] rfl) (hD.sub [0] (by decide) rfl) hS (Nat.le_of_ble_eq_true rfl) (Nat.le_of_ble_eq_true rfl) dX6_setPort_71
  · skip
    refine lv_iload_n hx hb dX6_setPort_6 rfl (lv_at hl 3 rfl) ?_
    refine lv_i2l (v := p2.toInt64) hx hb dX6_setPort_7 rfl ?_
    refine lv_ldc2 (v := 97) hx hb hown (hts (.constantLong RX6 85 (97)) (List.mem_cons_of_mem _ (List.mem_append_left _ (List.mem_append_left _ (List.mem_of_getElem? (i := 0) rfl))))) dX6_setPort_8 ?_
    refine lv_ldc2 (v := 102) hx hb hown (hts (.constantLong RX6 87 (102)) (List.mem_cons_of_mem _ (List.mem_append_left _ (List.mem_append_left _ (List.mem_of_getElem? (i := 1) rfl))))) dX6_setPort_11 ?_
    have hPc := hP.sub (ws' := []) [] rfl
    have hDc := hD.sub (ws' := []) [] (by decide) rfl
    have hKc := hK.sub (tys' := []) [] rfl
    have hFc := va_free (wc := []) hD hS hA [] rfl
    refine va_calli (va_runS (As := [.long p2.toInt64, .long 97, .long 102]) (rest := []) ⟨hx, hb, hml, hown, hts⟩ (kX6_in l dC dI p2.toInt64 97 102 s.heap.size) (va_cwS 3 hts gX6_setPort_X6_in rfl rfl rfl (by decide +kernel) ⟨Nat.le_of_ble_eq_true rfl, Nat.le_of_ble_eq_true rfl⟩) (fPreS hN hZ hS (fun q h => hFc q h) hPc hKc hDc) rfl rfl hl.1 rfl (lv_room (Nat.le_of_ble_eq_true rfl)) dX6_setPort_14 ⟨Nat.le_of_ble_eq_true rfl, Nat.le_of_ble_eq_true rfl⟩) hS (fun q _ h => hFc q h) hFc (fun r u t H1 locs ht hvm hw hB hz1 hk1 hS => ?_)
    obtain ⟨hP1, hK1, hD1⟩ := hB
    rw [ht] at hP1
    have hK1 := va_K.moved hvm.symm hK1
    obtain ⟨hP, hD⟩ := va_join (wr := [(k0, .inr (9, [.ref kN, .ref kA, .ref kO, .ref kK, .ref kV, .ref kG, .ref kP, .ref kC, .ref kD, .ref kE, .ref kF, .ref kX, .ref kY, .int 0, .ref kT, .ref kU, .int 0, .int 0, .int 0])), (kN, .inl (cI, 2, .inl (fun _ => 0))), (kA, .inl (cI, 2, .inl (fun _ => 0)))]) (w1 := []) hP hD [] [0, 1, 2] rfl rfl (by decide) (by decide) hk1 hFc hP1 hD1
    generalize H1 = H at hP hS ⊢
    have hP : va_P (dC, dI) vwCl [(k0, .inr (9, [.ref kN, .ref kA, .ref kO, .ref kK, .ref kV, .ref kG, .ref kP, .ref kC, .ref kD, .ref kE, .ref kF, .ref kX, .ref kY, .int 0, .ref kT, .ref kU, .int 0, .int 0, .int 0])), (kN, .inl (cI, 2, .inl (fun _ => 0))), (kA, .inl (cI, 2, .inl (fun _ => 0)))] _ := hP
    have hD : va_D A [(k0, .inr (9, [.ref kN, .ref kA, .ref kO, .ref kK, .ref kV, .ref kG, .ref kP, .ref kC, .ref kD, .ref kE, .ref kF, .ref kX, .ref kY, .int 0, .ref kT, .ref kU, .int 0, .int 0, .int 0])), (kN, .inl (cI, 2, .inl (fun _ => 0))), (kA, .inl (cI, 2, .inl (fun _ => 0)))] := hD
    rcases hw with ⟨rfl, hi9⟩ | ⟨rfl, hi9⟩
    · skip
      have hi3 : ((¬ (p2 < 97)) ∧ (¬ (102 < p2))) := (fIn p2 97 102 97 102 (by decide) (by decide)).mp hi9
      refine lv_if_eq (tgt := 24) hx hb dX6_setPort_17 (by decide) (fun h9 => absurd h9 (by decide)) (fun _ => ?_)
      refine lv_iconst (v := 1) hx hb dX6_setPort_20 (by decide) ?_
      refine lv_goto (tgt := 25) hx hb dX6_setPort_21 (by decide) ?_
      refine lv_istore (lv' := [(4, .int 1), (0, .ref k0), (1, .int p0), (2, .int p1), (3, .int p2)]) hx hb dX6_setPort_25 hl (Nat.le_of_ble_eq_true rfl) rfl (fun ls hl => ?_)
      refine lv_iload_n hx hb dX6_setPort_27 rfl (lv_at hl 2 rfl) ?_
      have hPc := hP.sub (ws' := []) [] rfl
      have hDc := hD.sub (ws' := []) [] (by decide) rfl
      have hKc := hK.sub (tys' := []) [] rfl
      have hFc := va_free (wc := []) hD hS hA [] rfl
      refine va_calli (va_runS (As := [.int p0]) (rest := []) ⟨hx, hb, hml, hown, hts⟩ (kX6_isCircuit l dC dI p0 H.size) (va_cwS 1 hts gX6_setPort_X6_isCircuit rfl rfl rfl (by decide +kernel) ⟨Nat.le_of_ble_eq_true rfl, Nat.le_of_ble_eq_true rfl⟩) (fPreS hN hZ hS (fun q h => hFc q h) hPc hKc hDc) rfl rfl hl.1 rfl (lv_room (Nat.le_of_ble_eq_true rfl)) dX6_setPort_28 ⟨Nat.le_of_ble_eq_true rfl, Nat.le_of_ble_eq_true rfl⟩) hS (fun q _ h => hFc q h) hFc (fun r u t H1 locs ht hvm hw hB hz1 hk1 hS => ?_)
      obtain ⟨hP1, hK1, hD1⟩ := hB
      rw [ht] at hP1
      have hK1 := va_K.moved hvm.symm hK1
      obtain ⟨hP, hD⟩ := va_join (wr := [(k0, .inr (9, [.ref kN, .ref kA, .ref kO, .ref kK, .ref kV, .ref kG, .ref kP, .ref kC, .ref kD, .ref kE, .ref kF, .ref kX, .ref kY, .int 0, .ref kT, .ref kU, .int 0, .int 0, .int 0])), (kN, .inl (cI, 2, .inl (fun _ => 0))), (kA, .inl (cI, 2, .inl (fun _ => 0)))]) (w1 := []) hP hD [] [0, 1, 2] rfl rfl (by decide) (by decide) hk1 hFc hP1 hD1
      generalize H1 = H at hP hS ⊢
      have hP : va_P (dC, dI) vwCl [(k0, .inr (9, [.ref kN, .ref kA, .ref kO, .ref kK, .ref kV, .ref kG, .ref kP, .ref kC, .ref kD, .ref kE, .ref kF, .ref kX, .ref kY, .int 0, .ref kT, .ref kU, .int 0, .int 0, .int 0])), (kN, .inl (cI, 2, .inl (fun _ => 0))), (kA, .inl (cI, 2, .inl (fun _ => 0)))] _ := hP
      have hD : va_D A [(k0, .inr (9, [.ref kN, .ref kA, .ref kO, .ref kK, .ref kV, .ref kG, .ref kP, .ref kC, .ref kD, .ref kE, .ref kF, .ref kX, .ref kY, .int 0, .ref kT, .ref kU, .int 0, .int 0, .int 0])), (kN, .inl (cI, 2, .inl (fun _ => 0))), (kA, .inl (cI, 2, .inl (fun _ => 0)))] := hD
      rcases hw with ⟨rfl, hc | hc⟩ | ⟨rfl, hc⟩
      · skip
        subst hc
        have hP : va_P (dC, dI) vwCl [(k0, .inr (9, [.ref kN, .ref kA, .ref kO, .ref kK, .ref kV, .ref kG, .ref kP, .ref kC, .ref kD, .ref kE, .ref kF, .ref kX, .ref kY, .int 0, .ref kT, .ref kU, .int 0, .int 0, .int 0])), (kN, .inl (cI, 2, .inl (fun _ => 0))), (kA, .inl (cI, 2, .inl (fun _ => 0)))] _ := hP
        have hD : va_D A [(k0, .inr (9, [.ref kN, .ref kA, .ref kO, .ref kK, .ref kV, .ref kG, .ref kP, .ref kC, .ref kD, .ref kE, .ref kF, .ref kX, .ref kY, .int 0, .ref kT, .ref kU, .int 0, .int 0, .int 0])), (kN, .inl (cI, 2, .inl (fun _ => 0))), (kA, .inl (cI, 2, .inl (fun _ => 0)))] := hD
        refine lv_if_eq (tgt := 48) hx hb dX6_setPort_31 (by decide) (fun h9 => absurd h9 (by decide)) (fun _ => ?_)
        refine lv_iload hx hb dX6_setPort_34 (lv_at hl 0 rfl) ?_
        refine lv_if_eq (tgt := 48) hx hb dX6_setPort_36 (by decide) (fun h9 => absurd h9 (by decide)) (fun _ => ?_)
        refine lv_aload_n hx hb dX6_setPort_39 rfl (lv_at hl 1 rfl) ?_
        refine lv_iload_n hx hb dX6_setPort_40 rfl (lv_at hl 2 rfl) ?_
        refine lv_iload_n hx hb dX6_setPort_41 rfl (lv_at hl 3 rfl) ?_
        have hPc := hP.sub (ws' := [(k0, .inr (9, [.ref kN, .ref kA, .ref kO, .ref kK, .ref kV, .ref kG, .ref kP, .ref kC, .ref kD, .ref kE, .ref kF, .ref kX, .ref kY, .int 0, .ref kT, .ref kU, .int 0, .int 0, .int 0])), (kN, .inl (cI, 2, .inl (fun _ => 0)))]) [0, 1] rfl
        have hDc := hD.sub (ws' := [(k0, .inr (9, [.ref kN, .ref kA, .ref kO, .ref kK, .ref kV, .ref kG, .ref kP, .ref kC, .ref kD, .ref kE, .ref kF, .ref kX, .ref kY, .int 0, .ref kT, .ref kU, .int 0, .int 0, .int 0])), (kN, .inl (cI, 2, .inl (fun _ => 0)))]) [0, 1] (by decide) rfl
        have hKc := hK.sub (tys' := [(cI, .int)]) [0] rfl
        have hFc := va_free (wc := [(k0, .inr (9, [.ref kN, .ref kA, .ref kO, .ref kK, .ref kV, .ref kG, .ref kP, .ref kC, .ref kD, .ref kE, .ref kF, .ref kX, .ref kY, .int 0, .ref kT, .ref kU, .int 0, .int 0, .int 0])), (kN, .inl (cI, 2, .inl (fun _ => 0)))]) hD hS hA [0, 1] rfl
        refine va_calli (va_runV (As := [.int 0, .int p1]) (rest := []) ⟨hx, hb, hml, hown, hts⟩ (kX6_isNet0 l dC dI k0 kN kA kO kK kV kG kP kC kD kE kF kX kY kT kU cI p1 H.size) (cwV 2 hts gX6_setPort_X6_isNet rfl rfl rfl (by decide +kernel) ⟨Nat.le_of_ble_eq_true rfl, Nat.le_of_ble_eq_true rfl⟩) (fPreV hN hZ hS (fun q h => hFc q h) hPc hKc hDc (ci := 9) (q0 := 0) rfl rfl) rfl rfl hl.1 rfl (lv_room (Nat.le_of_ble_eq_true rfl)) dX6_setPort_42 ⟨Nat.le_of_ble_eq_true rfl, Nat.le_of_ble_eq_true rfl⟩) hS (fun q _ h => hFc q h) hFc (fun r u t H1 locs ht hvm hw hB hz1 hk1 hS => ?_)
        obtain ⟨hP1, hK1, hD1⟩ := hB
        rw [ht] at hP1
        have hK1 := va_K.moved hvm.symm hK1
        obtain ⟨hP, hD⟩ := va_join (wr := [(kA, .inl (cI, 2, .inl (fun _ => 0)))]) (w1 := [(k0, .inr (9, [.ref kN, .ref kA, .ref kO, .ref kK, .ref kV, .ref kG, .ref kP, .ref kC, .ref kD, .ref kE, .ref kF, .ref kX, .ref kY, .int 0, .ref kT, .ref kU, .int 0, .int 0, .int 0])), (kN, .inl (cI, 2, .inl (fun _ => 0)))]) hP hD [0, 1] [2] rfl rfl (by decide) (by decide) hk1 hFc hP1 hD1
        generalize H1 = H at hP hS ⊢
        have hP : va_P (dC, dI) vwCl [(kA, .inl (cI, 2, .inl (fun _ => 0))), (k0, .inr (9, [.ref kN, .ref kA, .ref kO, .ref kK, .ref kV, .ref kG, .ref kP, .ref kC, .ref kD, .ref kE, .ref kF, .ref kX, .ref kY, .int 0, .ref kT, .ref kU, .int 0, .int 0, .int 0])), (kN, .inl (cI, 2, .inl (fun _ => 0)))] _ := hP
        have hD : va_D A [(kA, .inl (cI, 2, .inl (fun _ => 0))), (k0, .inr (9, [.ref kN, .ref kA, .ref kO, .ref kK, .ref kV, .ref kG, .ref kP, .ref kC, .ref kD, .ref kE, .ref kF, .ref kX, .ref kY, .int 0, .ref kT, .ref kU, .int 0, .int 0, .int 0])), (kN, .inl (cI, 2, .inl (fun _ => 0)))] := hD
        subst hw
        refine lv_if_ne (tgt := 72) hx hb dX6_setPort_45 (by decide) (fun h9 => absurd (by decide) h9) (fun _ => ?_)
        refine lv_aload_n hx hb dX6_setPort_48 rfl (lv_at hl 1 rfl) ?_
        refine lv_iload_n hx hb dX6_setPort_49 rfl (lv_at hl 2 rfl) ?_
        have hPc := hP.sub (ws' := []) [] rfl
        have hDc := hD.sub (ws' := []) [] (by decide) rfl
        have hKc := hK.sub (tys' := []) [] rfl
        have hFc := va_free (wc := []) hD hS hA [] rfl
        refine va_calli (va_runS (As := [.int 0]) (rest := [.ref k0]) ⟨hx, hb, hml, hown, hts⟩ (kX6_isCircuit l dC dI 0 H.size) (va_cwS 1 hts gX6_setPort_X6_isCircuit rfl rfl rfl (by decide +kernel) ⟨Nat.le_of_ble_eq_true rfl, Nat.le_of_ble_eq_true rfl⟩) (fPreS hN hZ hS (fun q h => hFc q h) hPc hKc hDc) rfl rfl hl.1 rfl (lv_room (Nat.le_of_ble_eq_true rfl)) dX6_setPort_50 ⟨Nat.le_of_ble_eq_true rfl, Nat.le_of_ble_eq_true rfl⟩) hS (fun q _ h => hFc q h) hFc (fun r u t H1 locs ht hvm hw hB hz1 hk1 hS => ?_)
        obtain ⟨hP1, hK1, hD1⟩ := hB
        rw [ht] at hP1
        have hK1 := va_K.moved hvm.symm hK1
        obtain ⟨hP, hD⟩ := va_join (wr := [(kA, .inl (cI, 2, .inl (fun _ => 0))), (k0, .inr (9, [.ref kN, .ref kA, .ref kO, .ref kK, .ref kV, .ref kG, .ref kP, .ref kC, .ref kD, .ref kE, .ref kF, .ref kX, .ref kY, .int 0, .ref kT, .ref kU, .int 0, .int 0, .int 0])), (kN, .inl (cI, 2, .inl (fun _ => 0)))]) (w1 := []) hP hD [] [0, 1, 2] rfl rfl (by decide) (by decide) hk1 hFc hP1 hD1
        generalize H1 = H at hP hS ⊢
        have hP : va_P (dC, dI) vwCl [(kA, .inl (cI, 2, .inl (fun _ => 0))), (k0, .inr (9, [.ref kN, .ref kA, .ref kO, .ref kK, .ref kV, .ref kG, .ref kP, .ref kC, .ref kD, .ref kE, .ref kF, .ref kX, .ref kY, .int 0, .ref kT, .ref kU, .int 0, .int 0, .int 0])), (kN, .inl (cI, 2, .inl (fun _ => 0)))] _ := hP
        have hD : va_D A [(kA, .inl (cI, 2, .inl (fun _ => 0))), (k0, .inr (9, [.ref kN, .ref kA, .ref kO, .ref kK, .ref kV, .ref kG, .ref kP, .ref kC, .ref kD, .ref kE, .ref kF, .ref kX, .ref kY, .int 0, .ref kT, .ref kU, .int 0, .int 0, .int 0])), (kN, .inl (cI, 2, .inl (fun _ => 0)))] := hD
        have hw : r = 1 := hw.elim (fun h => h.1) (fun h => absurd (by decide) h.2)
        subst hw
        refine lv_if_eq (tgt := 61) hx hb dX6_setPort_53 (by decide) (fun h9 => absurd h9 (by decide)) (fun _ => ?_)
        refine lv_iload hx hb dX6_setPort_56 (lv_at hl 0 rfl) ?_
        refine lv_if_ne (tgt := 65) hx hb dX6_setPort_58 (by decide) (fun _ => ?_) (fun h9 => absurd h9 (by decide))
        refine lv_iconst (v := 2) hx hb dX6_setPort_65 (by decide) ?_
        refine va_put (D := (dC, dI)) (ci := 9) (v := .int 2) (ty := .int) (C := RX6) (T := TX6) (N := 19) hx hb hts (fun w h => List.mem_cons_of_mem _ (List.mem_append_left _ (List.mem_append_right _ (h)))) tyX6 tyX6_ok nmX6 hown hK hP hD hS 1 rfl rfl 16 (by decide) (hts (.fieldLink RX6 57 "NetcompareModel" "thrown" "I") (List.mem_cons_of_mem _ (List.mem_append_left _ (List.mem_append_left _ (List.mem_of_getElem? (i := 2) rfl))))) (fun _ h9 => h9) rfl (by decide +kernel) rfl rfl (Nat.le_of_ble_eq_true rfl) dX6_setPort_66 (fun H locs hP hD hS => ?_)
        have hP : va_P (dC, dI) vwCl [(kA, .inl (cI, 2, .inl (fun _ => 0))), (k0, .inr (9, [.ref kN, .ref kA, .ref kO, .ref kK, .ref kV, .ref kG, .ref kP, .ref kC, .ref kD, .ref kE, .ref kF, .ref kX, .ref kY, .int 0, .ref kT, .ref kU, .int 2, .int 0, .int 0])), (kN, .inl (cI, 2, .inl (fun _ => 0)))] _ := hP
        have hD : va_D A [(kA, .inl (cI, 2, .inl (fun _ => 0))), (k0, .inr (9, [.ref kN, .ref kA, .ref kO, .ref kK, .ref kV, .ref kG, .ref kP, .ref kC, .ref kD, .ref kE, .ref kF, .ref kX, .ref kY, .int 0, .ref kT, .ref kU, .int 2, .int 0, .int 0])), (kN, .inl (cI, 2, .inl (fun _ => 0)))] := hD
        refine lv_bipush (v := 32) hx hb dX6_setPort_69 (by decide) ?_
        exact ret _ 2 _ _ _ _ _ _ (by decide) (Or.inr (⟨rfl, (fun h9 => h9.elim ((fun h9 => h9 (Or.inl (rfl)))) ((fun h9 => h9 (Or.inr (hi3)))))⟩)) (hP.sub [1] rfl) (hK.sub [] rfl) (hD.sub [1] (by decide) rfl) hS (Nat.le_of_ble_eq_true rfl) (Nat.le_of_ble_eq_true rfl) dX6_setPort_71
      · skip
        subst hc
        have hP : va_P (dC, dI) vwCl [(k0, .inr (9, [.ref kN, .ref kA, .ref kO, .ref kK, .ref kV, .ref kG, .ref kP, .ref kC, .ref kD, .ref kE, .ref kF, .ref kX, .ref kY, .int 0, .ref kT, .ref kU, .int 0, .int 0, .int 0])), (kN, .inl (cI, 2, .inl (fun _ => 0))), (kA, .inl (cI, 2, .inl (fun _ => 0)))] _ := hP
        have hD : va_D A [(k0, .inr (9, [.ref kN, .ref kA, .ref kO, .ref kK, .ref kV, .ref kG, .ref kP, .ref kC, .ref kD, .ref kE, .ref kF, .ref kX, .ref kY, .int 0, .ref kT, .ref kU, .int 0, .int 0, .int 0])), (kN, .inl (cI, 2, .inl (fun _ => 0))), (kA, .inl (cI, 2, .inl (fun _ => 0)))] := hD
        refine lv_if_eq (tgt := 48) hx hb dX6_setPort_31 (by decide) (fun h9 => absurd h9 (by decide)) (fun _ => ?_)
        refine lv_iload hx hb dX6_setPort_34 (lv_at hl 0 rfl) ?_
        refine lv_if_eq (tgt := 48) hx hb dX6_setPort_36 (by decide) (fun h9 => absurd h9 (by decide)) (fun _ => ?_)
        refine lv_aload_n hx hb dX6_setPort_39 rfl (lv_at hl 1 rfl) ?_
        refine lv_iload_n hx hb dX6_setPort_40 rfl (lv_at hl 2 rfl) ?_
        refine lv_iload_n hx hb dX6_setPort_41 rfl (lv_at hl 3 rfl) ?_
        have hPc := hP.sub (ws' := [(k0, .inr (9, [.ref kN, .ref kA, .ref kO, .ref kK, .ref kV, .ref kG, .ref kP, .ref kC, .ref kD, .ref kE, .ref kF, .ref kX, .ref kY, .int 0, .ref kT, .ref kU, .int 0, .int 0, .int 0])), (kN, .inl (cI, 2, .inl (fun _ => 0)))]) [0, 1] rfl
        have hDc := hD.sub (ws' := [(k0, .inr (9, [.ref kN, .ref kA, .ref kO, .ref kK, .ref kV, .ref kG, .ref kP, .ref kC, .ref kD, .ref kE, .ref kF, .ref kX, .ref kY, .int 0, .ref kT, .ref kU, .int 0, .int 0, .int 0])), (kN, .inl (cI, 2, .inl (fun _ => 0)))]) [0, 1] (by decide) rfl
        have hKc := hK.sub (tys' := [(cI, .int)]) [0] rfl
        have hFc := va_free (wc := [(k0, .inr (9, [.ref kN, .ref kA, .ref kO, .ref kK, .ref kV, .ref kG, .ref kP, .ref kC, .ref kD, .ref kE, .ref kF, .ref kX, .ref kY, .int 0, .ref kT, .ref kU, .int 0, .int 0, .int 0])), (kN, .inl (cI, 2, .inl (fun _ => 0)))]) hD hS hA [0, 1] rfl
        refine va_calli (va_runV (As := [.int 1, .int p1]) (rest := []) ⟨hx, hb, hml, hown, hts⟩ (kX6_isNet1 l dC dI k0 kN kA kO kK kV kG kP kC kD kE kF kX kY kT kU cI p1 H.size) (cwV 2 hts gX6_setPort_X6_isNet rfl rfl rfl (by decide +kernel) ⟨Nat.le_of_ble_eq_true rfl, Nat.le_of_ble_eq_true rfl⟩) (fPreV hN hZ hS (fun q h => hFc q h) hPc hKc hDc (ci := 9) (q0 := 0) rfl rfl) rfl rfl hl.1 rfl (lv_room (Nat.le_of_ble_eq_true rfl)) dX6_setPort_42 ⟨Nat.le_of_ble_eq_true rfl, Nat.le_of_ble_eq_true rfl⟩) hS (fun q _ h => hFc q h) hFc (fun r u t H1 locs ht hvm hw hB hz1 hk1 hS => ?_)
        obtain ⟨hP1, hK1, hD1⟩ := hB
        rw [ht] at hP1
        have hK1 := va_K.moved hvm.symm hK1
        obtain ⟨hP, hD⟩ := va_join (wr := [(kA, .inl (cI, 2, .inl (fun _ => 0)))]) (w1 := [(k0, .inr (9, [.ref kN, .ref kA, .ref kO, .ref kK, .ref kV, .ref kG, .ref kP, .ref kC, .ref kD, .ref kE, .ref kF, .ref kX, .ref kY, .int 0, .ref kT, .ref kU, .int 0, .int 0, .int 0])), (kN, .inl (cI, 2, .inl (fun _ => 0)))]) hP hD [0, 1] [2] rfl rfl (by decide) (by decide) hk1 hFc hP1 hD1
        generalize H1 = H at hP hS ⊢
        have hP : va_P (dC, dI) vwCl [(kA, .inl (cI, 2, .inl (fun _ => 0))), (k0, .inr (9, [.ref kN, .ref kA, .ref kO, .ref kK, .ref kV, .ref kG, .ref kP, .ref kC, .ref kD, .ref kE, .ref kF, .ref kX, .ref kY, .int 0, .ref kT, .ref kU, .int 0, .int 0, .int 0])), (kN, .inl (cI, 2, .inl (fun _ => 0)))] _ := hP
        have hD : va_D A [(kA, .inl (cI, 2, .inl (fun _ => 0))), (k0, .inr (9, [.ref kN, .ref kA, .ref kO, .ref kK, .ref kV, .ref kG, .ref kP, .ref kC, .ref kD, .ref kE, .ref kF, .ref kX, .ref kY, .int 0, .ref kT, .ref kU, .int 0, .int 0, .int 0])), (kN, .inl (cI, 2, .inl (fun _ => 0)))] := hD
        subst hw
        refine lv_if_ne (tgt := 72) hx hb dX6_setPort_45 (by decide) (fun h9 => absurd (by decide) h9) (fun _ => ?_)
        refine lv_aload_n hx hb dX6_setPort_48 rfl (lv_at hl 1 rfl) ?_
        refine lv_iload_n hx hb dX6_setPort_49 rfl (lv_at hl 2 rfl) ?_
        have hPc := hP.sub (ws' := []) [] rfl
        have hDc := hD.sub (ws' := []) [] (by decide) rfl
        have hKc := hK.sub (tys' := []) [] rfl
        have hFc := va_free (wc := []) hD hS hA [] rfl
        refine va_calli (va_runS (As := [.int 1]) (rest := [.ref k0]) ⟨hx, hb, hml, hown, hts⟩ (kX6_isCircuit l dC dI 1 H.size) (va_cwS 1 hts gX6_setPort_X6_isCircuit rfl rfl rfl (by decide +kernel) ⟨Nat.le_of_ble_eq_true rfl, Nat.le_of_ble_eq_true rfl⟩) (fPreS hN hZ hS (fun q h => hFc q h) hPc hKc hDc) rfl rfl hl.1 rfl (lv_room (Nat.le_of_ble_eq_true rfl)) dX6_setPort_50 ⟨Nat.le_of_ble_eq_true rfl, Nat.le_of_ble_eq_true rfl⟩) hS (fun q _ h => hFc q h) hFc (fun r u t H1 locs ht hvm hw hB hz1 hk1 hS => ?_)
        obtain ⟨hP1, hK1, hD1⟩ := hB
        rw [ht] at hP1
        have hK1 := va_K.moved hvm.symm hK1
        obtain ⟨hP, hD⟩ := va_join (wr := [(kA, .inl (cI, 2, .inl (fun _ => 0))), (k0, .inr (9, [.ref kN, .ref kA, .ref kO, .ref kK, .ref kV, .ref kG, .ref kP, .ref kC, .ref kD, .ref kE, .ref kF, .ref kX, .ref kY, .int 0, .ref kT, .ref kU, .int 0, .int 0, .int 0])), (kN, .inl (cI, 2, .inl (fun _ => 0)))]) (w1 := []) hP hD [] [0, 1, 2] rfl rfl (by decide) (by decide) hk1 hFc hP1 hD1
        generalize H1 = H at hP hS ⊢
        have hP : va_P (dC, dI) vwCl [(kA, .inl (cI, 2, .inl (fun _ => 0))), (k0, .inr (9, [.ref kN, .ref kA, .ref kO, .ref kK, .ref kV, .ref kG, .ref kP, .ref kC, .ref kD, .ref kE, .ref kF, .ref kX, .ref kY, .int 0, .ref kT, .ref kU, .int 0, .int 0, .int 0])), (kN, .inl (cI, 2, .inl (fun _ => 0)))] _ := hP
        have hD : va_D A [(kA, .inl (cI, 2, .inl (fun _ => 0))), (k0, .inr (9, [.ref kN, .ref kA, .ref kO, .ref kK, .ref kV, .ref kG, .ref kP, .ref kC, .ref kD, .ref kE, .ref kF, .ref kX, .ref kY, .int 0, .ref kT, .ref kU, .int 0, .int 0, .int 0])), (kN, .inl (cI, 2, .inl (fun _ => 0)))] := hD
        have hw : r = 1 := hw.elim (fun h => h.1) (fun h => absurd (by decide) h.2)
        subst hw
        refine lv_if_eq (tgt := 61) hx hb dX6_setPort_53 (by decide) (fun h9 => absurd h9 (by decide)) (fun _ => ?_)
        refine lv_iload hx hb dX6_setPort_56 (lv_at hl 0 rfl) ?_
        refine lv_if_ne (tgt := 65) hx hb dX6_setPort_58 (by decide) (fun _ => ?_) (fun h9 => absurd h9 (by decide))
        refine lv_iconst (v := 2) hx hb dX6_setPort_65 (by decide) ?_
        refine va_put (D := (dC, dI)) (ci := 9) (v := .int 2) (ty := .int) (C := RX6) (T := TX6) (N := 19) hx hb hts (fun w h => List.mem_cons_of_mem _ (List.mem_append_left _ (List.mem_append_right _ (h)))) tyX6 tyX6_ok nmX6 hown hK hP hD hS 1 rfl rfl 16 (by decide) (hts (.fieldLink RX6 57 "NetcompareModel" "thrown" "I") (List.mem_cons_of_mem _ (List.mem_append_left _ (List.mem_append_left _ (List.mem_of_getElem? (i := 2) rfl))))) (fun _ h9 => h9) rfl (by decide +kernel) rfl rfl (Nat.le_of_ble_eq_true rfl) dX6_setPort_66 (fun H locs hP hD hS => ?_)
        have hP : va_P (dC, dI) vwCl [(kA, .inl (cI, 2, .inl (fun _ => 0))), (k0, .inr (9, [.ref kN, .ref kA, .ref kO, .ref kK, .ref kV, .ref kG, .ref kP, .ref kC, .ref kD, .ref kE, .ref kF, .ref kX, .ref kY, .int 0, .ref kT, .ref kU, .int 2, .int 0, .int 0])), (kN, .inl (cI, 2, .inl (fun _ => 0)))] _ := hP
        have hD : va_D A [(kA, .inl (cI, 2, .inl (fun _ => 0))), (k0, .inr (9, [.ref kN, .ref kA, .ref kO, .ref kK, .ref kV, .ref kG, .ref kP, .ref kC, .ref kD, .ref kE, .ref kF, .ref kX, .ref kY, .int 0, .ref kT, .ref kU, .int 2, .int 0, .int 0])), (kN, .inl (cI, 2, .inl (fun _ => 0)))] := hD
        refine lv_bipush (v := 32) hx hb dX6_setPort_69 (by decide) ?_
        exact ret _ 2 _ _ _ _ _ _ (by decide) (Or.inr (⟨rfl, (fun h9 => h9.elim ((fun h9 => h9 (Or.inr (rfl)))) ((fun h9 => h9 (Or.inr (hi3)))))⟩)) (hP.sub [1] rfl) (hK.sub [] rfl) (hD.sub [1] (by decide) rfl) hS (Nat.le_of_ble_eq_true rfl) (Nat.le_of_ble_eq_true rfl) dX6_setPort_71
      · skip
        have hc4 := hc
        refine lv_if_eq (tgt := 48) hx hb dX6_setPort_31 (by decide) (fun _ => ?_) (fun h9 => absurd (by decide) h9)
        refine lv_aload_n hx hb dX6_setPort_48 rfl (lv_at hl 1 rfl) ?_
        refine lv_iload_n hx hb dX6_setPort_49 rfl (lv_at hl 2 rfl) ?_
        have hPc := hP.sub (ws' := []) [] rfl
        have hDc := hD.sub (ws' := []) [] (by decide) rfl
        have hKc := hK.sub (tys' := []) [] rfl
        have hFc := va_free (wc := []) hD hS hA [] rfl
        refine va_calli (va_runS (As := [.int p0]) (rest := [.ref k0]) ⟨hx, hb, hml, hown, hts⟩ (kX6_isCircuit l dC dI p0 H.size) (va_cwS 1 hts gX6_setPort_X6_isCircuit rfl rfl rfl (by decide +kernel) ⟨Nat.le_of_ble_eq_true rfl, Nat.le_of_ble_eq_true rfl⟩) (fPreS hN hZ hS (fun q h => hFc q h) hPc hKc hDc) rfl rfl hl.1 rfl (lv_room (Nat.le_of_ble_eq_true rfl)) dX6_setPort_50 ⟨Nat.le_of_ble_eq_true rfl, Nat.le_of_ble_eq_true rfl⟩) hS (fun q _ h => hFc q h) hFc (fun r u t H1 locs ht hvm hw hB hz1 hk1 hS => ?_)
        obtain ⟨hP1, hK1, hD1⟩ := hB
        rw [ht] at hP1
        have hK1 := va_K.moved hvm.symm hK1
        obtain ⟨hP, hD⟩ := va_join (wr := [(k0, .inr (9, [.ref kN, .ref kA, .ref kO, .ref kK, .ref kV, .ref kG, .ref kP, .ref kC, .ref kD, .ref kE, .ref kF, .ref kX, .ref kY, .int 0, .ref kT, .ref kU, .int 0, .int 0, .int 0])), (kN, .inl (cI, 2, .inl (fun _ => 0))), (kA, .inl (cI, 2, .inl (fun _ => 0)))]) (w1 := []) hP hD [] [0, 1, 2] rfl rfl (by decide) (by decide) hk1 hFc hP1 hD1
        generalize H1 = H at hP hS ⊢
        have hP : va_P (dC, dI) vwCl [(k0, .inr (9, [.ref kN, .ref kA, .ref kO, .ref kK, .ref kV, .ref kG, .ref kP, .ref kC, .ref kD, .ref kE, .ref kF, .ref kX, .ref kY, .int 0, .ref kT, .ref kU, .int 0, .int 0, .int 0])), (kN, .inl (cI, 2, .inl (fun _ => 0))), (kA, .inl (cI, 2, .inl (fun _ => 0)))] _ := hP
        have hD : va_D A [(k0, .inr (9, [.ref kN, .ref kA, .ref kO, .ref kK, .ref kV, .ref kG, .ref kP, .ref kC, .ref kD, .ref kE, .ref kF, .ref kX, .ref kY, .int 0, .ref kT, .ref kU, .int 0, .int 0, .int 0])), (kN, .inl (cI, 2, .inl (fun _ => 0))), (kA, .inl (cI, 2, .inl (fun _ => 0)))] := hD
        have hw : r = 0 := hw.elim (fun h => absurd h.2 (hc4)) (fun h => h.1)
        subst hw
        refine lv_if_eq (tgt := 61) hx hb dX6_setPort_53 (by decide) (fun _ => ?_) (fun h9 => absurd (by decide) h9)
        refine lv_iconst (v := 1) hx hb dX6_setPort_61 (by decide) ?_
        refine lv_goto (tgt := 66) hx hb dX6_setPort_62 (by decide) ?_
        refine va_put (D := (dC, dI)) (ci := 9) (v := .int 1) (ty := .int) (C := RX6) (T := TX6) (N := 19) hx hb hts (fun w h => List.mem_cons_of_mem _ (List.mem_append_left _ (List.mem_append_right _ (h)))) tyX6 tyX6_ok nmX6 hown hK hP hD hS 0 rfl rfl 16 (by decide) (hts (.fieldLink RX6 57 "NetcompareModel" "thrown" "I") (List.mem_cons_of_mem _ (List.mem_append_left _ (List.mem_append_left _ (List.mem_of_getElem? (i := 2) rfl))))) (fun _ h9 => h9) rfl (by decide +kernel) rfl rfl (Nat.le_of_ble_eq_true rfl) dX6_setPort_66 (fun H locs hP hD hS => ?_)
        have hP : va_P (dC, dI) vwCl [(k0, .inr (9, [.ref kN, .ref kA, .ref kO, .ref kK, .ref kV, .ref kG, .ref kP, .ref kC, .ref kD, .ref kE, .ref kF, .ref kX, .ref kY, .int 0, .ref kT, .ref kU, .int 1, .int 0, .int 0])), (kN, .inl (cI, 2, .inl (fun _ => 0))), (kA, .inl (cI, 2, .inl (fun _ => 0)))] _ := hP
        have hD : va_D A [(k0, .inr (9, [.ref kN, .ref kA, .ref kO, .ref kK, .ref kV, .ref kG, .ref kP, .ref kC, .ref kD, .ref kE, .ref kF, .ref kX, .ref kY, .int 0, .ref kT, .ref kU, .int 1, .int 0, .int 0])), (kN, .inl (cI, 2, .inl (fun _ => 0))), (kA, .inl (cI, 2, .inl (fun _ => 0)))] := hD
        refine lv_bipush (v := 32) hx hb dX6_setPort_69 (by decide) ?_
        exact ret _ 1 _ _ _ _ _ _ (by decide) (Or.inl (⟨rfl, Or.inl (hc4)⟩)) (hP.sub [0] rfl) (hK.sub [] rfl) (hD.sub [0] (by decide) rfl) hS (Nat.le_of_ble_eq_true rfl) (Nat.le_of_ble_eq_true rfl) dX6_setPort_71
    · skip
      have hi5 : ¬ ((¬ (p2 < 97)) ∧ (¬ (102 < p2))) := fun q => hi9 ((fIn p2 97 102 97 102 (by decide) (by decide)).mpr q)
      refine lv_if_eq (tgt := 24) hx hb dX6_setPort_17 (by decide) (fun _ => ?_) (fun h9 => absurd (by decide) h9)
      refine lv_iconst (v := 0) hx hb dX6_setPort_24 (by decide) ?_
      refine lv_istore (lv' := [(4, .int 0), (0, .ref k0), (1, .int p0), (2, .int p1), (3, .int p2)]) hx hb dX6_setPort_25 hl (Nat.le_of_ble_eq_true rfl) rfl (fun ls hl => ?_)
      refine lv_iload_n hx hb dX6_setPort_27 rfl (lv_at hl 2 rfl) ?_
      have hPc := hP.sub (ws' := []) [] rfl
      have hDc := hD.sub (ws' := []) [] (by decide) rfl
      have hKc := hK.sub (tys' := []) [] rfl
      have hFc := va_free (wc := []) hD hS hA [] rfl
      refine va_calli (va_runS (As := [.int p0]) (rest := []) ⟨hx, hb, hml, hown, hts⟩ (kX6_isCircuit l dC dI p0 H.size) (va_cwS 1 hts gX6_setPort_X6_isCircuit rfl rfl rfl (by decide +kernel) ⟨Nat.le_of_ble_eq_true rfl, Nat.le_of_ble_eq_true rfl⟩) (fPreS hN hZ hS (fun q h => hFc q h) hPc hKc hDc) rfl rfl hl.1 rfl (lv_room (Nat.le_of_ble_eq_true rfl)) dX6_setPort_28 ⟨Nat.le_of_ble_eq_true rfl, Nat.le_of_ble_eq_true rfl⟩) hS (fun q _ h => hFc q h) hFc (fun r u t H1 locs ht hvm hw hB hz1 hk1 hS => ?_)
      obtain ⟨hP1, hK1, hD1⟩ := hB
      rw [ht] at hP1
      have hK1 := va_K.moved hvm.symm hK1
      obtain ⟨hP, hD⟩ := va_join (wr := [(k0, .inr (9, [.ref kN, .ref kA, .ref kO, .ref kK, .ref kV, .ref kG, .ref kP, .ref kC, .ref kD, .ref kE, .ref kF, .ref kX, .ref kY, .int 0, .ref kT, .ref kU, .int 0, .int 0, .int 0])), (kN, .inl (cI, 2, .inl (fun _ => 0))), (kA, .inl (cI, 2, .inl (fun _ => 0)))]) (w1 := []) hP hD [] [0, 1, 2] rfl rfl (by decide) (by decide) hk1 hFc hP1 hD1
      generalize H1 = H at hP hS ⊢
      have hP : va_P (dC, dI) vwCl [(k0, .inr (9, [.ref kN, .ref kA, .ref kO, .ref kK, .ref kV, .ref kG, .ref kP, .ref kC, .ref kD, .ref kE, .ref kF, .ref kX, .ref kY, .int 0, .ref kT, .ref kU, .int 0, .int 0, .int 0])), (kN, .inl (cI, 2, .inl (fun _ => 0))), (kA, .inl (cI, 2, .inl (fun _ => 0)))] _ := hP
      have hD : va_D A [(k0, .inr (9, [.ref kN, .ref kA, .ref kO, .ref kK, .ref kV, .ref kG, .ref kP, .ref kC, .ref kD, .ref kE, .ref kF, .ref kX, .ref kY, .int 0, .ref kT, .ref kU, .int 0, .int 0, .int 0])), (kN, .inl (cI, 2, .inl (fun _ => 0))), (kA, .inl (cI, 2, .inl (fun _ => 0)))] := hD
      rcases hw with ⟨rfl, hc | hc⟩ | ⟨rfl, hc⟩
      · skip
        subst hc
        have hP : va_P (dC, dI) vwCl [(k0, .inr (9, [.ref kN, .ref kA, .ref kO, .ref kK, .ref kV, .ref kG, .ref kP, .ref kC, .ref kD, .ref kE, .ref kF, .ref kX, .ref kY, .int 0, .ref kT, .ref kU, .int 0, .int 0, .int 0])), (kN, .inl (cI, 2, .inl (fun _ => 0))), (kA, .inl (cI, 2, .inl (fun _ => 0)))] _ := hP
        have hD : va_D A [(k0, .inr (9, [.ref kN, .ref kA, .ref kO, .ref kK, .ref kV, .ref kG, .ref kP, .ref kC, .ref kD, .ref kE, .ref kF, .ref kX, .ref kY, .int 0, .ref kT, .ref kU, .int 0, .int 0, .int 0])), (kN, .inl (cI, 2, .inl (fun _ => 0))), (kA, .inl (cI, 2, .inl (fun _ => 0)))] := hD
        refine lv_if_eq (tgt := 48) hx hb dX6_setPort_31 (by decide) (fun h9 => absurd h9 (by decide)) (fun _ => ?_)
        refine lv_iload hx hb dX6_setPort_34 (lv_at hl 0 rfl) ?_
        refine lv_if_eq (tgt := 48) hx hb dX6_setPort_36 (by decide) (fun _ => ?_) (fun h9 => absurd (by decide) h9)
        refine lv_aload_n hx hb dX6_setPort_48 rfl (lv_at hl 1 rfl) ?_
        refine lv_iload_n hx hb dX6_setPort_49 rfl (lv_at hl 2 rfl) ?_
        have hPc := hP.sub (ws' := []) [] rfl
        have hDc := hD.sub (ws' := []) [] (by decide) rfl
        have hKc := hK.sub (tys' := []) [] rfl
        have hFc := va_free (wc := []) hD hS hA [] rfl
        refine va_calli (va_runS (As := [.int 0]) (rest := [.ref k0]) ⟨hx, hb, hml, hown, hts⟩ (kX6_isCircuit l dC dI 0 H.size) (va_cwS 1 hts gX6_setPort_X6_isCircuit rfl rfl rfl (by decide +kernel) ⟨Nat.le_of_ble_eq_true rfl, Nat.le_of_ble_eq_true rfl⟩) (fPreS hN hZ hS (fun q h => hFc q h) hPc hKc hDc) rfl rfl hl.1 rfl (lv_room (Nat.le_of_ble_eq_true rfl)) dX6_setPort_50 ⟨Nat.le_of_ble_eq_true rfl, Nat.le_of_ble_eq_true rfl⟩) hS (fun q _ h => hFc q h) hFc (fun r u t H1 locs ht hvm hw hB hz1 hk1 hS => ?_)
        obtain ⟨hP1, hK1, hD1⟩ := hB
        rw [ht] at hP1
        have hK1 := va_K.moved hvm.symm hK1
        obtain ⟨hP, hD⟩ := va_join (wr := [(k0, .inr (9, [.ref kN, .ref kA, .ref kO, .ref kK, .ref kV, .ref kG, .ref kP, .ref kC, .ref kD, .ref kE, .ref kF, .ref kX, .ref kY, .int 0, .ref kT, .ref kU, .int 0, .int 0, .int 0])), (kN, .inl (cI, 2, .inl (fun _ => 0))), (kA, .inl (cI, 2, .inl (fun _ => 0)))]) (w1 := []) hP hD [] [0, 1, 2] rfl rfl (by decide) (by decide) hk1 hFc hP1 hD1
        generalize H1 = H at hP hS ⊢
        have hP : va_P (dC, dI) vwCl [(k0, .inr (9, [.ref kN, .ref kA, .ref kO, .ref kK, .ref kV, .ref kG, .ref kP, .ref kC, .ref kD, .ref kE, .ref kF, .ref kX, .ref kY, .int 0, .ref kT, .ref kU, .int 0, .int 0, .int 0])), (kN, .inl (cI, 2, .inl (fun _ => 0))), (kA, .inl (cI, 2, .inl (fun _ => 0)))] _ := hP
        have hD : va_D A [(k0, .inr (9, [.ref kN, .ref kA, .ref kO, .ref kK, .ref kV, .ref kG, .ref kP, .ref kC, .ref kD, .ref kE, .ref kF, .ref kX, .ref kY, .int 0, .ref kT, .ref kU, .int 0, .int 0, .int 0])), (kN, .inl (cI, 2, .inl (fun _ => 0))), (kA, .inl (cI, 2, .inl (fun _ => 0)))] := hD
        have hw : r = 1 := hw.elim (fun h => h.1) (fun h => absurd (by decide) h.2)
        subst hw
        refine lv_if_eq (tgt := 61) hx hb dX6_setPort_53 (by decide) (fun h9 => absurd h9 (by decide)) (fun _ => ?_)
        refine lv_iload hx hb dX6_setPort_56 (lv_at hl 0 rfl) ?_
        refine lv_if_ne (tgt := 65) hx hb dX6_setPort_58 (by decide) (fun h9 => absurd (by decide) h9) (fun _ => ?_)
        refine lv_iconst (v := 1) hx hb dX6_setPort_61 (by decide) ?_
        refine lv_goto (tgt := 66) hx hb dX6_setPort_62 (by decide) ?_
        refine va_put (D := (dC, dI)) (ci := 9) (v := .int 1) (ty := .int) (C := RX6) (T := TX6) (N := 19) hx hb hts (fun w h => List.mem_cons_of_mem _ (List.mem_append_left _ (List.mem_append_right _ (h)))) tyX6 tyX6_ok nmX6 hown hK hP hD hS 0 rfl rfl 16 (by decide) (hts (.fieldLink RX6 57 "NetcompareModel" "thrown" "I") (List.mem_cons_of_mem _ (List.mem_append_left _ (List.mem_append_left _ (List.mem_of_getElem? (i := 2) rfl))))) (fun _ h9 => h9) rfl (by decide +kernel) rfl rfl (Nat.le_of_ble_eq_true rfl) dX6_setPort_66 (fun H locs hP hD hS => ?_)
        have hP : va_P (dC, dI) vwCl [(k0, .inr (9, [.ref kN, .ref kA, .ref kO, .ref kK, .ref kV, .ref kG, .ref kP, .ref kC, .ref kD, .ref kE, .ref kF, .ref kX, .ref kY, .int 0, .ref kT, .ref kU, .int 1, .int 0, .int 0])), (kN, .inl (cI, 2, .inl (fun _ => 0))), (kA, .inl (cI, 2, .inl (fun _ => 0)))] _ := hP
        have hD : va_D A [(k0, .inr (9, [.ref kN, .ref kA, .ref kO, .ref kK, .ref kV, .ref kG, .ref kP, .ref kC, .ref kD, .ref kE, .ref kF, .ref kX, .ref kY, .int 0, .ref kT, .ref kU, .int 1, .int 0, .int 0])), (kN, .inl (cI, 2, .inl (fun _ => 0))), (kA, .inl (cI, 2, .inl (fun _ => 0)))] := hD
        refine lv_bipush (v := 32) hx hb dX6_setPort_69 (by decide) ?_
        exact ret _ 1 _ _ _ _ _ _ (by decide) (Or.inl (⟨rfl, Or.inr ((fun h9 => h9.elim (h1) (hi5)))⟩)) (hP.sub [0] rfl) (hK.sub [] rfl) (hD.sub [0] (by decide) rfl) hS (Nat.le_of_ble_eq_true rfl) (Nat.le_of_ble_eq_true rfl) dX6_setPort_71
      · skip
        subst hc
        have hP : va_P (dC, dI) vwCl [(k0, .inr (9, [.ref kN, .ref kA, .ref kO, .ref kK, .ref kV, .ref kG, .ref kP, .ref kC, .ref kD, .ref kE, .ref kF, .ref kX, .ref kY, .int 0, .ref kT, .ref kU, .int 0, .int 0, .int 0])), (kN, .inl (cI, 2, .inl (fun _ => 0))), (kA, .inl (cI, 2, .inl (fun _ => 0)))] _ := hP
        have hD : va_D A [(k0, .inr (9, [.ref kN, .ref kA, .ref kO, .ref kK, .ref kV, .ref kG, .ref kP, .ref kC, .ref kD, .ref kE, .ref kF, .ref kX, .ref kY, .int 0, .ref kT, .ref kU, .int 0, .int 0, .int 0])), (kN, .inl (cI, 2, .inl (fun _ => 0))), (kA, .inl (cI, 2, .inl (fun _ => 0)))] := hD
        refine lv_if_eq (tgt := 48) hx hb dX6_setPort_31 (by decide) (fun h9 => absurd h9 (by decide)) (fun _ => ?_)
        refine lv_iload hx hb dX6_setPort_34 (lv_at hl 0 rfl) ?_
        refine lv_if_eq (tgt := 48) hx hb dX6_setPort_36 (by decide) (fun _ => ?_) (fun h9 => absurd (by decide) h9)
        refine lv_aload_n hx hb dX6_setPort_48 rfl (lv_at hl 1 rfl) ?_
        refine lv_iload_n hx hb dX6_setPort_49 rfl (lv_at hl 2 rfl) ?_
        have hPc := hP.sub (ws' := []) [] rfl
        have hDc := hD.sub (ws' := []) [] (by decide) rfl
        have hKc := hK.sub (tys' := []) [] rfl
        have hFc := va_free (wc := []) hD hS hA [] rfl
        refine va_calli (va_runS (As := [.int 1]) (rest := [.ref k0]) ⟨hx, hb, hml, hown, hts⟩ (kX6_isCircuit l dC dI 1 H.size) (va_cwS 1 hts gX6_setPort_X6_isCircuit rfl rfl rfl (by decide +kernel) ⟨Nat.le_of_ble_eq_true rfl, Nat.le_of_ble_eq_true rfl⟩) (fPreS hN hZ hS (fun q h => hFc q h) hPc hKc hDc) rfl rfl hl.1 rfl (lv_room (Nat.le_of_ble_eq_true rfl)) dX6_setPort_50 ⟨Nat.le_of_ble_eq_true rfl, Nat.le_of_ble_eq_true rfl⟩) hS (fun q _ h => hFc q h) hFc (fun r u t H1 locs ht hvm hw hB hz1 hk1 hS => ?_)
        obtain ⟨hP1, hK1, hD1⟩ := hB
        rw [ht] at hP1
        have hK1 := va_K.moved hvm.symm hK1
        obtain ⟨hP, hD⟩ := va_join (wr := [(k0, .inr (9, [.ref kN, .ref kA, .ref kO, .ref kK, .ref kV, .ref kG, .ref kP, .ref kC, .ref kD, .ref kE, .ref kF, .ref kX, .ref kY, .int 0, .ref kT, .ref kU, .int 0, .int 0, .int 0])), (kN, .inl (cI, 2, .inl (fun _ => 0))), (kA, .inl (cI, 2, .inl (fun _ => 0)))]) (w1 := []) hP hD [] [0, 1, 2] rfl rfl (by decide) (by decide) hk1 hFc hP1 hD1
        generalize H1 = H at hP hS ⊢
        have hP : va_P (dC, dI) vwCl [(k0, .inr (9, [.ref kN, .ref kA, .ref kO, .ref kK, .ref kV, .ref kG, .ref kP, .ref kC, .ref kD, .ref kE, .ref kF, .ref kX, .ref kY, .int 0, .ref kT, .ref kU, .int 0, .int 0, .int 0])), (kN, .inl (cI, 2, .inl (fun _ => 0))), (kA, .inl (cI, 2, .inl (fun _ => 0)))] _ := hP
        have hD : va_D A [(k0, .inr (9, [.ref kN, .ref kA, .ref kO, .ref kK, .ref kV, .ref kG, .ref kP, .ref kC, .ref kD, .ref kE, .ref kF, .ref kX, .ref kY, .int 0, .ref kT, .ref kU, .int 0, .int 0, .int 0])), (kN, .inl (cI, 2, .inl (fun _ => 0))), (kA, .inl (cI, 2, .inl (fun _ => 0)))] := hD
        have hw : r = 1 := hw.elim (fun h => h.1) (fun h => absurd (by decide) h.2)
        subst hw
        refine lv_if_eq (tgt := 61) hx hb dX6_setPort_53 (by decide) (fun h9 => absurd h9 (by decide)) (fun _ => ?_)
        refine lv_iload hx hb dX6_setPort_56 (lv_at hl 0 rfl) ?_
        refine lv_if_ne (tgt := 65) hx hb dX6_setPort_58 (by decide) (fun h9 => absurd (by decide) h9) (fun _ => ?_)
        refine lv_iconst (v := 1) hx hb dX6_setPort_61 (by decide) ?_
        refine lv_goto (tgt := 66) hx hb dX6_setPort_62 (by decide) ?_
        refine va_put (D := (dC, dI)) (ci := 9) (v := .int 1) (ty := .int) (C := RX6) (T := TX6) (N := 19) hx hb hts (fun w h => List.mem_cons_of_mem _ (List.mem_append_left _ (List.mem_append_right _ (h)))) tyX6 tyX6_ok nmX6 hown hK hP hD hS 0 rfl rfl 16 (by decide) (hts (.fieldLink RX6 57 "NetcompareModel" "thrown" "I") (List.mem_cons_of_mem _ (List.mem_append_left _ (List.mem_append_left _ (List.mem_of_getElem? (i := 2) rfl))))) (fun _ h9 => h9) rfl (by decide +kernel) rfl rfl (Nat.le_of_ble_eq_true rfl) dX6_setPort_66 (fun H locs hP hD hS => ?_)
        have hP : va_P (dC, dI) vwCl [(k0, .inr (9, [.ref kN, .ref kA, .ref kO, .ref kK, .ref kV, .ref kG, .ref kP, .ref kC, .ref kD, .ref kE, .ref kF, .ref kX, .ref kY, .int 0, .ref kT, .ref kU, .int 1, .int 0, .int 0])), (kN, .inl (cI, 2, .inl (fun _ => 0))), (kA, .inl (cI, 2, .inl (fun _ => 0)))] _ := hP
        have hD : va_D A [(k0, .inr (9, [.ref kN, .ref kA, .ref kO, .ref kK, .ref kV, .ref kG, .ref kP, .ref kC, .ref kD, .ref kE, .ref kF, .ref kX, .ref kY, .int 0, .ref kT, .ref kU, .int 1, .int 0, .int 0])), (kN, .inl (cI, 2, .inl (fun _ => 0))), (kA, .inl (cI, 2, .inl (fun _ => 0)))] := hD
        refine lv_bipush (v := 32) hx hb dX6_setPort_69 (by decide) ?_
        exact ret _ 1 _ _ _ _ _ _ (by decide) (Or.inl (⟨rfl, Or.inr ((fun h9 => h9.elim (h1) (hi5)))⟩)) (hP.sub [0] rfl) (hK.sub [] rfl) (hD.sub [0] (by decide) rfl) hS (Nat.le_of_ble_eq_true rfl) (Nat.le_of_ble_eq_true rfl) dX6_setPort_71
      · skip
        have hc6 := hc
        refine lv_if_eq (tgt := 48) hx hb dX6_setPort_31 (by decide) (fun _ => ?_) (fun h9 => absurd (by decide) h9)
        refine lv_aload_n hx hb dX6_setPort_48 rfl (lv_at hl 1 rfl) ?_
        refine lv_iload_n hx hb dX6_setPort_49 rfl (lv_at hl 2 rfl) ?_
        have hPc := hP.sub (ws' := []) [] rfl
        have hDc := hD.sub (ws' := []) [] (by decide) rfl
        have hKc := hK.sub (tys' := []) [] rfl
        have hFc := va_free (wc := []) hD hS hA [] rfl
        refine va_calli (va_runS (As := [.int p0]) (rest := [.ref k0]) ⟨hx, hb, hml, hown, hts⟩ (kX6_isCircuit l dC dI p0 H.size) (va_cwS 1 hts gX6_setPort_X6_isCircuit rfl rfl rfl (by decide +kernel) ⟨Nat.le_of_ble_eq_true rfl, Nat.le_of_ble_eq_true rfl⟩) (fPreS hN hZ hS (fun q h => hFc q h) hPc hKc hDc) rfl rfl hl.1 rfl (lv_room (Nat.le_of_ble_eq_true rfl)) dX6_setPort_50 ⟨Nat.le_of_ble_eq_true rfl, Nat.le_of_ble_eq_true rfl⟩) hS (fun q _ h => hFc q h) hFc (fun r u t H1 locs ht hvm hw hB hz1 hk1 hS => ?_)
        obtain ⟨hP1, hK1, hD1⟩ := hB
        rw [ht] at hP1
        have hK1 := va_K.moved hvm.symm hK1
        obtain ⟨hP, hD⟩ := va_join (wr := [(k0, .inr (9, [.ref kN, .ref kA, .ref kO, .ref kK, .ref kV, .ref kG, .ref kP, .ref kC, .ref kD, .ref kE, .ref kF, .ref kX, .ref kY, .int 0, .ref kT, .ref kU, .int 0, .int 0, .int 0])), (kN, .inl (cI, 2, .inl (fun _ => 0))), (kA, .inl (cI, 2, .inl (fun _ => 0)))]) (w1 := []) hP hD [] [0, 1, 2] rfl rfl (by decide) (by decide) hk1 hFc hP1 hD1
        generalize H1 = H at hP hS ⊢
        have hP : va_P (dC, dI) vwCl [(k0, .inr (9, [.ref kN, .ref kA, .ref kO, .ref kK, .ref kV, .ref kG, .ref kP, .ref kC, .ref kD, .ref kE, .ref kF, .ref kX, .ref kY, .int 0, .ref kT, .ref kU, .int 0, .int 0, .int 0])), (kN, .inl (cI, 2, .inl (fun _ => 0))), (kA, .inl (cI, 2, .inl (fun _ => 0)))] _ := hP
        have hD : va_D A [(k0, .inr (9, [.ref kN, .ref kA, .ref kO, .ref kK, .ref kV, .ref kG, .ref kP, .ref kC, .ref kD, .ref kE, .ref kF, .ref kX, .ref kY, .int 0, .ref kT, .ref kU, .int 0, .int 0, .int 0])), (kN, .inl (cI, 2, .inl (fun _ => 0))), (kA, .inl (cI, 2, .inl (fun _ => 0)))] := hD
        have hw : r = 0 := hw.elim (fun h => absurd h.2 (hc6)) (fun h => h.1)
        subst hw
        refine lv_if_eq (tgt := 61) hx hb dX6_setPort_53 (by decide) (fun _ => ?_) (fun h9 => absurd (by decide) h9)
        refine lv_iconst (v := 1) hx hb dX6_setPort_61 (by decide) ?_
        refine lv_goto (tgt := 66) hx hb dX6_setPort_62 (by decide) ?_
        refine va_put (D := (dC, dI)) (ci := 9) (v := .int 1) (ty := .int) (C := RX6) (T := TX6) (N := 19) hx hb hts (fun w h => List.mem_cons_of_mem _ (List.mem_append_left _ (List.mem_append_right _ (h)))) tyX6 tyX6_ok nmX6 hown hK hP hD hS 0 rfl rfl 16 (by decide) (hts (.fieldLink RX6 57 "NetcompareModel" "thrown" "I") (List.mem_cons_of_mem _ (List.mem_append_left _ (List.mem_append_left _ (List.mem_of_getElem? (i := 2) rfl))))) (fun _ h9 => h9) rfl (by decide +kernel) rfl rfl (Nat.le_of_ble_eq_true rfl) dX6_setPort_66 (fun H locs hP hD hS => ?_)
        have hP : va_P (dC, dI) vwCl [(k0, .inr (9, [.ref kN, .ref kA, .ref kO, .ref kK, .ref kV, .ref kG, .ref kP, .ref kC, .ref kD, .ref kE, .ref kF, .ref kX, .ref kY, .int 0, .ref kT, .ref kU, .int 1, .int 0, .int 0])), (kN, .inl (cI, 2, .inl (fun _ => 0))), (kA, .inl (cI, 2, .inl (fun _ => 0)))] _ := hP
        have hD : va_D A [(k0, .inr (9, [.ref kN, .ref kA, .ref kO, .ref kK, .ref kV, .ref kG, .ref kP, .ref kC, .ref kD, .ref kE, .ref kF, .ref kX, .ref kY, .int 0, .ref kT, .ref kU, .int 1, .int 0, .int 0])), (kN, .inl (cI, 2, .inl (fun _ => 0))), (kA, .inl (cI, 2, .inl (fun _ => 0)))] := hD
        refine lv_bipush (v := 32) hx hb dX6_setPort_69 (by decide) ?_
        exact ret _ 1 _ _ _ _ _ _ (by decide) (Or.inl (⟨rfl, Or.inl (hc6)⟩)) (hP.sub [0] rfl) (hK.sub [] rfl) (hD.sub [0] (by decide) rfl) hS (Nat.le_of_ble_eq_true rfl) (Nat.le_of_ble_eq_true rfl) dX6_setPort_71

set_option maxHeartbeats 4000000 in
set_option maxRecDepth 100000 in
/-- the model: addPart on a fresh one -/
theorem kX6_addPart (l : Launch) (dC : Nat → ClassId) (dI : Nat → Nat → Nat) (k0 kN kA kO kK kV kG kP kC kD kE kF kX kY kT kU : Nat) (cI : ClassId) (p0 p1 p2 p3 p4 p5 : Int32) (sz : Nat) : fMi l yX6_addPart wsX6_addPart ({ frames := 2, cells := 0, slots := 0, locals := 47 } : Room) dC dI [.ref k0, .int p0, .int p1, .int p2, .int p3, .int p4, .int p5] [(k0, .inr (9, [.ref kN, .ref kA, .ref kO, .ref kK, .ref kV, .ref kG, .ref kP, .ref kC, .ref kD, .ref kE, .ref kF, .ref kX, .ref kY, .int 0, .ref kT, .ref kU, .int 0, .int 0, .int 0])), (kN, .inl (cI, 2, .inl (fun _ => 0))), (kA, .inl (cI, 2, .inl (fun _ => 0)))] [(cI, .int)] sz (fun (r : Int32) (u : Int32) => u = 1 ∧ ((¬ ((p0 = 0) ∨ (p0 = 1))) ∨ ((¬ ((p1 = 114) ∨ ((p1 = 99) ∨ ((p1 = 100) ∨ (p1 = 116))))) ∨ ((¬ ((¬ (p2 < 1)) ∧ (¬ (999 < p2)))) ∨ ((¬ (p1 = 116)) ∧ (¬ (p5 = (-1))))))) ∨ u = 2 ∧ (¬ ((¬ ((p0 = 0) ∨ (p0 = 1))) ∨ ((¬ ((p1 = 114) ∨ ((p1 = 99) ∨ ((p1 = 100) ∨ (p1 = 116))))) ∨ ((¬ ((¬ (p2 < 1)) ∧ (¬ (999 < p2)))) ∨ ((¬ (p1 = 116)) ∧ (¬ (p5 = (-1))))))))) (fun u => [(k0, .inr (9, [.ref kN, .ref kA, .ref kO, .ref kK, .ref kV, .ref kG, .ref kP, .ref kC, .ref kD, .ref kE, .ref kF, .ref kX, .ref kY, .int 0, .ref kT, .ref kU, .int u, .int 0, .int 0]))]) (fun u => []) := by
  refine oP_i (y := yX6_addPart) (cc := cX6_addPart) (maxL := 9) (by decide) rfl (Nat.le_of_ble_eq_true rfl) ?_
  intro p e s m args below meth c ls A Q hx hb hr hml hown hts hN hZ hA hin hlk hP hK hD hl ret
  have hS : va_S A s.heap s.heap [] := va_S.rf
  have hl : lv_has ls 9 [(0, .ref k0), (1, .int p0), (2, .int p1), (3, .int p2), (4, .int p3), (5, .int p4), (6, .int p5)] := hl
  have hP : va_P (dC, dI) vwCl [(k0, .inr (9, [.ref kN, .ref kA, .ref kO, .ref kK, .ref kV, .ref kG, .ref kP, .ref kC, .ref kD, .ref kE, .ref kF, .ref kX, .ref kY, .int 0, .ref kT, .ref kU, .int 0, .int 0, .int 0])), (kN, .inl (cI, 2, .inl (fun _ => 0))), (kA, .inl (cI, 2, .inl (fun _ => 0)))] _ := hP
  have hD : va_D A [(k0, .inr (9, [.ref kN, .ref kA, .ref kO, .ref kK, .ref kV, .ref kG, .ref kP, .ref kC, .ref kD, .ref kE, .ref kF, .ref kX, .ref kY, .int 0, .ref kT, .ref kU, .int 0, .int 0, .int 0])), (kN, .inl (cI, 2, .inl (fun _ => 0))), (kA, .inl (cI, 2, .inl (fun _ => 0)))] := hD
  refine lv_iload_n hx hb dX6_addPart_0 rfl (lv_at hl 2 rfl) ?_
  refine lv_bipush (v := 114) hx hb dX6_addPart_1 (by decide) ?_
  refine lv_icmp_eq (tgt := 24) hx hb dX6_addPart_3 (by decide) (fun h1 => ?_) (fun h1 => ?_)
  · skip
    refine lv_iconst (v := 1) hx hb dX6_addPart_24 (by decide) ?_
    refine lv_goto (tgt := 29) hx hb dX6_addPart_25 (by decide) ?_
    refine lv_istore (lv' := [(7, .int 1), (0, .ref k0), (1, .int p0), (2, .int p1), (3, .int p2), (4, .int p3), (5, .int p4), (6, .int p5)]) hx hb dX6_addPart_29 hl (Nat.le_of_ble_eq_true rfl) rfl (fun ls hl => ?_)
    refine lv_iload_n hx hb dX6_addPart_31 rfl (lv_at hl 2 rfl) ?_
    have hPc := hP.sub (ws' := []) [] rfl
    have hDc := hD.sub (ws' := []) [] (by decide) rfl
    have hKc := hK.sub (tys' := []) [] rfl
    have hFc := va_free (wc := []) hD hS hA [] rfl
    refine va_calli (va_runS (As := [.int p0]) (rest := []) ⟨hx, hb, hml, hown, hts⟩ (kX6_isCircuit l dC dI p0 s.heap.size) (va_cwS 1 hts gX6_addPart_X6_isCircuit rfl rfl rfl (by decide +kernel) ⟨Nat.le_of_ble_eq_true rfl, Nat.le_of_ble_eq_true rfl⟩) (fPreS hN hZ hS (fun q h => hFc q h) hPc hKc hDc) rfl rfl hl.1 rfl (lv_room (Nat.le_of_ble_eq_true rfl)) dX6_addPart_32 ⟨Nat.le_of_ble_eq_true rfl, Nat.le_of_ble_eq_true rfl⟩) hS (fun q _ h => hFc q h) hFc (fun r u t H1 locs ht hvm hw hB hz1 hk1 hS => ?_)
    obtain ⟨hP1, hK1, hD1⟩ := hB
    rw [ht] at hP1
    have hK1 := va_K.moved hvm.symm hK1
    obtain ⟨hP, hD⟩ := va_join (wr := [(k0, .inr (9, [.ref kN, .ref kA, .ref kO, .ref kK, .ref kV, .ref kG, .ref kP, .ref kC, .ref kD, .ref kE, .ref kF, .ref kX, .ref kY, .int 0, .ref kT, .ref kU, .int 0, .int 0, .int 0])), (kN, .inl (cI, 2, .inl (fun _ => 0))), (kA, .inl (cI, 2, .inl (fun _ => 0)))]) (w1 := []) hP hD [] [0, 1, 2] rfl rfl (by decide) (by decide) hk1 hFc hP1 hD1
    generalize H1 = H at hP hS ⊢
    have hP : va_P (dC, dI) vwCl [(k0, .inr (9, [.ref kN, .ref kA, .ref kO, .ref kK, .ref kV, .ref kG, .ref kP, .ref kC, .ref kD, .ref kE, .ref kF, .ref kX, .ref kY, .int 0, .ref kT, .ref kU, .int 0, .int 0, .int 0])), (kN, .inl (cI, 2, .inl (fun _ => 0))), (kA, .inl (cI, 2, .inl (fun _ => 0)))] _ := hP
    have hD : va_D A [(k0, .inr (9, [.ref kN, .ref kA, .ref kO, .ref kK, .ref kV, .ref kG, .ref kP, .ref kC, .ref kD, .ref kE, .ref kF, .ref kX, .ref kY, .int 0, .ref kT, .ref kU, .int 0, .int 0, .int 0])), (kN, .inl (cI, 2, .inl (fun _ => 0))), (kA, .inl (cI, 2, .inl (fun _ => 0)))] := hD
    rcases hw with ⟨rfl, hc | hc⟩ | ⟨rfl, hc⟩
    · skip
      subst hc
      have hP : va_P (dC, dI) vwCl [(k0, .inr (9, [.ref kN, .ref kA, .ref kO, .ref kK, .ref kV, .ref kG, .ref kP, .ref kC, .ref kD, .ref kE, .ref kF, .ref kX, .ref kY, .int 0, .ref kT, .ref kU, .int 0, .int 0, .int 0])), (kN, .inl (cI, 2, .inl (fun _ => 0))), (kA, .inl (cI, 2, .inl (fun _ => 0)))] _ := hP
      have hD : va_D A [(k0, .inr (9, [.ref kN, .ref kA, .ref kO, .ref kK, .ref kV, .ref kG, .ref kP, .ref kC, .ref kD, .ref kE, .ref kF, .ref kX, .ref kY, .int 0, .ref kT, .ref kU, .int 0, .int 0, .int 0])), (kN, .inl (cI, 2, .inl (fun _ => 0))), (kA, .inl (cI, 2, .inl (fun _ => 0)))] := hD
      refine lv_if_eq (tgt := 67) hx hb dX6_addPart_35 (by decide) (fun h9 => absurd h9 (by decide)) (fun _ => ?_)
      refine lv_iload hx hb dX6_addPart_38 (lv_at hl 0 rfl) ?_
      refine lv_if_eq (tgt := 67) hx hb dX6_addPart_40 (by decide) (fun h9 => absurd h9 (by decide)) (fun _ => ?_)
      refine lv_iload_n hx hb dX6_addPart_43 rfl (lv_at hl 4 rfl) ?_
      refine lv_i2l (v := p2.toInt64) hx hb dX6_addPart_44 rfl ?_
      refine lv_lconst (v := 1) hx hb dX6_addPart_45 (by decide) ?_
      refine lv_ldc2 (v := 999) hx hb hown (hts (.constantLong RX6 92 (999)) (List.mem_cons_of_mem _ (List.mem_append_left _ (List.mem_append_left _ (List.mem_of_getElem? (i := 0) rfl))))) dX6_addPart_46 ?_
      have hPc := hP.sub (ws' := []) [] rfl
      have hDc := hD.sub (ws' := []) [] (by decide) rfl
      have hKc := hK.sub (tys' := []) [] rfl
      have hFc := va_free (wc := []) hD hS hA [] rfl
      refine va_calli (va_runS (As := [.long p2.toInt64, .long 1, .long 999]) (rest := []) ⟨hx, hb, hml, hown, hts⟩ (kX6_in l dC dI p2.toInt64 1 999 H.size) (va_cwS 3 hts gX6_addPart_X6_in rfl rfl rfl (by decide +kernel) ⟨Nat.le_of_ble_eq_true rfl, Nat.le_of_ble_eq_true rfl⟩) (fPreS hN hZ hS (fun q h => hFc q h) hPc hKc hDc) rfl rfl hl.1 rfl (lv_room (Nat.le_of_ble_eq_true rfl)) dX6_addPart_49 ⟨Nat.le_of_ble_eq_true rfl, Nat.le_of_ble_eq_true rfl⟩) hS (fun q _ h => hFc q h) hFc (fun r u t H1 locs ht hvm hw hB hz1 hk1 hS => ?_)
      obtain ⟨hP1, hK1, hD1⟩ := hB
      rw [ht] at hP1
      have hK1 := va_K.moved hvm.symm hK1
      obtain ⟨hP, hD⟩ := va_join (wr := [(k0, .inr (9, [.ref kN, .ref kA, .ref kO, .ref kK, .ref kV, .ref kG, .ref kP, .ref kC, .ref kD, .ref kE, .ref kF, .ref kX, .ref kY, .int 0, .ref kT, .ref kU, .int 0, .int 0, .int 0])), (kN, .inl (cI, 2, .inl (fun _ => 0))), (kA, .inl (cI, 2, .inl (fun _ => 0)))]) (w1 := []) hP hD [] [0, 1, 2] rfl rfl (by decide) (by decide) hk1 hFc hP1 hD1
      generalize H1 = H at hP hS ⊢
      have hP : va_P (dC, dI) vwCl [(k0, .inr (9, [.ref kN, .ref kA, .ref kO, .ref kK, .ref kV, .ref kG, .ref kP, .ref kC, .ref kD, .ref kE, .ref kF, .ref kX, .ref kY, .int 0, .ref kT, .ref kU, .int 0, .int 0, .int 0])), (kN, .inl (cI, 2, .inl (fun _ => 0))), (kA, .inl (cI, 2, .inl (fun _ => 0)))] _ := hP
      have hD : va_D A [(k0, .inr (9, [.ref kN, .ref kA, .ref kO, .ref kK, .ref kV, .ref kG, .ref kP, .ref kC, .ref kD, .ref kE, .ref kF, .ref kX, .ref kY, .int 0, .ref kT, .ref kU, .int 0, .int 0, .int 0])), (kN, .inl (cI, 2, .inl (fun _ => 0))), (kA, .inl (cI, 2, .inl (fun _ => 0)))] := hD
      rcases hw with ⟨rfl, hi9⟩ | ⟨rfl, hi9⟩
      · skip
        have hi2 : ((¬ (p2 < 1)) ∧ (¬ (999 < p2))) := (fIn p2 1 999 1 999 (by decide) (by decide)).mp hi9
        refine lv_if_eq (tgt := 67) hx hb dX6_addPart_52 (by decide) (fun h9 => absurd h9 (by decide)) (fun _ => ?_)
        refine lv_iload_n hx hb dX6_addPart_55 rfl (lv_at hl 3 rfl) ?_
        refine lv_bipush (v := 116) hx hb dX6_addPart_56 (by decide) ?_
        refine lv_icmp_eq (tgt := 75) hx hb dX6_addPart_58 (by decide) (fun h3 => ?_) (fun h3 => ?_)
        · skip
          refine lv_aload_n hx hb dX6_addPart_75 rfl (lv_at hl 1 rfl) ?_
          refine lv_iload_n hx hb dX6_addPart_76 rfl (lv_at hl 2 rfl) ?_
          refine lv_iload hx hb dX6_addPart_77 (lv_at hl 5 rfl) ?_
          have hPc := hP.sub (ws' := [(k0, .inr (9, [.ref kN, .ref kA, .ref kO, .ref kK, .ref kV, .ref kG, .ref kP, .ref kC, .ref kD, .ref kE, .ref kF, .ref kX, .ref kY, .int 0, .ref kT, .ref kU, .int 0, .int 0, .int 0])), (kN, .inl (cI, 2, .inl (fun _ => 0)))]) [0, 1] rfl
          have hDc := hD.sub (ws' := [(k0, .inr (9, [.ref kN, .ref kA, .ref kO, .ref kK, .ref kV, .ref kG, .ref kP, .ref kC, .ref kD, .ref kE, .ref kF, .ref kX, .ref kY, .int 0, .ref kT, .ref kU, .int 0, .int 0, .int 0])), (kN, .inl (cI, 2, .inl (fun _ => 0)))]) [0, 1] (by decide) rfl
          have hKc := hK.sub (tys' := [(cI, .int)]) [0] rfl
          have hFc := va_free (wc := [(k0, .inr (9, [.ref kN, .ref kA, .ref kO, .ref kK, .ref kV, .ref kG, .ref kP, .ref kC, .ref kD, .ref kE, .ref kF, .ref kX, .ref kY, .int 0, .ref kT, .ref kU, .int 0, .int 0, .int 0])), (kN, .inl (cI, 2, .inl (fun _ => 0)))]) hD hS hA [0, 1] rfl
          refine va_calli (va_runV (As := [.int 0, .int p3]) (rest := []) ⟨hx, hb, hml, hown, hts⟩ (kX6_isNet0 l dC dI k0 kN kA kO kK kV kG kP kC kD kE kF kX kY kT kU cI p3 H.size) (cwV 2 hts gX6_addPart_X6_isNet rfl rfl rfl (by decide +kernel) ⟨Nat.le_of_ble_eq_true rfl, Nat.le_of_ble_eq_true rfl⟩) (fPreV hN hZ hS (fun q h => hFc q h) hPc hKc hDc (ci := 9) (q0 := 0) rfl rfl) rfl rfl hl.1 rfl (lv_room (Nat.le_of_ble_eq_true rfl)) dX6_addPart_79 ⟨Nat.le_of_ble_eq_true rfl, Nat.le_of_ble_eq_true rfl⟩) hS (fun q _ h => hFc q h) hFc (fun r u t H1 locs ht hvm hw hB hz1 hk1 hS => ?_)
          obtain ⟨hP1, hK1, hD1⟩ := hB
          rw [ht] at hP1
          have hK1 := va_K.moved hvm.symm hK1
          obtain ⟨hP, hD⟩ := va_join (wr := [(kA, .inl (cI, 2, .inl (fun _ => 0)))]) (w1 := [(k0, .inr (9, [.ref kN, .ref kA, .ref kO, .ref kK, .ref kV, .ref kG, .ref kP, .ref kC, .ref kD, .ref kE, .ref kF, .ref kX, .ref kY, .int 0, .ref kT, .ref kU, .int 0, .int 0, .int 0])), (kN, .inl (cI, 2, .inl (fun _ => 0)))]) hP hD [0, 1] [2] rfl rfl (by decide) (by decide) hk1 hFc hP1 hD1
          generalize H1 = H at hP hS ⊢
          have hP : va_P (dC, dI) vwCl [(kA, .inl (cI, 2, .inl (fun _ => 0))), (k0, .inr (9, [.ref kN, .ref kA, .ref kO, .ref kK, .ref kV, .ref kG, .ref kP, .ref kC, .ref kD, .ref kE, .ref kF, .ref kX, .ref kY, .int 0, .ref kT, .ref kU, .int 0, .int 0, .int 0])), (kN, .inl (cI, 2, .inl (fun _ => 0)))] _ := hP
          have hD : va_D A [(kA, .inl (cI, 2, .inl (fun _ => 0))), (k0, .inr (9, [.ref kN, .ref kA, .ref kO, .ref kK, .ref kV, .ref kG, .ref kP, .ref kC, .ref kD, .ref kE, .ref kF, .ref kX, .ref kY, .int 0, .ref kT, .ref kU, .int 0, .int 0, .int 0])), (kN, .inl (cI, 2, .inl (fun _ => 0)))] := hD
          subst hw
          refine lv_if_eq (tgt := 111) hx hb dX6_addPart_82 (by decide) (fun _ => ?_) (fun h9 => absurd (by decide) h9)
          refine lv_aload_n hx hb dX6_addPart_111 rfl (lv_at hl 1 rfl) ?_
          refine lv_iconst (v := 2) hx hb dX6_addPart_112 (by decide) ?_
          refine va_put (D := (dC, dI)) (ci := 9) (v := .int 2) (ty := .int) (C := RX6) (T := TX6) (N := 19) hx hb hts (fun w h => List.mem_cons_of_mem _ (List.mem_append_left _ (List.mem_append_right _ (h)))) tyX6 tyX6_ok nmX6 hown hK hP hD hS 1 rfl rfl 16 (by decide) (hts (.fieldLink RX6 57 "NetcompareModel" "thrown" "I") (List.mem_cons_of_mem _ (List.mem_append_left _ (List.mem_append_left _ (List.mem_of_getElem? (i := 1) rfl))))) (fun _ h9 => h9) rfl (by decide +kernel) rfl rfl (Nat.le_of_ble_eq_true rfl) dX6_addPart_113 (fun H locs hP hD hS => ?_)
          have hP : va_P (dC, dI) vwCl [(kA, .inl (cI, 2, .inl (fun _ => 0))), (k0, .inr (9, [.ref kN, .ref kA, .ref kO, .ref kK, .ref kV, .ref kG, .ref kP, .ref kC, .ref kD, .ref kE, .ref kF, .ref kX, .ref kY, .int 0, .ref kT, .ref kU, .int 2, .int 0, .int 0])), (kN, .inl (cI, 2, .inl (fun _ => 0)))] _ := hP
          have hD : va_D A [(kA, .inl (cI, 2, .inl (fun _ => 0))), (k0, .inr (9, [.ref kN, .ref kA, .ref kO, .ref kK, .ref kV, .ref kG, .ref kP, .ref kC, .ref kD, .ref kE, .ref kF, .ref kX, .ref kY, .int 0, .ref kT, .ref kU, .int 2, .int 0, .int 0])), (kN, .inl (cI, 2, .inl (fun _ => 0)))] := hD
          refine lv_goto (tgt := 139) hx hb dX6_addPart_116 (by decide) ?_
          refine lv_aload_n hx hb dX6_addPart_139 rfl (lv_at hl 1 rfl) ?_
          refine va_get (D := (dC, dI)) (ci := 9) (v := .int 2) (C := RX6) (T := TX6) (N := 19) hx hb hts (fun w h => List.mem_cons_of_mem _ (List.mem_append_left _ (List.mem_append_right _ (h)))) hown hK hP 1 rfl rfl 16 (by decide) (hts (.fieldLink RX6 57 "NetcompareModel" "thrown" "I") (List.mem_cons_of_mem _ (List.mem_append_left _ (List.mem_append_left _ (List.mem_of_getElem? (i := 1) rfl))))) (fun _ h9 => h9) rfl dX6_addPart_140 ?_
          refine lv_if_le (tgt := 148) hx hb dX6_addPart_143 (by decide) (fun h9 => absurd h9 (by decide)) (fun _ => ?_)
          refine lv_iconst (v := (-1)) hx hb dX6_addPart_146 (by decide) ?_
          exact ret _ 2 _ _ _ _ _ _ (Or.inr (⟨rfl, (fun h9 => h9.elim ((fun h9 => h9 (Or.inl (rfl)))) ((fun h9 => h9.elim ((fun h9 => h9 (Or.inl (h1)))) ((fun h9 => h9.elim ((fun h9 => h9 (hi2))) ((fun h9 => ((fun h9 => h9 (h3))) h9.1)))))))⟩)) (hP.sub [1] rfl) (hK.sub [] rfl) (hD.sub [1] (by decide) rfl) hS (Nat.le_of_ble_eq_true rfl) (Nat.le_of_ble_eq_true rfl) dX6_addPart_147
        · skip
          refine lv_iload hx hb dX6_addPart_61 (lv_at hl 7 rfl) ?_
          refine lv_iconst (v := (-1)) hx hb dX6_addPart_63 (by decide) ?_
          refine lv_icmp_eq (tgt := 75) hx hb dX6_addPart_64 (by decide) (fun h4 => ?_) (fun h4 => ?_)
          · skip
            refine lv_aload_n hx hb dX6_addPart_75 rfl (lv_at hl 1 rfl) ?_
            refine lv_iload_n hx hb dX6_addPart_76 rfl (lv_at hl 2 rfl) ?_
            refine lv_iload hx hb dX6_addPart_77 (lv_at hl 5 rfl) ?_
            have hPc := hP.sub (ws' := [(k0, .inr (9, [.ref kN, .ref kA, .ref kO, .ref kK, .ref kV, .ref kG, .ref kP, .ref kC, .ref kD, .ref kE, .ref kF, .ref kX, .ref kY, .int 0, .ref kT, .ref kU, .int 0, .int 0, .int 0])), (kN, .inl (cI, 2, .inl (fun _ => 0)))]) [0, 1] rfl
            have hDc := hD.sub (ws' := [(k0, .inr (9, [.ref kN, .ref kA, .ref kO, .ref kK, .ref kV, .ref kG, .ref kP, .ref kC, .ref kD, .ref kE, .ref kF, .ref kX, .ref kY, .int 0, .ref kT, .ref kU, .int 0, .int 0, .int 0])), (kN, .inl (cI, 2, .inl (fun _ => 0)))]) [0, 1] (by decide) rfl
            have hKc := hK.sub (tys' := [(cI, .int)]) [0] rfl
            have hFc := va_free (wc := [(k0, .inr (9, [.ref kN, .ref kA, .ref kO, .ref kK, .ref kV, .ref kG, .ref kP, .ref kC, .ref kD, .ref kE, .ref kF, .ref kX, .ref kY, .int 0, .ref kT, .ref kU, .int 0, .int 0, .int 0])), (kN, .inl (cI, 2, .inl (fun _ => 0)))]) hD hS hA [0, 1] rfl
            refine va_calli (va_runV (As := [.int 0, .int p3]) (rest := []) ⟨hx, hb, hml, hown, hts⟩ (kX6_isNet0 l dC dI k0 kN kA kO kK kV kG kP kC kD kE kF kX kY kT kU cI p3 H.size) (cwV 2 hts gX6_addPart_X6_isNet rfl rfl rfl (by decide +kernel) ⟨Nat.le_of_ble_eq_true rfl, Nat.le_of_ble_eq_true rfl⟩) (fPreV hN hZ hS (fun q h => hFc q h) hPc hKc hDc (ci := 9) (q0 := 0) rfl rfl) rfl rfl hl.1 rfl (lv_room (Nat.le_of_ble_eq_true rfl)) dX6_addPart_79 ⟨Nat.le_of_ble_eq_true rfl, Nat.le_of_ble_eq_true rfl⟩) hS (fun q _ h => hFc q h) hFc (fun r u t H1 locs ht hvm hw hB hz1 hk1 hS => ?_)
            obtain ⟨hP1, hK1, hD1⟩ := hB
            rw [ht] at hP1
            have hK1 := va_K.moved hvm.symm hK1
            obtain ⟨hP, hD⟩ := va_join (wr := [(kA, .inl (cI, 2, .inl (fun _ => 0)))]) (w1 := [(k0, .inr (9, [.ref kN, .ref kA, .ref kO, .ref kK, .ref kV, .ref kG, .ref kP, .ref kC, .ref kD, .ref kE, .ref kF, .ref kX, .ref kY, .int 0, .ref kT, .ref kU, .int 0, .int 0, .int 0])), (kN, .inl (cI, 2, .inl (fun _ => 0)))]) hP hD [0, 1] [2] rfl rfl (by decide) (by decide) hk1 hFc hP1 hD1
            generalize H1 = H at hP hS ⊢
            have hP : va_P (dC, dI) vwCl [(kA, .inl (cI, 2, .inl (fun _ => 0))), (k0, .inr (9, [.ref kN, .ref kA, .ref kO, .ref kK, .ref kV, .ref kG, .ref kP, .ref kC, .ref kD, .ref kE, .ref kF, .ref kX, .ref kY, .int 0, .ref kT, .ref kU, .int 0, .int 0, .int 0])), (kN, .inl (cI, 2, .inl (fun _ => 0)))] _ := hP
            have hD : va_D A [(kA, .inl (cI, 2, .inl (fun _ => 0))), (k0, .inr (9, [.ref kN, .ref kA, .ref kO, .ref kK, .ref kV, .ref kG, .ref kP, .ref kC, .ref kD, .ref kE, .ref kF, .ref kX, .ref kY, .int 0, .ref kT, .ref kU, .int 0, .int 0, .int 0])), (kN, .inl (cI, 2, .inl (fun _ => 0)))] := hD
            subst hw
            refine lv_if_eq (tgt := 111) hx hb dX6_addPart_82 (by decide) (fun _ => ?_) (fun h9 => absurd (by decide) h9)
            refine lv_aload_n hx hb dX6_addPart_111 rfl (lv_at hl 1 rfl) ?_
            refine lv_iconst (v := 2) hx hb dX6_addPart_112 (by decide) ?_
            refine va_put (D := (dC, dI)) (ci := 9) (v := .int 2) (ty := .int) (C := RX6) (T := TX6) (N := 19) hx hb hts (fun w h => List.mem_cons_of_mem _ (List.mem_append_left _ (List.mem_append_right _ (h)))) tyX6 tyX6_ok nmX6 hown hK hP hD hS 1 rfl rfl 16 (by decide) (hts (.fieldLink RX6 57 "NetcompareModel" "thrown" "I") (List.mem_cons_of_mem _ (List.mem_append_left _ (List.mem_append_left _ (List.mem_of_getElem? (i := 1) rfl))))) (fun _ h9 => h9) rfl (by decide +kernel) rfl rfl (Nat.le_of_ble_eq_true rfl) dX6_addPart_113 (fun H locs hP hD hS => ?_)
            have hP : va_P (dC, dI) vwCl [(kA, .inl (cI, 2, .inl (fun _ => 0))), (k0, .inr (9, [.ref kN, .ref kA, .ref kO, .ref kK, .ref kV, .ref kG, .ref kP, .ref kC, .ref kD, .ref kE, .ref kF, .ref kX, .ref kY, .int 0, .ref kT, .ref kU, .int 2, .int 0, .int 0])), (kN, .inl (cI, 2, .inl (fun _ => 0)))] _ := hP
            have hD : va_D A [(kA, .inl (cI, 2, .inl (fun _ => 0))), (k0, .inr (9, [.ref kN, .ref kA, .ref kO, .ref kK, .ref kV, .ref kG, .ref kP, .ref kC, .ref kD, .ref kE, .ref kF, .ref kX, .ref kY, .int 0, .ref kT, .ref kU, .int 2, .int 0, .int 0])), (kN, .inl (cI, 2, .inl (fun _ => 0)))] := hD
            refine lv_goto (tgt := 139) hx hb dX6_addPart_116 (by decide) ?_
            refine lv_aload_n hx hb dX6_addPart_139 rfl (lv_at hl 1 rfl) ?_
            refine va_get (D := (dC, dI)) (ci := 9) (v := .int 2) (C := RX6) (T := TX6) (N := 19) hx hb hts (fun w h => List.mem_cons_of_mem _ (List.mem_append_left _ (List.mem_append_right _ (h)))) hown hK hP 1 rfl rfl 16 (by decide) (hts (.fieldLink RX6 57 "NetcompareModel" "thrown" "I") (List.mem_cons_of_mem _ (List.mem_append_left _ (List.mem_append_left _ (List.mem_of_getElem? (i := 1) rfl))))) (fun _ h9 => h9) rfl dX6_addPart_140 ?_
            refine lv_if_le (tgt := 148) hx hb dX6_addPart_143 (by decide) (fun h9 => absurd h9 (by decide)) (fun _ => ?_)
            refine lv_iconst (v := (-1)) hx hb dX6_addPart_146 (by decide) ?_
            exact ret _ 2 _ _ _ _ _ _ (Or.inr (⟨rfl, (fun h9 => h9.elim ((fun h9 => h9 (Or.inl (rfl)))) ((fun h9 => h9.elim ((fun h9 => h9 (Or.inl (h1)))) ((fun h9 => h9.elim ((fun h9 => h9 (hi2))) ((fun h9 => ((fun h9 => h9 (h4))) h9.2)))))))⟩)) (hP.sub [1] rfl) (hK.sub [] rfl) (hD.sub [1] (by decide) rfl) hS (Nat.le_of_ble_eq_true rfl) (Nat.le_of_ble_eq_true rfl) dX6_addPart_147
          · skip
            refine lv_aload_n hx hb dX6_addPart_67 rfl (lv_at hl 1 rfl) ?_
            refine lv_iconst (v := 1) hx hb dX6_addPart_68 (by decide) ?_
            refine va_put (D := (dC, dI)) (ci := 9) (v := .int 1) (ty := .int) (C := RX6) (T := TX6) (N := 19) hx hb hts (fun w h => List.mem_cons_of_mem _ (List.mem_append_left _ (List.mem_append_right _ (h)))) tyX6 tyX6_ok nmX6 hown hK hP hD hS 0 rfl rfl 16 (by decide) (hts (.fieldLink RX6 57 "NetcompareModel" "thrown" "I") (List.mem_cons_of_mem _ (List.mem_append_left _ (List.mem_append_left _ (List.mem_of_getElem? (i := 1) rfl))))) (fun _ h9 => h9) rfl (by decide +kernel) rfl rfl (Nat.le_of_ble_eq_true rfl) dX6_addPart_69 (fun H locs hP hD hS => ?_)
            have hP : va_P (dC, dI) vwCl [(k0, .inr (9, [.ref kN, .ref kA, .ref kO, .ref kK, .ref kV, .ref kG, .ref kP, .ref kC, .ref kD, .ref kE, .ref kF, .ref kX, .ref kY, .int 0, .ref kT, .ref kU, .int 1, .int 0, .int 0])), (kN, .inl (cI, 2, .inl (fun _ => 0))), (kA, .inl (cI, 2, .inl (fun _ => 0)))] _ := hP
            have hD : va_D A [(k0, .inr (9, [.ref kN, .ref kA, .ref kO, .ref kK, .ref kV, .ref kG, .ref kP, .ref kC, .ref kD, .ref kE, .ref kF, .ref kX, .ref kY, .int 0, .ref kT, .ref kU, .int 1, .int 0, .int 0])), (kN, .inl (cI, 2, .inl (fun _ => 0))), (kA, .inl (cI, 2, .inl (fun _ => 0)))] := hD
            refine lv_goto (tgt := 139) hx hb dX6_addPart_72 (by decide) ?_
            refine lv_aload_n hx hb dX6_addPart_139 rfl (lv_at hl 1 rfl) ?_
            refine va_get (D := (dC, dI)) (ci := 9) (v := .int 1) (C := RX6) (T := TX6) (N := 19) hx hb hts (fun w h => List.mem_cons_of_mem _ (List.mem_append_left _ (List.mem_append_right _ (h)))) hown hK hP 0 rfl rfl 16 (by decide) (hts (.fieldLink RX6 57 "NetcompareModel" "thrown" "I") (List.mem_cons_of_mem _ (List.mem_append_left _ (List.mem_append_left _ (List.mem_of_getElem? (i := 1) rfl))))) (fun _ h9 => h9) rfl dX6_addPart_140 ?_
            refine lv_if_le (tgt := 148) hx hb dX6_addPart_143 (by decide) (fun h9 => absurd h9 (by decide)) (fun _ => ?_)
            refine lv_iconst (v := (-1)) hx hb dX6_addPart_146 (by decide) ?_
            exact ret _ 1 _ _ _ _ _ _ (Or.inl (⟨rfl, Or.inr (Or.inr (Or.inr (⟨h3, h4⟩)))⟩)) (hP.sub [0] rfl) (hK.sub [] rfl) (hD.sub [0] (by decide) rfl) hS (Nat.le_of_ble_eq_true rfl) (Nat.le_of_ble_eq_true rfl) dX6_addPart_147
      · skip
        have hi5 : ¬ ((¬ (p2 < 1)) ∧ (¬ (999 < p2))) := fun q => hi9 ((fIn p2 1 999 1 999 (by decide) (by decide)).mpr q)
        refine lv_if_eq (tgt := 67) hx hb dX6_addPart_52 (by decide) (fun _ => ?_) (fun h9 => absurd (by decide) h9)
        refine lv_aload_n hx hb dX6_addPart_67 rfl (lv_at hl 1 rfl) ?_
        refine lv_iconst (v := 1) hx hb dX6_addPart_68 (by decide) ?_
        refine va_put (D := (dC, dI)) (ci := 9) (v := .int 1) (ty := .int) (C := RX6) (T := TX6) (N := 19) hx hb hts (fun w h => List.mem_cons_of_mem _ (List.mem_append_left _ (List.mem_append_right _ (h)))) tyX6 tyX6_ok nmX6 hown hK hP hD hS 0 rfl rfl 16 (by decide) (hts (.fieldLink RX6 57 "NetcompareModel" "thrown" "I") (List.mem_cons_of_mem _ (List.mem_append_left _ (List.mem_append_left _ (List.mem_of_getElem? (i := 1) rfl))))) (fun _ h9 => h9) rfl (by decide +kernel) rfl rfl (Nat.le_of_ble_eq_true rfl) dX6_addPart_69 (fun H locs hP hD hS => ?_)
        have hP : va_P (dC, dI) vwCl [(k0, .inr (9, [.ref kN, .ref kA, .ref kO, .ref kK, .ref kV, .ref kG, .ref kP, .ref kC, .ref kD, .ref kE, .ref kF, .ref kX, .ref kY, .int 0, .ref kT, .ref kU, .int 1, .int 0, .int 0])), (kN, .inl (cI, 2, .inl (fun _ => 0))), (kA, .inl (cI, 2, .inl (fun _ => 0)))] _ := hP
        have hD : va_D A [(k0, .inr (9, [.ref kN, .ref kA, .ref kO, .ref kK, .ref kV, .ref kG, .ref kP, .ref kC, .ref kD, .ref kE, .ref kF, .ref kX, .ref kY, .int 0, .ref kT, .ref kU, .int 1, .int 0, .int 0])), (kN, .inl (cI, 2, .inl (fun _ => 0))), (kA, .inl (cI, 2, .inl (fun _ => 0)))] := hD
        refine lv_goto (tgt := 139) hx hb dX6_addPart_72 (by decide) ?_
        refine lv_aload_n hx hb dX6_addPart_139 rfl (lv_at hl 1 rfl) ?_
        refine va_get (D := (dC, dI)) (ci := 9) (v := .int 1) (C := RX6) (T := TX6) (N := 19) hx hb hts (fun w h => List.mem_cons_of_mem _ (List.mem_append_left _ (List.mem_append_right _ (h)))) hown hK hP 0 rfl rfl 16 (by decide) (hts (.fieldLink RX6 57 "NetcompareModel" "thrown" "I") (List.mem_cons_of_mem _ (List.mem_append_left _ (List.mem_append_left _ (List.mem_of_getElem? (i := 1) rfl))))) (fun _ h9 => h9) rfl dX6_addPart_140 ?_
        refine lv_if_le (tgt := 148) hx hb dX6_addPart_143 (by decide) (fun h9 => absurd h9 (by decide)) (fun _ => ?_)
        refine lv_iconst (v := (-1)) hx hb dX6_addPart_146 (by decide) ?_
        exact ret _ 1 _ _ _ _ _ _ (Or.inl (⟨rfl, Or.inr (Or.inr (Or.inl (hi5)))⟩)) (hP.sub [0] rfl) (hK.sub [] rfl) (hD.sub [0] (by decide) rfl) hS (Nat.le_of_ble_eq_true rfl) (Nat.le_of_ble_eq_true rfl) dX6_addPart_147
    · skip
      subst hc
      have hP : va_P (dC, dI) vwCl [(k0, .inr (9, [.ref kN, .ref kA, .ref kO, .ref kK, .ref kV, .ref kG, .ref kP, .ref kC, .ref kD, .ref kE, .ref kF, .ref kX, .ref kY, .int 0, .ref kT, .ref kU, .int 0, .int 0, .int 0])), (kN, .inl (cI, 2, .inl (fun _ => 0))), (kA, .inl (cI, 2, .inl (fun _ => 0)))] _ := hP
      have hD : va_D A [(k0, .inr (9, [.ref kN, .ref kA, .ref kO, .ref kK, .ref kV, .ref kG, .ref kP, .ref kC, .ref kD, .ref kE, .ref kF, .ref kX, .ref kY, .int 0, .ref kT, .ref kU, .int 0, .int 0, .int 0])), (kN, .inl (cI, 2, .inl (fun _ => 0))), (kA, .inl (cI, 2, .inl (fun _ => 0)))] := hD
      refine lv_if_eq (tgt := 67) hx hb dX6_addPart_35 (by decide) (fun h9 => absurd h9 (by decide)) (fun _ => ?_)
      refine lv_iload hx hb dX6_addPart_38 (lv_at hl 0 rfl) ?_
      refine lv_if_eq (tgt := 67) hx hb dX6_addPart_40 (by decide) (fun h9 => absurd h9 (by decide)) (fun _ => ?_)
      refine lv_iload_n hx hb dX6_addPart_43 rfl (lv_at hl 4 rfl) ?_
      refine lv_i2l (v := p2.toInt64) hx hb dX6_addPart_44 rfl ?_
      refine lv_lconst (v := 1) hx hb dX6_addPart_45 (by decide) ?_
      refine lv_ldc2 (v := 999) hx hb hown (hts (.constantLong RX6 92 (999)) (List.mem_cons_of_mem _ (List.mem_append_left _ (List.mem_append_left _ (List.mem_of_getElem? (i := 0) rfl))))) dX6_addPart_46 ?_
      have hPc := hP.sub (ws' := []) [] rfl
      have hDc := hD.sub (ws' := []) [] (by decide) rfl
      have hKc := hK.sub (tys' := []) [] rfl
      have hFc := va_free (wc := []) hD hS hA [] rfl
      refine va_calli (va_runS (As := [.long p2.toInt64, .long 1, .long 999]) (rest := []) ⟨hx, hb, hml, hown, hts⟩ (kX6_in l dC dI p2.toInt64 1 999 H.size) (va_cwS 3 hts gX6_addPart_X6_in rfl rfl rfl (by decide +kernel) ⟨Nat.le_of_ble_eq_true rfl, Nat.le_of_ble_eq_true rfl⟩) (fPreS hN hZ hS (fun q h => hFc q h) hPc hKc hDc) rfl rfl hl.1 rfl (lv_room (Nat.le_of_ble_eq_true rfl)) dX6_addPart_49 ⟨Nat.le_of_ble_eq_true rfl, Nat.le_of_ble_eq_true rfl⟩) hS (fun q _ h => hFc q h) hFc (fun r u t H1 locs ht hvm hw hB hz1 hk1 hS => ?_)
      obtain ⟨hP1, hK1, hD1⟩ := hB
      rw [ht] at hP1
      have hK1 := va_K.moved hvm.symm hK1
      obtain ⟨hP, hD⟩ := va_join (wr := [(k0, .inr (9, [.ref kN, .ref kA, .ref kO, .ref kK, .ref kV, .ref kG, .ref kP, .ref kC, .ref kD, .ref kE, .ref kF, .ref kX, .ref kY, .int 0, .ref kT, .ref kU, .int 0, .int 0, .int 0])), (kN, .inl (cI, 2, .inl (fun _ => 0))), (kA, .inl (cI, 2, .inl (fun _ => 0)))]) (w1 := []) hP hD [] [0, 1, 2] rfl rfl (by decide) (by decide) hk1 hFc hP1 hD1
      generalize H1 = H at hP hS ⊢
      have hP : va_P (dC, dI) vwCl [(k0, .inr (9, [.ref kN, .ref kA, .ref kO, .ref kK, .ref kV, .ref kG, .ref kP, .ref kC, .ref kD, .ref kE, .ref kF, .ref kX, .ref kY, .int 0, .ref kT, .ref kU, .int 0, .int 0, .int 0])), (kN, .inl (cI, 2, .inl (fun _ => 0))), (kA, .inl (cI, 2, .inl (fun _ => 0)))] _ := hP
      have hD : va_D A [(k0, .inr (9, [.ref kN, .ref kA, .ref kO, .ref kK, .ref kV, .ref kG, .ref kP, .ref kC, .ref kD, .ref kE, .ref kF, .ref kX, .ref kY, .int 0, .ref kT, .ref kU, .int 0, .int 0, .int 0])), (kN, .inl (cI, 2, .inl (fun _ => 0))), (kA, .inl (cI, 2, .inl (fun _ => 0)))] := hD
      rcases hw with ⟨rfl, hi9⟩ | ⟨rfl, hi9⟩
      · skip
        have hi6 : ((¬ (p2 < 1)) ∧ (¬ (999 < p2))) := (fIn p2 1 999 1 999 (by decide) (by decide)).mp hi9
        refine lv_if_eq (tgt := 67) hx hb dX6_addPart_52 (by decide) (fun h9 => absurd h9 (by decide)) (fun _ => ?_)
        refine lv_iload_n hx hb dX6_addPart_55 rfl (lv_at hl 3 rfl) ?_
        refine lv_bipush (v := 116) hx hb dX6_addPart_56 (by decide) ?_
        refine lv_icmp_eq (tgt := 75) hx hb dX6_addPart_58 (by decide) (fun h7 => ?_) (fun h7 => ?_)
        · skip
          refine lv_aload_n hx hb dX6_addPart_75 rfl (lv_at hl 1 rfl) ?_
          refine lv_iload_n hx hb dX6_addPart_76 rfl (lv_at hl 2 rfl) ?_
          refine lv_iload hx hb dX6_addPart_77 (lv_at hl 5 rfl) ?_
          have hPc := hP.sub (ws' := [(k0, .inr (9, [.ref kN, .ref kA, .ref kO, .ref kK, .ref kV, .ref kG, .ref kP, .ref kC, .ref kD, .ref kE, .ref kF, .ref kX, .ref kY, .int 0, .ref kT, .ref kU, .int 0, .int 0, .int 0])), (kN, .inl (cI, 2, .inl (fun _ => 0)))]) [0, 1] rfl
          have hDc := hD.sub (ws' := [(k0, .inr (9, [.ref kN, .ref kA, .ref kO, .ref kK, .ref kV, .ref kG, .ref kP, .ref kC, .ref kD, .ref kE, .ref kF, .ref kX, .ref kY, .int 0, .ref kT, .ref kU, .int 0, .int 0, .int 0])), (kN, .inl (cI, 2, .inl (fun _ => 0)))]) [0, 1] (by decide) rfl
          have hKc := hK.sub (tys' := [(cI, .int)]) [0] rfl
          have hFc := va_free (wc := [(k0, .inr (9, [.ref kN, .ref kA, .ref kO, .ref kK, .ref kV, .ref kG, .ref kP, .ref kC, .ref kD, .ref kE, .ref kF, .ref kX, .ref kY, .int 0, .ref kT, .ref kU, .int 0, .int 0, .int 0])), (kN, .inl (cI, 2, .inl (fun _ => 0)))]) hD hS hA [0, 1] rfl
          refine va_calli (va_runV (As := [.int 1, .int p3]) (rest := []) ⟨hx, hb, hml, hown, hts⟩ (kX6_isNet1 l dC dI k0 kN kA kO kK kV kG kP kC kD kE kF kX kY kT kU cI p3 H.size) (cwV 2 hts gX6_addPart_X6_isNet rfl rfl rfl (by decide +kernel) ⟨Nat.le_of_ble_eq_true rfl, Nat.le_of_ble_eq_true rfl⟩) (fPreV hN hZ hS (fun q h => hFc q h) hPc hKc hDc (ci := 9) (q0 := 0) rfl rfl) rfl rfl hl.1 rfl (lv_room (Nat.le_of_ble_eq_true rfl)) dX6_addPart_79 ⟨Nat.le_of_ble_eq_true rfl, Nat.le_of_ble_eq_true rfl⟩) hS (fun q _ h => hFc q h) hFc (fun r u t H1 locs ht hvm hw hB hz1 hk1 hS => ?_)
          obtain ⟨hP1, hK1, hD1⟩ := hB
          rw [ht] at hP1
          have hK1 := va_K.moved hvm.symm hK1
          obtain ⟨hP, hD⟩ := va_join (wr := [(kA, .inl (cI, 2, .inl (fun _ => 0)))]) (w1 := [(k0, .inr (9, [.ref kN, .ref kA, .ref kO, .ref kK, .ref kV, .ref kG, .ref kP, .ref kC, .ref kD, .ref kE, .ref kF, .ref kX, .ref kY, .int 0, .ref kT, .ref kU, .int 0, .int 0, .int 0])), (kN, .inl (cI, 2, .inl (fun _ => 0)))]) hP hD [0, 1] [2] rfl rfl (by decide) (by decide) hk1 hFc hP1 hD1
          generalize H1 = H at hP hS ⊢
          have hP : va_P (dC, dI) vwCl [(kA, .inl (cI, 2, .inl (fun _ => 0))), (k0, .inr (9, [.ref kN, .ref kA, .ref kO, .ref kK, .ref kV, .ref kG, .ref kP, .ref kC, .ref kD, .ref kE, .ref kF, .ref kX, .ref kY, .int 0, .ref kT, .ref kU, .int 0, .int 0, .int 0])), (kN, .inl (cI, 2, .inl (fun _ => 0)))] _ := hP
          have hD : va_D A [(kA, .inl (cI, 2, .inl (fun _ => 0))), (k0, .inr (9, [.ref kN, .ref kA, .ref kO, .ref kK, .ref kV, .ref kG, .ref kP, .ref kC, .ref kD, .ref kE, .ref kF, .ref kX, .ref kY, .int 0, .ref kT, .ref kU, .int 0, .int 0, .int 0])), (kN, .inl (cI, 2, .inl (fun _ => 0)))] := hD
          subst hw
          refine lv_if_eq (tgt := 111) hx hb dX6_addPart_82 (by decide) (fun _ => ?_) (fun h9 => absurd (by decide) h9)
          refine lv_aload_n hx hb dX6_addPart_111 rfl (lv_at hl 1 rfl) ?_
          refine lv_iconst (v := 2) hx hb dX6_addPart_112 (by decide) ?_
          refine va_put (D := (dC, dI)) (ci := 9) (v := .int 2) (ty := .int) (C := RX6) (T := TX6) (N := 19) hx hb hts (fun w h => List.mem_cons_of_mem _ (List.mem_append_left _ (List.mem_append_right _ (h)))) tyX6 tyX6_ok nmX6 hown hK hP hD hS 1 rfl rfl 16 (by decide) (hts (.fieldLink RX6 57 "NetcompareModel" "thrown" "I") (List.mem_cons_of_mem _ (List.mem_append_left _ (List.mem_append_left _ (List.mem_of_getElem? (i := 1) rfl))))) (fun _ h9 => h9) rfl (by decide +kernel) rfl rfl (Nat.le_of_ble_eq_true rfl) dX6_addPart_113 (fun H locs hP hD hS => ?_)
          have hP : va_P (dC, dI) vwCl [(kA, .inl (cI, 2, .inl (fun _ => 0))), (k0, .inr (9, [.ref kN, .ref kA, .ref kO, .ref kK, .ref kV, .ref kG, .ref kP, .ref kC, .ref kD, .ref kE, .ref kF, .ref kX, .ref kY, .int 0, .ref kT, .ref kU, .int 2, .int 0, .int 0])), (kN, .inl (cI, 2, .inl (fun _ => 0)))] _ := hP
          have hD : va_D A [(kA, .inl (cI, 2, .inl (fun _ => 0))), (k0, .inr (9, [.ref kN, .ref kA, .ref kO, .ref kK, .ref kV, .ref kG, .ref kP, .ref kC, .ref kD, .ref kE, .ref kF, .ref kX, .ref kY, .int 0, .ref kT, .ref kU, .int 2, .int 0, .int 0])), (kN, .inl (cI, 2, .inl (fun _ => 0)))] := hD
          refine lv_goto (tgt := 139) hx hb dX6_addPart_116 (by decide) ?_
          refine lv_aload_n hx hb dX6_addPart_139 rfl (lv_at hl 1 rfl) ?_
          refine va_get (D := (dC, dI)) (ci := 9) (v := .int 2) (C := RX6) (T := TX6) (N := 19) hx hb hts (fun w h => List.mem_cons_of_mem _ (List.mem_append_left _ (List.mem_append_right _ (h)))) hown hK hP 1 rfl rfl 16 (by decide) (hts (.fieldLink RX6 57 "NetcompareModel" "thrown" "I") (List.mem_cons_of_mem _ (List.mem_append_left _ (List.mem_append_left _ (List.mem_of_getElem? (i := 1) rfl))))) (fun _ h9 => h9) rfl dX6_addPart_140 ?_
          refine lv_if_le (tgt := 148) hx hb dX6_addPart_143 (by decide) (fun h9 => absurd h9 (by decide)) (fun _ => ?_)
          refine lv_iconst (v := (-1)) hx hb dX6_addPart_146 (by decide) ?_
          exact ret _ 2 _ _ _ _ _ _ (Or.inr (⟨rfl, (fun h9 => h9.elim ((fun h9 => h9 (Or.inr (rfl)))) ((fun h9 => h9.elim ((fun h9 => h9 (Or.inl (h1)))) ((fun h9 => h9.elim ((fun h9 => h9 (hi6))) ((fun h9 => ((fun h9 => h9 (h7))) h9.1)))))))⟩)) (hP.sub [1] rfl) (hK.sub [] rfl) (hD.sub [1] (by decide) rfl) hS (Nat.le_of_ble_eq_true rfl) (Nat.le_of_ble_eq_true rfl) dX6_addPart_147
        · skip
          refine lv_iload hx hb dX6_addPart_61 (lv_at hl 7 rfl) ?_
          refine lv_iconst (v := (-1)) hx hb dX6_addPart_63 (by decide) ?_
          refine lv_icmp_eq (tgt := 75) hx hb dX6_addPart_64 (by decide) (fun h8 => ?_) (fun h8 => ?_)
          · skip
            refine lv_aload_n hx hb dX6_addPart_75 rfl (lv_at hl 1 rfl) ?_
            refine lv_iload_n hx hb dX6_addPart_76 rfl (lv_at hl 2 rfl) ?_
            refine lv_iload hx hb dX6_addPart_77 (lv_at hl 5 rfl) ?_
            have hPc := hP.sub (ws' := [(k0, .inr (9, [.ref kN, .ref kA, .ref kO, .ref kK, .ref kV, .ref kG, .ref kP, .ref kC, .ref kD, .ref kE, .ref kF, .ref kX, .ref kY, .int 0, .ref kT, .ref kU, .int 0, .int 0, .int 0])), (kN, .inl (cI, 2, .inl (fun _ => 0)))]) [0, 1] rfl
            have hDc := hD.sub (ws' := [(k0, .inr (9, [.ref kN, .ref kA, .ref kO, .ref kK, .ref kV, .ref kG, .ref kP, .ref kC, .ref kD, .ref kE, .ref kF, .ref kX, .ref kY, .int 0, .ref kT, .ref kU, .int 0, .int 0, .int 0])), (kN, .inl (cI, 2, .inl (fun _ => 0)))]) [0, 1] (by decide) rfl
            have hKc := hK.sub (tys' := [(cI, .int)]) [0] rfl
            have hFc := va_free (wc := [(k0, .inr (9, [.ref kN, .ref kA, .ref kO, .ref kK, .ref kV, .ref kG, .ref kP, .ref kC, .ref kD, .ref kE, .ref kF, .ref kX, .ref kY, .int 0, .ref kT, .ref kU, .int 0, .int 0, .int 0])), (kN, .inl (cI, 2, .inl (fun _ => 0)))]) hD hS hA [0, 1] rfl
            refine va_calli (va_runV (As := [.int 1, .int p3]) (rest := []) ⟨hx, hb, hml, hown, hts⟩ (kX6_isNet1 l dC dI k0 kN kA kO kK kV kG kP kC kD kE kF kX kY kT kU cI p3 H.size) (cwV 2 hts gX6_addPart_X6_isNet rfl rfl rfl (by decide +kernel) ⟨Nat.le_of_ble_eq_true rfl, Nat.le_of_ble_eq_true rfl⟩) (fPreV hN hZ hS (fun q h => hFc q h) hPc hKc hDc (ci := 9) (q0 := 0) rfl rfl) rfl rfl hl.1 rfl (lv_room (Nat.le_of_ble_eq_true rfl)) dX6_addPart_79 ⟨Nat.le_of_ble_eq_true rfl, Nat.le_of_ble_eq_true rfl⟩) hS (fun q _ h => hFc q h) hFc (fun r u t H1 locs ht hvm hw hB hz1 hk1 hS => ?_)
            obtain ⟨hP1, hK1, hD1⟩ := hB
            rw [ht] at hP1
            have hK1 := va_K.moved hvm.symm hK1
            obtain ⟨hP, hD⟩ := va_join (wr := [(kA, .inl (cI, 2, .inl (fun _ => 0)))]) (w1 := [(k0, .inr (9, [.ref kN, .ref kA, .ref kO, .ref kK, .ref kV, .ref kG, .ref kP, .ref kC, .ref kD, .ref kE, .ref kF, .ref kX, .ref kY, .int 0, .ref kT, .ref kU, .int 0, .int 0, .int 0])), (kN, .inl (cI, 2, .inl (fun _ => 0)))]) hP hD [0, 1] [2] rfl rfl (by decide) (by decide) hk1 hFc hP1 hD1
            generalize H1 = H at hP hS ⊢
            have hP : va_P (dC, dI) vwCl [(kA, .inl (cI, 2, .inl (fun _ => 0))), (k0, .inr (9, [.ref kN, .ref kA, .ref kO, .ref kK, .ref kV, .ref kG, .ref kP, .ref kC, .ref kD, .ref kE, .ref kF, .ref kX, .ref kY, .int 0, .ref kT, .ref kU, .int 0, .int 0, .int 0])), (kN, .inl (cI, 2, .inl (fun _ => 0)))] _ := hP
            have hD : va_D A [(kA, .inl (cI, 2, .inl (fun _ => 0))), (k0, .inr (9, [.ref kN, .ref kA, .ref kO, .ref kK, .ref kV, .ref kG, .ref kP, .ref kC, .ref kD, .ref kE, .ref kF, .ref kX, .ref kY, .int 0, .ref kT, .ref kU, .int 0, .int 0, .int 0])), (kN, .inl (cI, 2, .inl (fun _ => 0)))] := hD
            subst hw
            refine lv_if_eq (tgt := 111) hx hb dX6_addPart_82 (by decide) (fun _ => ?_) (fun h9 => absurd (by decide) h9)
            refine lv_aload_n hx hb dX6_addPart_111 rfl (lv_at hl 1 rfl) ?_
            refine lv_iconst (v := 2) hx hb dX6_addPart_112 (by decide) ?_
            refine va_put (D := (dC, dI)) (ci := 9) (v := .int 2) (ty := .int) (C := RX6) (T := TX6) (N := 19) hx hb hts (fun w h => List.mem_cons_of_mem _ (List.mem_append_left _ (List.mem_append_right _ (h)))) tyX6 tyX6_ok nmX6 hown hK hP hD hS 1 rfl rfl 16 (by decide) (hts (.fieldLink RX6 57 "NetcompareModel" "thrown" "I") (List.mem_cons_of_mem _ (List.mem_append_left _ (List.mem_append_left _ (List.mem_of_getElem? (i := 1) rfl))))) (fun _ h9 => h9) rfl (by decide +kernel) rfl rfl (Nat.le_of_ble_eq_true rfl) dX6_addPart_113 (fun H locs hP hD hS => ?_)
            have hP : va_P (dC, dI) vwCl [(kA, .inl (cI, 2, .inl (fun _ => 0))), (k0, .inr (9, [.ref kN, .ref kA, .ref kO, .ref kK, .ref kV, .ref kG, .ref kP, .ref kC, .ref kD, .ref kE, .ref kF, .ref kX, .ref kY, .int 0, .ref kT, .ref kU, .int 2, .int 0, .int 0])), (kN, .inl (cI, 2, .inl (fun _ => 0)))] _ := hP
            have hD : va_D A [(kA, .inl (cI, 2, .inl (fun _ => 0))), (k0, .inr (9, [.ref kN, .ref kA, .ref kO, .ref kK, .ref kV, .ref kG, .ref kP, .ref kC, .ref kD, .ref kE, .ref kF, .ref kX, .ref kY, .int 0, .ref kT, .ref kU, .int 2, .int 0, .int 0])), (kN, .inl (cI, 2, .inl (fun _ => 0)))] := hD
            refine lv_goto (tgt := 139) hx hb dX6_addPart_116 (by decide) ?_
            refine lv_aload_n hx hb dX6_addPart_139 rfl (lv_at hl 1 rfl) ?_
            refine va_get (D := (dC, dI)) (ci := 9) (v := .int 2) (C := RX6) (T := TX6) (N := 19) hx hb hts (fun w h => List.mem_cons_of_mem _ (List.mem_append_left _ (List.mem_append_right _ (h)))) hown hK hP 1 rfl rfl 16 (by decide) (hts (.fieldLink RX6 57 "NetcompareModel" "thrown" "I") (List.mem_cons_of_mem _ (List.mem_append_left _ (List.mem_append_left _ (List.mem_of_getElem? (i := 1) rfl))))) (fun _ h9 => h9) rfl dX6_addPart_140 ?_
            refine lv_if_le (tgt := 148) hx hb dX6_addPart_143 (by decide) (fun h9 => absurd h9 (by decide)) (fun _ => ?_)
            refine lv_iconst (v := (-1)) hx hb dX6_addPart_146 (by decide) ?_
            exact ret _ 2 _ _ _ _ _ _ (Or.inr (⟨rfl, (fun h9 => h9.elim ((fun h9 => h9 (Or.inr (rfl)))) ((fun h9 => h9.elim ((fun h9 => h9 (Or.inl (h1)))) ((fun h9 => h9.elim ((fun h9 => h9 (hi6))) ((fun h9 => ((fun h9 => h9 (h8))) h9.2)))))))⟩)) (hP.sub [1] rfl) (hK.sub [] rfl) (hD.sub [1] (by decide) rfl) hS (Nat.le_of_ble_eq_true rfl) (Nat.le_of_ble_eq_true rfl) dX6_addPart_147
          · skip
            refine lv_aload_n hx hb dX6_addPart_67 rfl (lv_at hl 1 rfl) ?_
            refine lv_iconst (v := 1) hx hb dX6_addPart_68 (by decide) ?_
            refine va_put (D := (dC, dI)) (ci := 9) (v := .int 1) (ty := .int) (C := RX6) (T := TX6) (N := 19) hx hb hts (fun w h => List.mem_cons_of_mem _ (List.mem_append_left _ (List.mem_append_right _ (h)))) tyX6 tyX6_ok nmX6 hown hK hP hD hS 0 rfl rfl 16 (by decide) (hts (.fieldLink RX6 57 "NetcompareModel" "thrown" "I") (List.mem_cons_of_mem _ (List.mem_append_left _ (List.mem_append_left _ (List.mem_of_getElem? (i := 1) rfl))))) (fun _ h9 => h9) rfl (by decide +kernel) rfl rfl (Nat.le_of_ble_eq_true rfl) dX6_addPart_69 (fun H locs hP hD hS => ?_)
            have hP : va_P (dC, dI) vwCl [(k0, .inr (9, [.ref kN, .ref kA, .ref kO, .ref kK, .ref kV, .ref kG, .ref kP, .ref kC, .ref kD, .ref kE, .ref kF, .ref kX, .ref kY, .int 0, .ref kT, .ref kU, .int 1, .int 0, .int 0])), (kN, .inl (cI, 2, .inl (fun _ => 0))), (kA, .inl (cI, 2, .inl (fun _ => 0)))] _ := hP
            have hD : va_D A [(k0, .inr (9, [.ref kN, .ref kA, .ref kO, .ref kK, .ref kV, .ref kG, .ref kP, .ref kC, .ref kD, .ref kE, .ref kF, .ref kX, .ref kY, .int 0, .ref kT, .ref kU, .int 1, .int 0, .int 0])), (kN, .inl (cI, 2, .inl (fun _ => 0))), (kA, .inl (cI, 2, .inl (fun _ => 0)))] := hD
            refine lv_goto (tgt := 139) hx hb dX6_addPart_72 (by decide) ?_
            refine lv_aload_n hx hb dX6_addPart_139 rfl (lv_at hl 1 rfl) ?_
            refine va_get (D := (dC, dI)) (ci := 9) (v := .int 1) (C := RX6) (T := TX6) (N := 19) hx hb hts (fun w h => List.mem_cons_of_mem _ (List.mem_append_left _ (List.mem_append_right _ (h)))) hown hK hP 0 rfl rfl 16 (by decide) (hts (.fieldLink RX6 57 "NetcompareModel" "thrown" "I") (List.mem_cons_of_mem _ (List.mem_append_left _ (List.mem_append_left _ (List.mem_of_getElem? (i := 1) rfl))))) (fun _ h9 => h9) rfl dX6_addPart_140 ?_
            refine lv_if_le (tgt := 148) hx hb dX6_addPart_143 (by decide) (fun h9 => absurd h9 (by decide)) (fun _ => ?_)
            refine lv_iconst (v := (-1)) hx hb dX6_addPart_146 (by decide) ?_
            exact ret _ 1 _ _ _ _ _ _ (Or.inl (⟨rfl, Or.inr (Or.inr (Or.inr (⟨h7, h8⟩)))⟩)) (hP.sub [0] rfl) (hK.sub [] rfl) (hD.sub [0] (by decide) rfl) hS (Nat.le_of_ble_eq_true rfl) (Nat.le_of_ble_eq_true rfl) dX6_addPart_147
      · skip
        have hi10 : ¬ ((¬ (p2 < 1)) ∧ (¬ (999 < p2))) := fun q => hi9 ((fIn p2 1 999 1 999 (by decide) (by decide)).mpr q)
        refine lv_if_eq (tgt := 67) hx hb dX6_addPart_52 (by decide) (fun _ => ?_) (fun h9 => absurd (by decide) h9)
        refine lv_aload_n hx hb dX6_addPart_67 rfl (lv_at hl 1 rfl) ?_
        refine lv_iconst (v := 1) hx hb dX6_addPart_68 (by decide) ?_
        refine va_put (D := (dC, dI)) (ci := 9) (v := .int 1) (ty := .int) (C := RX6) (T := TX6) (N := 19) hx hb hts (fun w h => List.mem_cons_of_mem _ (List.mem_append_left _ (List.mem_append_right _ (h)))) tyX6 tyX6_ok nmX6 hown hK hP hD hS 0 rfl rfl 16 (by decide) (hts (.fieldLink RX6 57 "NetcompareModel" "thrown" "I") (List.mem_cons_of_mem _ (List.mem_append_left _ (List.mem_append_left _ (List.mem_of_getElem? (i := 1) rfl))))) (fun _ h9 => h9) rfl (by decide +kernel) rfl rfl (Nat.le_of_ble_eq_true rfl) dX6_addPart_69 (fun H locs hP hD hS => ?_)
        have hP : va_P (dC, dI) vwCl [(k0, .inr (9, [.ref kN, .ref kA, .ref kO, .ref kK, .ref kV, .ref kG, .ref kP, .ref kC, .ref kD, .ref kE, .ref kF, .ref kX, .ref kY, .int 0, .ref kT, .ref kU, .int 1, .int 0, .int 0])), (kN, .inl (cI, 2, .inl (fun _ => 0))), (kA, .inl (cI, 2, .inl (fun _ => 0)))] _ := hP
        have hD : va_D A [(k0, .inr (9, [.ref kN, .ref kA, .ref kO, .ref kK, .ref kV, .ref kG, .ref kP, .ref kC, .ref kD, .ref kE, .ref kF, .ref kX, .ref kY, .int 0, .ref kT, .ref kU, .int 1, .int 0, .int 0])), (kN, .inl (cI, 2, .inl (fun _ => 0))), (kA, .inl (cI, 2, .inl (fun _ => 0)))] := hD
        refine lv_goto (tgt := 139) hx hb dX6_addPart_72 (by decide) ?_
        refine lv_aload_n hx hb dX6_addPart_139 rfl (lv_at hl 1 rfl) ?_
        refine va_get (D := (dC, dI)) (ci := 9) (v := .int 1) (C := RX6) (T := TX6) (N := 19) hx hb hts (fun w h => List.mem_cons_of_mem _ (List.mem_append_left _ (List.mem_append_right _ (h)))) hown hK hP 0 rfl rfl 16 (by decide) (hts (.fieldLink RX6 57 "NetcompareModel" "thrown" "I") (List.mem_cons_of_mem _ (List.mem_append_left _ (List.mem_append_left _ (List.mem_of_getElem? (i := 1) rfl))))) (fun _ h9 => h9) rfl dX6_addPart_140 ?_
        refine lv_if_le (tgt := 148) hx hb dX6_addPart_143 (by decide) (fun h9 => absurd h9 (by decide)) (fun _ => ?_)
        refine lv_iconst (v := (-1)) hx hb dX6_addPart_146 (by decide) ?_
        exact ret _ 1 _ _ _ _ _ _ (Or.inl (⟨rfl, Or.inr (Or.inr (Or.inl (hi10)))⟩)) (hP.sub [0] rfl) (hK.sub [] rfl) (hD.sub [0] (by decide) rfl) hS (Nat.le_of_ble_eq_true rfl) (Nat.le_of_ble_eq_true rfl) dX6_addPart_147
    · skip
      have hc11 := hc
      refine lv_if_eq (tgt := 67) hx hb dX6_addPart_35 (by decide) (fun _ => ?_) (fun h9 => absurd (by decide) h9)
      refine lv_aload_n hx hb dX6_addPart_67 rfl (lv_at hl 1 rfl) ?_
      refine lv_iconst (v := 1) hx hb dX6_addPart_68 (by decide) ?_
      refine va_put (D := (dC, dI)) (ci := 9) (v := .int 1) (ty := .int) (C := RX6) (T := TX6) (N := 19) hx hb hts (fun w h => List.mem_cons_of_mem _ (List.mem_append_left _ (List.mem_append_right _ (h)))) tyX6 tyX6_ok nmX6 hown hK hP hD hS 0 rfl rfl 16 (by decide) (hts (.fieldLink RX6 57 "NetcompareModel" "thrown" "I") (List.mem_cons_of_mem _ (List.mem_append_left _ (List.mem_append_left _ (List.mem_of_getElem? (i := 1) rfl))))) (fun _ h9 => h9) rfl (by decide +kernel) rfl rfl (Nat.le_of_ble_eq_true rfl) dX6_addPart_69 (fun H locs hP hD hS => ?_)
      have hP : va_P (dC, dI) vwCl [(k0, .inr (9, [.ref kN, .ref kA, .ref kO, .ref kK, .ref kV, .ref kG, .ref kP, .ref kC, .ref kD, .ref kE, .ref kF, .ref kX, .ref kY, .int 0, .ref kT, .ref kU, .int 1, .int 0, .int 0])), (kN, .inl (cI, 2, .inl (fun _ => 0))), (kA, .inl (cI, 2, .inl (fun _ => 0)))] _ := hP
      have hD : va_D A [(k0, .inr (9, [.ref kN, .ref kA, .ref kO, .ref kK, .ref kV, .ref kG, .ref kP, .ref kC, .ref kD, .ref kE, .ref kF, .ref kX, .ref kY, .int 0, .ref kT, .ref kU, .int 1, .int 0, .int 0])), (kN, .inl (cI, 2, .inl (fun _ => 0))), (kA, .inl (cI, 2, .inl (fun _ => 0)))] := hD
      refine lv_goto (tgt := 139) hx hb dX6_addPart_72 (by decide) ?_
      refine lv_aload_n hx hb dX6_addPart_139 rfl (lv_at hl 1 rfl) ?_
      refine va_get (D := (dC, dI)) (ci := 9) (v := .int 1) (C := RX6) (T := TX6) (N := 19) hx hb hts (fun w h => List.mem_cons_of_mem _ (List.mem_append_left _ (List.mem_append_right _ (h)))) hown hK hP 0 rfl rfl 16 (by decide) (hts (.fieldLink RX6 57 "NetcompareModel" "thrown" "I") (List.mem_cons_of_mem _ (List.mem_append_left _ (List.mem_append_left _ (List.mem_of_getElem? (i := 1) rfl))))) (fun _ h9 => h9) rfl dX6_addPart_140 ?_
      refine lv_if_le (tgt := 148) hx hb dX6_addPart_143 (by decide) (fun h9 => absurd h9 (by decide)) (fun _ => ?_)
      refine lv_iconst (v := (-1)) hx hb dX6_addPart_146 (by decide) ?_
      exact ret _ 1 _ _ _ _ _ _ (Or.inl (⟨rfl, Or.inl (hc11)⟩)) (hP.sub [0] rfl) (hK.sub [] rfl) (hD.sub [0] (by decide) rfl) hS (Nat.le_of_ble_eq_true rfl) (Nat.le_of_ble_eq_true rfl) dX6_addPart_147
  · skip
    refine lv_iload_n hx hb dX6_addPart_6 rfl (lv_at hl 2 rfl) ?_
    refine lv_bipush (v := 99) hx hb dX6_addPart_7 (by decide) ?_
    refine lv_icmp_eq (tgt := 24) hx hb dX6_addPart_9 (by decide) (fun h12 => ?_) (fun h12 => ?_)
    · skip
      refine lv_iconst (v := 1) hx hb dX6_addPart_24 (by decide) ?_
      refine lv_goto (tgt := 29) hx hb dX6_addPart_25 (by decide) ?_
      refine lv_istore (lv' := [(7, .int 1), (0, .ref k0), (1, .int p0), (2, .int p1), (3, .int p2), (4, .int p3), (5, .int p4), (6, .int p5)]) hx hb dX6_addPart_29 hl (Nat.le_of_ble_eq_true rfl) rfl (fun ls hl => ?_)
      refine lv_iload_n hx hb dX6_addPart_31 rfl (lv_at hl 2 rfl) ?_
      have hPc := hP.sub (ws' := []) [] rfl
      have hDc := hD.sub (ws' := []) [] (by decide) rfl
      have hKc := hK.sub (tys' := []) [] rfl
      have hFc := va_free (wc := []) hD hS hA [] rfl
      refine va_calli (va_runS (As := [.int p0]) (rest := []) ⟨hx, hb, hml, hown, hts⟩ (kX6_isCircuit l dC dI p0 s.heap.size) (va_cwS 1 hts gX6_addPart_X6_isCircuit rfl rfl rfl (by decide +kernel) ⟨Nat.le_of_ble_eq_true rfl, Nat.le_of_ble_eq_true rfl⟩) (fPreS hN hZ hS (fun q h => hFc q h) hPc hKc hDc) rfl rfl hl.1 rfl (lv_room (Nat.le_of_ble_eq_true rfl)) dX6_addPart_32 ⟨Nat.le_of_ble_eq_true rfl, Nat.le_of_ble_eq_true rfl⟩) hS (fun q _ h => hFc q h) hFc (fun r u t H1 locs ht hvm hw hB hz1 hk1 hS => ?_)
      obtain ⟨hP1, hK1, hD1⟩ := hB
      rw [ht] at hP1
      have hK1 := va_K.moved hvm.symm hK1
      obtain ⟨hP, hD⟩ := va_join (wr := [(k0, .inr (9, [.ref kN, .ref kA, .ref kO, .ref kK, .ref kV, .ref kG, .ref kP, .ref kC, .ref kD, .ref kE, .ref kF, .ref kX, .ref kY, .int 0, .ref kT, .ref kU, .int 0, .int 0, .int 0])), (kN, .inl (cI, 2, .inl (fun _ => 0))), (kA, .inl (cI, 2, .inl (fun _ => 0)))]) (w1 := []) hP hD [] [0, 1, 2] rfl rfl (by decide) (by decide) hk1 hFc hP1 hD1
      generalize H1 = H at hP hS ⊢
      have hP : va_P (dC, dI) vwCl [(k0, .inr (9, [.ref kN, .ref kA, .ref kO, .ref kK, .ref kV, .ref kG, .ref kP, .ref kC, .ref kD, .ref kE, .ref kF, .ref kX, .ref kY, .int 0, .ref kT, .ref kU, .int 0, .int 0, .int 0])), (kN, .inl (cI, 2, .inl (fun _ => 0))), (kA, .inl (cI, 2, .inl (fun _ => 0)))] _ := hP
      have hD : va_D A [(k0, .inr (9, [.ref kN, .ref kA, .ref kO, .ref kK, .ref kV, .ref kG, .ref kP, .ref kC, .ref kD, .ref kE, .ref kF, .ref kX, .ref kY, .int 0, .ref kT, .ref kU, .int 0, .int 0, .int 0])), (kN, .inl (cI, 2, .inl (fun _ => 0))), (kA, .inl (cI, 2, .inl (fun _ => 0)))] := hD
      rcases hw with ⟨rfl, hc | hc⟩ | ⟨rfl, hc⟩
      · skip
        subst hc
        have hP : va_P (dC, dI) vwCl [(k0, .inr (9, [.ref kN, .ref kA, .ref kO, .ref kK, .ref kV, .ref kG, .ref kP, .ref kC, .ref kD, .ref kE, .ref kF, .ref kX, .ref kY, .int 0, .ref kT, .ref kU, .int 0, .int 0, .int 0])), (kN, .inl (cI, 2, .inl (fun _ => 0))), (kA, .inl (cI, 2, .inl (fun _ => 0)))] _ := hP
        have hD : va_D A [(k0, .inr (9, [.ref kN, .ref kA, .ref kO, .ref kK, .ref kV, .ref kG, .ref kP, .ref kC, .ref kD, .ref kE, .ref kF, .ref kX, .ref kY, .int 0, .ref kT, .ref kU, .int 0, .int 0, .int 0])), (kN, .inl (cI, 2, .inl (fun _ => 0))), (kA, .inl (cI, 2, .inl (fun _ => 0)))] := hD
        refine lv_if_eq (tgt := 67) hx hb dX6_addPart_35 (by decide) (fun h9 => absurd h9 (by decide)) (fun _ => ?_)
        refine lv_iload hx hb dX6_addPart_38 (lv_at hl 0 rfl) ?_
        refine lv_if_eq (tgt := 67) hx hb dX6_addPart_40 (by decide) (fun h9 => absurd h9 (by decide)) (fun _ => ?_)
        refine lv_iload_n hx hb dX6_addPart_43 rfl (lv_at hl 4 rfl) ?_
        refine lv_i2l (v := p2.toInt64) hx hb dX6_addPart_44 rfl ?_
        refine lv_lconst (v := 1) hx hb dX6_addPart_45 (by decide) ?_
        refine lv_ldc2 (v := 999) hx hb hown (hts (.constantLong RX6 92 (999)) (List.mem_cons_of_mem _ (List.mem_append_left _ (List.mem_append_left _ (List.mem_of_getElem? (i := 0) rfl))))) dX6_addPart_46 ?_
        have hPc := hP.sub (ws' := []) [] rfl
        have hDc := hD.sub (ws' := []) [] (by decide) rfl
        have hKc := hK.sub (tys' := []) [] rfl
        have hFc := va_free (wc := []) hD hS hA [] rfl
        refine va_calli (va_runS (As := [.long p2.toInt64, .long 1, .long 999]) (rest := []) ⟨hx, hb, hml, hown, hts⟩ (kX6_in l dC dI p2.toInt64 1 999 H.size) (va_cwS 3 hts gX6_addPart_X6_in rfl rfl rfl (by decide +kernel) ⟨Nat.le_of_ble_eq_true rfl, Nat.le_of_ble_eq_true rfl⟩) (fPreS hN hZ hS (fun q h => hFc q h) hPc hKc hDc) rfl rfl hl.1 rfl (lv_room (Nat.le_of_ble_eq_true rfl)) dX6_addPart_49 ⟨Nat.le_of_ble_eq_true rfl, Nat.le_of_ble_eq_true rfl⟩) hS (fun q _ h => hFc q h) hFc (fun r u t H1 locs ht hvm hw hB hz1 hk1 hS => ?_)
        obtain ⟨hP1, hK1, hD1⟩ := hB
        rw [ht] at hP1
        have hK1 := va_K.moved hvm.symm hK1
        obtain ⟨hP, hD⟩ := va_join (wr := [(k0, .inr (9, [.ref kN, .ref kA, .ref kO, .ref kK, .ref kV, .ref kG, .ref kP, .ref kC, .ref kD, .ref kE, .ref kF, .ref kX, .ref kY, .int 0, .ref kT, .ref kU, .int 0, .int 0, .int 0])), (kN, .inl (cI, 2, .inl (fun _ => 0))), (kA, .inl (cI, 2, .inl (fun _ => 0)))]) (w1 := []) hP hD [] [0, 1, 2] rfl rfl (by decide) (by decide) hk1 hFc hP1 hD1
        generalize H1 = H at hP hS ⊢
        have hP : va_P (dC, dI) vwCl [(k0, .inr (9, [.ref kN, .ref kA, .ref kO, .ref kK, .ref kV, .ref kG, .ref kP, .ref kC, .ref kD, .ref kE, .ref kF, .ref kX, .ref kY, .int 0, .ref kT, .ref kU, .int 0, .int 0, .int 0])), (kN, .inl (cI, 2, .inl (fun _ => 0))), (kA, .inl (cI, 2, .inl (fun _ => 0)))] _ := hP
        have hD : va_D A [(k0, .inr (9, [.ref kN, .ref kA, .ref kO, .ref kK, .ref kV, .ref kG, .ref kP, .ref kC, .ref kD, .ref kE, .ref kF, .ref kX, .ref kY, .int 0, .ref kT, .ref kU, .int 0, .int 0, .int 0])), (kN, .inl (cI, 2, .inl (fun _ => 0))), (kA, .inl (cI, 2, .inl (fun _ => 0)))] := hD
        rcases hw with ⟨rfl, hi9⟩ | ⟨rfl, hi9⟩
        · skip
          have hi13 : ((¬ (p2 < 1)) ∧ (¬ (999 < p2))) := (fIn p2 1 999 1 999 (by decide) (by decide)).mp hi9
          refine lv_if_eq (tgt := 67) hx hb dX6_addPart_52 (by decide) (fun h9 => absurd h9 (by decide)) (fun _ => ?_)
          refine lv_iload_n hx hb dX6_addPart_55 rfl (lv_at hl 3 rfl) ?_
          refine lv_bipush (v := 116) hx hb dX6_addPart_56 (by decide) ?_
          refine lv_icmp_eq (tgt := 75) hx hb dX6_addPart_58 (by decide) (fun h14 => ?_) (fun h14 => ?_)
          · skip
            refine lv_aload_n hx hb dX6_addPart_75 rfl (lv_at hl 1 rfl) ?_
            refine lv_iload_n hx hb dX6_addPart_76 rfl (lv_at hl 2 rfl) ?_
            refine lv_iload hx hb dX6_addPart_77 (lv_at hl 5 rfl) ?_
            have hPc := hP.sub (ws' := [(k0, .inr (9, [.ref kN, .ref kA, .ref kO, .ref kK, .ref kV, .ref kG, .ref kP, .ref kC, .ref kD, .ref kE, .ref kF, .ref kX, .ref kY, .int 0, .ref kT, .ref kU, .int 0, .int 0, .int 0])), (kN, .inl (cI, 2, .inl (fun _ => 0)))]) [0, 1] rfl
            have hDc := hD.sub (ws' := [(k0, .inr (9, [.ref kN, .ref kA, .ref kO, .ref kK, .ref kV, .ref kG, .ref kP, .ref kC, .ref kD, .ref kE, .ref kF, .ref kX, .ref kY, .int 0, .ref kT, .ref kU, .int 0, .int 0, .int 0])), (kN, .inl (cI, 2, .inl (fun _ => 0)))]) [0, 1] (by decide) rfl
            have hKc := hK.sub (tys' := [(cI, .int)]) [0] rfl
            have hFc := va_free (wc := [(k0, .inr (9, [.ref kN, .ref kA, .ref kO, .ref kK, .ref kV, .ref kG, .ref kP, .ref kC, .ref kD, .ref kE, .ref kF, .ref kX, .ref kY, .int 0, .ref kT, .ref kU, .int 0, .int 0, .int 0])), (kN, .inl (cI, 2, .inl (fun _ => 0)))]) hD hS hA [0, 1] rfl
            refine va_calli (va_runV (As := [.int 0, .int p3]) (rest := []) ⟨hx, hb, hml, hown, hts⟩ (kX6_isNet0 l dC dI k0 kN kA kO kK kV kG kP kC kD kE kF kX kY kT kU cI p3 H.size) (cwV 2 hts gX6_addPart_X6_isNet rfl rfl rfl (by decide +kernel) ⟨Nat.le_of_ble_eq_true rfl, Nat.le_of_ble_eq_true rfl⟩) (fPreV hN hZ hS (fun q h => hFc q h) hPc hKc hDc (ci := 9) (q0 := 0) rfl rfl) rfl rfl hl.1 rfl (lv_room (Nat.le_of_ble_eq_true rfl)) dX6_addPart_79 ⟨Nat.le_of_ble_eq_true rfl, Nat.le_of_ble_eq_true rfl⟩) hS (fun q _ h => hFc q h) hFc (fun r u t H1 locs ht hvm hw hB hz1 hk1 hS => ?_)
            obtain ⟨hP1, hK1, hD1⟩ := hB
            rw [ht] at hP1
            have hK1 := va_K.moved hvm.symm hK1
            obtain ⟨hP, hD⟩ := va_join (wr := [(kA, .inl (cI, 2, .inl (fun _ => 0)))]) (w1 := [(k0, .inr (9, [.ref kN, .ref kA, .ref kO, .ref kK, .ref kV, .ref kG, .ref kP, .ref kC, .ref kD, .ref kE, .ref kF, .ref kX, .ref kY, .int 0, .ref kT, .ref kU, .int 0, .int 0, .int 0])), (kN, .inl (cI, 2, .inl (fun _ => 0)))]) hP hD [0, 1] [2] rfl rfl (by decide) (by decide) hk1 hFc hP1 hD1
            generalize H1 = H at hP hS ⊢
            have hP : va_P (dC, dI) vwCl [(kA, .inl (cI, 2, .inl (fun _ => 0))), (k0, .inr (9, [.ref kN, .ref kA, .ref kO, .ref kK, .ref kV, .ref kG, .ref kP, .ref kC, .ref kD, .ref kE, .ref kF, .ref kX, .ref kY, .int 0, .ref kT, .ref kU, .int 0, .int 0, .int 0])), (kN, .inl (cI, 2, .inl (fun _ => 0)))] _ := hP
            have hD : va_D A [(kA, .inl (cI, 2, .inl (fun _ => 0))), (k0, .inr (9, [.ref kN, .ref kA, .ref kO, .ref kK, .ref kV, .ref kG, .ref kP, .ref kC, .ref kD, .ref kE, .ref kF, .ref kX, .ref kY, .int 0, .ref kT, .ref kU, .int 0, .int 0, .int 0])), (kN, .inl (cI, 2, .inl (fun _ => 0)))] := hD
            subst hw
            refine lv_if_eq (tgt := 111) hx hb dX6_addPart_82 (by decide) (fun _ => ?_) (fun h9 => absurd (by decide) h9)
            refine lv_aload_n hx hb dX6_addPart_111 rfl (lv_at hl 1 rfl) ?_
            refine lv_iconst (v := 2) hx hb dX6_addPart_112 (by decide) ?_
            refine va_put (D := (dC, dI)) (ci := 9) (v := .int 2) (ty := .int) (C := RX6) (T := TX6) (N := 19) hx hb hts (fun w h => List.mem_cons_of_mem _ (List.mem_append_left _ (List.mem_append_right _ (h)))) tyX6 tyX6_ok nmX6 hown hK hP hD hS 1 rfl rfl 16 (by decide) (hts (.fieldLink RX6 57 "NetcompareModel" "thrown" "I") (List.mem_cons_of_mem _ (List.mem_append_left _ (List.mem_append_left _ (List.mem_of_getElem? (i := 1) rfl))))) (fun _ h9 => h9) rfl (by decide +kernel) rfl rfl (Nat.le_of_ble_eq_true rfl) dX6_addPart_113 (fun H locs hP hD hS => ?_)
            have hP : va_P (dC, dI) vwCl [(kA, .inl (cI, 2, .inl (fun _ => 0))), (k0, .inr (9, [.ref kN, .ref kA, .ref kO, .ref kK, .ref kV, .ref kG, .ref kP, .ref kC, .ref kD, .ref kE, .ref kF, .ref kX, .ref kY, .int 0, .ref kT, .ref kU, .int 2, .int 0, .int 0])), (kN, .inl (cI, 2, .inl (fun _ => 0)))] _ := hP
            have hD : va_D A [(kA, .inl (cI, 2, .inl (fun _ => 0))), (k0, .inr (9, [.ref kN, .ref kA, .ref kO, .ref kK, .ref kV, .ref kG, .ref kP, .ref kC, .ref kD, .ref kE, .ref kF, .ref kX, .ref kY, .int 0, .ref kT, .ref kU, .int 2, .int 0, .int 0])), (kN, .inl (cI, 2, .inl (fun _ => 0)))] := hD
            refine lv_goto (tgt := 139) hx hb dX6_addPart_116 (by decide) ?_
            refine lv_aload_n hx hb dX6_addPart_139 rfl (lv_at hl 1 rfl) ?_
            refine va_get (D := (dC, dI)) (ci := 9) (v := .int 2) (C := RX6) (T := TX6) (N := 19) hx hb hts (fun w h => List.mem_cons_of_mem _ (List.mem_append_left _ (List.mem_append_right _ (h)))) hown hK hP 1 rfl rfl 16 (by decide) (hts (.fieldLink RX6 57 "NetcompareModel" "thrown" "I") (List.mem_cons_of_mem _ (List.mem_append_left _ (List.mem_append_left _ (List.mem_of_getElem? (i := 1) rfl))))) (fun _ h9 => h9) rfl dX6_addPart_140 ?_
            refine lv_if_le (tgt := 148) hx hb dX6_addPart_143 (by decide) (fun h9 => absurd h9 (by decide)) (fun _ => ?_)
            refine lv_iconst (v := (-1)) hx hb dX6_addPart_146 (by decide) ?_
            exact ret _ 2 _ _ _ _ _ _ (Or.inr (⟨rfl, (fun h9 => h9.elim ((fun h9 => h9 (Or.inl (rfl)))) ((fun h9 => h9.elim ((fun h9 => h9 (Or.inr (Or.inl (h12))))) ((fun h9 => h9.elim ((fun h9 => h9 (hi13))) ((fun h9 => ((fun h9 => h9 (h14))) h9.1)))))))⟩)) (hP.sub [1] rfl) (hK.sub [] rfl) (hD.sub [1] (by decide) rfl) hS (Nat.le_of_ble_eq_true rfl) (Nat.le_of_ble_eq_true rfl) dX6_addPart_147
          · skip
            refine lv_iload hx hb dX6_addPart_61 (lv_at hl 7 rfl) ?_
            refine lv_iconst (v := (-1)) hx hb dX6_addPart_63 (by decide) ?_
            refine lv_icmp_eq (tgt := 75) hx hb dX6_addPart_64 (by decide) (fun h15 => ?_) (fun h15 => ?_)
            · skip
              refine lv_aload_n hx hb dX6_addPart_75 rfl (lv_at hl 1 rfl) ?_
              refine lv_iload_n hx hb dX6_addPart_76 rfl (lv_at hl 2 rfl) ?_
              refine lv_iload hx hb dX6_addPart_77 (lv_at hl 5 rfl) ?_
              have hPc := hP.sub (ws' := [(k0, .inr (9, [.ref kN, .ref kA, .ref kO, .ref kK, .ref kV, .ref kG, .ref kP, .ref kC, .ref kD, .ref kE, .ref kF, .ref kX, .ref kY, .int 0, .ref kT, .ref kU, .int 0, .int 0, .int 0])), (kN, .inl (cI, 2, .inl (fun _ => 0)))]) [0, 1] rfl
              have hDc := hD.sub (ws' := [(k0, .inr (9, [.ref kN, .ref kA, .ref kO, .ref kK, .ref kV, .ref kG, .ref kP, .ref kC, .ref kD, .ref kE, .ref kF, .ref kX, .ref kY, .int 0, .ref kT, .ref kU, .int 0, .int 0, .int 0])), (kN, .inl (cI, 2, .inl (fun _ => 0)))]) [0, 1] (by decide) rfl
              have hKc := hK.sub (tys' := [(cI, .int)]) [0] rfl
              have hFc := va_free (wc := [(k0, .inr (9, [.ref kN, .ref kA, .ref kO, .ref kK, .ref kV, .ref kG, .ref kP, .ref kC, .ref kD, .ref kE, .ref kF, .ref kX, .ref kY, .int 0, .ref kT, .ref kU, .int 0, .int 0, .int 0])), (kN, .inl (cI, 2, .inl (fun _ => 0)))]) hD hS hA [0, 1] rfl
              refine va_calli (va_runV (As := [.int 0, .int p3]) (rest := []) ⟨hx, hb, hml, hown, hts⟩ (kX6_isNet0 l dC dI k0 kN kA kO kK kV kG kP kC kD kE kF kX kY kT kU cI p3 H.size) (cwV 2 hts gX6_addPart_X6_isNet rfl rfl rfl (by decide +kernel) ⟨Nat.le_of_ble_eq_true rfl, Nat.le_of_ble_eq_true rfl⟩) (fPreV hN hZ hS (fun q h => hFc q h) hPc hKc hDc (ci := 9) (q0 := 0) rfl rfl) rfl rfl hl.1 rfl (lv_room (Nat.le_of_ble_eq_true rfl)) dX6_addPart_79 ⟨Nat.le_of_ble_eq_true rfl, Nat.le_of_ble_eq_true rfl⟩) hS (fun q _ h => hFc q h) hFc (fun r u t H1 locs ht hvm hw hB hz1 hk1 hS => ?_)
              obtain ⟨hP1, hK1, hD1⟩ := hB
              rw [ht] at hP1
              have hK1 := va_K.moved hvm.symm hK1
              obtain ⟨hP, hD⟩ := va_join (wr := [(kA, .inl (cI, 2, .inl (fun _ => 0)))]) (w1 := [(k0, .inr (9, [.ref kN, .ref kA, .ref kO, .ref kK, .ref kV, .ref kG, .ref kP, .ref kC, .ref kD, .ref kE, .ref kF, .ref kX, .ref kY, .int 0, .ref kT, .ref kU, .int 0, .int 0, .int 0])), (kN, .inl (cI, 2, .inl (fun _ => 0)))]) hP hD [0, 1] [2] rfl rfl (by decide) (by decide) hk1 hFc hP1 hD1
              generalize H1 = H at hP hS ⊢
              have hP : va_P (dC, dI) vwCl [(kA, .inl (cI, 2, .inl (fun _ => 0))), (k0, .inr (9, [.ref kN, .ref kA, .ref kO, .ref kK, .ref kV, .ref kG, .ref kP, .ref kC, .ref kD, .ref kE, .ref kF, .ref kX, .ref kY, .int 0, .ref kT, .ref kU, .int 0, .int 0, .int 0])), (kN, .inl (cI, 2, .inl (fun _ => 0)))] _ := hP
              have hD : va_D A [(kA, .inl (cI, 2, .inl (fun _ => 0))), (k0, .inr (9, [.ref kN, .ref kA, .ref kO, .ref kK, .ref kV, .ref kG, .ref kP, .ref kC, .ref kD, .ref kE, .ref kF, .ref kX, .ref kY, .int 0, .ref kT, .ref kU, .int 0, .int 0, .int 0])), (kN, .inl (cI, 2, .inl (fun _ => 0)))] := hD
              subst hw
              refine lv_if_eq (tgt := 111) hx hb dX6_addPart_82 (by decide) (fun _ => ?_) (fun h9 => absurd (by decide) h9)
              refine lv_aload_n hx hb dX6_addPart_111 rfl (lv_at hl 1 rfl) ?_
              refine lv_iconst (v := 2) hx hb dX6_addPart_112 (by decide) ?_
              refine va_put (D := (dC, dI)) (ci := 9) (v := .int 2) (ty := .int) (C := RX6) (T := TX6) (N := 19) hx hb hts (fun w h => List.mem_cons_of_mem _ (List.mem_append_left _ (List.mem_append_right _ (h)))) tyX6 tyX6_ok nmX6 hown hK hP hD hS 1 rfl rfl 16 (by decide) (hts (.fieldLink RX6 57 "NetcompareModel" "thrown" "I") (List.mem_cons_of_mem _ (List.mem_append_left _ (List.mem_append_left _ (List.mem_of_getElem? (i := 1) rfl))))) (fun _ h9 => h9) rfl (by decide +kernel) rfl rfl (Nat.le_of_ble_eq_true rfl) dX6_addPart_113 (fun H locs hP hD hS => ?_)
              have hP : va_P (dC, dI) vwCl [(kA, .inl (cI, 2, .inl (fun _ => 0))), (k0, .inr (9, [.ref kN, .ref kA, .ref kO, .ref kK, .ref kV, .ref kG, .ref kP, .ref kC, .ref kD, .ref kE, .ref kF, .ref kX, .ref kY, .int 0, .ref kT, .ref kU, .int 2, .int 0, .int 0])), (kN, .inl (cI, 2, .inl (fun _ => 0)))] _ := hP
              have hD : va_D A [(kA, .inl (cI, 2, .inl (fun _ => 0))), (k0, .inr (9, [.ref kN, .ref kA, .ref kO, .ref kK, .ref kV, .ref kG, .ref kP, .ref kC, .ref kD, .ref kE, .ref kF, .ref kX, .ref kY, .int 0, .ref kT, .ref kU, .int 2, .int 0, .int 0])), (kN, .inl (cI, 2, .inl (fun _ => 0)))] := hD
              refine lv_goto (tgt := 139) hx hb dX6_addPart_116 (by decide) ?_
              refine lv_aload_n hx hb dX6_addPart_139 rfl (lv_at hl 1 rfl) ?_
              refine va_get (D := (dC, dI)) (ci := 9) (v := .int 2) (C := RX6) (T := TX6) (N := 19) hx hb hts (fun w h => List.mem_cons_of_mem _ (List.mem_append_left _ (List.mem_append_right _ (h)))) hown hK hP 1 rfl rfl 16 (by decide) (hts (.fieldLink RX6 57 "NetcompareModel" "thrown" "I") (List.mem_cons_of_mem _ (List.mem_append_left _ (List.mem_append_left _ (List.mem_of_getElem? (i := 1) rfl))))) (fun _ h9 => h9) rfl dX6_addPart_140 ?_
              refine lv_if_le (tgt := 148) hx hb dX6_addPart_143 (by decide) (fun h9 => absurd h9 (by decide)) (fun _ => ?_)
              refine lv_iconst (v := (-1)) hx hb dX6_addPart_146 (by decide) ?_
              exact ret _ 2 _ _ _ _ _ _ (Or.inr (⟨rfl, (fun h9 => h9.elim ((fun h9 => h9 (Or.inl (rfl)))) ((fun h9 => h9.elim ((fun h9 => h9 (Or.inr (Or.inl (h12))))) ((fun h9 => h9.elim ((fun h9 => h9 (hi13))) ((fun h9 => ((fun h9 => h9 (h15))) h9.2)))))))⟩)) (hP.sub [1] rfl) (hK.sub [] rfl) (hD.sub [1] (by decide) rfl) hS (Nat.le_of_ble_eq_true rfl) (Nat.le_of_ble_eq_true rfl) dX6_addPart_147
            · skip
              refine lv_aload_n hx hb dX6_addPart_67 rfl (lv_at hl 1 rfl) ?_
              refine lv_iconst (v := 1) hx hb dX6_addPart_68 (by decide) ?_
              refine va_put (D := (dC, dI)) (ci := 9) (v := .int 1) (ty := .int) (C := RX6) (T := TX6) (N := 19) hx hb hts (fun w h => List.mem_cons_of_mem _ (List.mem_append_left _ (List.mem_append_right _ (h)))) tyX6 tyX6_ok nmX6 hown hK hP hD hS 0 rfl rfl 16 (by decide) (hts (.fieldLink RX6 57 "NetcompareModel" "thrown" "I") (List.mem_cons_of_mem _ (List.mem_append_left _ (List.mem_append_left _ (List.mem_of_getElem? (i := 1) rfl))))) (fun _ h9 => h9) rfl (by decide +kernel) rfl rfl (Nat.le_of_ble_eq_true rfl) dX6_addPart_69 (fun H locs hP hD hS => ?_)
              have hP : va_P (dC, dI) vwCl [(k0, .inr (9, [.ref kN, .ref kA, .ref kO, .ref kK, .ref kV, .ref kG, .ref kP, .ref kC, .ref kD, .ref kE, .ref kF, .ref kX, .ref kY, .int 0, .ref kT, .ref kU, .int 1, .int 0, .int 0])), (kN, .inl (cI, 2, .inl (fun _ => 0))), (kA, .inl (cI, 2, .inl (fun _ => 0)))] _ := hP
              have hD : va_D A [(k0, .inr (9, [.ref kN, .ref kA, .ref kO, .ref kK, .ref kV, .ref kG, .ref kP, .ref kC, .ref kD, .ref kE, .ref kF, .ref kX, .ref kY, .int 0, .ref kT, .ref kU, .int 1, .int 0, .int 0])), (kN, .inl (cI, 2, .inl (fun _ => 0))), (kA, .inl (cI, 2, .inl (fun _ => 0)))] := hD
              refine lv_goto (tgt := 139) hx hb dX6_addPart_72 (by decide) ?_
              refine lv_aload_n hx hb dX6_addPart_139 rfl (lv_at hl 1 rfl) ?_
              refine va_get (D := (dC, dI)) (ci := 9) (v := .int 1) (C := RX6) (T := TX6) (N := 19) hx hb hts (fun w h => List.mem_cons_of_mem _ (List.mem_append_left _ (List.mem_append_right _ (h)))) hown hK hP 0 rfl rfl 16 (by decide) (hts (.fieldLink RX6 57 "NetcompareModel" "thrown" "I") (List.mem_cons_of_mem _ (List.mem_append_left _ (List.mem_append_left _ (List.mem_of_getElem? (i := 1) rfl))))) (fun _ h9 => h9) rfl dX6_addPart_140 ?_
              refine lv_if_le (tgt := 148) hx hb dX6_addPart_143 (by decide) (fun h9 => absurd h9 (by decide)) (fun _ => ?_)
              refine lv_iconst (v := (-1)) hx hb dX6_addPart_146 (by decide) ?_
              exact ret _ 1 _ _ _ _ _ _ (Or.inl (⟨rfl, Or.inr (Or.inr (Or.inr (⟨h14, h15⟩)))⟩)) (hP.sub [0] rfl) (hK.sub [] rfl) (hD.sub [0] (by decide) rfl) hS (Nat.le_of_ble_eq_true rfl) (Nat.le_of_ble_eq_true rfl) dX6_addPart_147
        · skip
          have hi16 : ¬ ((¬ (p2 < 1)) ∧ (¬ (999 < p2))) := fun q => hi9 ((fIn p2 1 999 1 999 (by decide) (by decide)).mpr q)
          refine lv_if_eq (tgt := 67) hx hb dX6_addPart_52 (by decide) (fun _ => ?_) (fun h9 => absurd (by decide) h9)
          refine lv_aload_n hx hb dX6_addPart_67 rfl (lv_at hl 1 rfl) ?_
          refine lv_iconst (v := 1) hx hb dX6_addPart_68 (by decide) ?_
          refine va_put (D := (dC, dI)) (ci := 9) (v := .int 1) (ty := .int) (C := RX6) (T := TX6) (N := 19) hx hb hts (fun w h => List.mem_cons_of_mem _ (List.mem_append_left _ (List.mem_append_right _ (h)))) tyX6 tyX6_ok nmX6 hown hK hP hD hS 0 rfl rfl 16 (by decide) (hts (.fieldLink RX6 57 "NetcompareModel" "thrown" "I") (List.mem_cons_of_mem _ (List.mem_append_left _ (List.mem_append_left _ (List.mem_of_getElem? (i := 1) rfl))))) (fun _ h9 => h9) rfl (by decide +kernel) rfl rfl (Nat.le_of_ble_eq_true rfl) dX6_addPart_69 (fun H locs hP hD hS => ?_)
          have hP : va_P (dC, dI) vwCl [(k0, .inr (9, [.ref kN, .ref kA, .ref kO, .ref kK, .ref kV, .ref kG, .ref kP, .ref kC, .ref kD, .ref kE, .ref kF, .ref kX, .ref kY, .int 0, .ref kT, .ref kU, .int 1, .int 0, .int 0])), (kN, .inl (cI, 2, .inl (fun _ => 0))), (kA, .inl (cI, 2, .inl (fun _ => 0)))] _ := hP
          have hD : va_D A [(k0, .inr (9, [.ref kN, .ref kA, .ref kO, .ref kK, .ref kV, .ref kG, .ref kP, .ref kC, .ref kD, .ref kE, .ref kF, .ref kX, .ref kY, .int 0, .ref kT, .ref kU, .int 1, .int 0, .int 0])), (kN, .inl (cI, 2, .inl (fun _ => 0))), (kA, .inl (cI, 2, .inl (fun _ => 0)))] := hD
          refine lv_goto (tgt := 139) hx hb dX6_addPart_72 (by decide) ?_
          refine lv_aload_n hx hb dX6_addPart_139 rfl (lv_at hl 1 rfl) ?_
          refine va_get (D := (dC, dI)) (ci := 9) (v := .int 1) (C := RX6) (T := TX6) (N := 19) hx hb hts (fun w h => List.mem_cons_of_mem _ (List.mem_append_left _ (List.mem_append_right _ (h)))) hown hK hP 0 rfl rfl 16 (by decide) (hts (.fieldLink RX6 57 "NetcompareModel" "thrown" "I") (List.mem_cons_of_mem _ (List.mem_append_left _ (List.mem_append_left _ (List.mem_of_getElem? (i := 1) rfl))))) (fun _ h9 => h9) rfl dX6_addPart_140 ?_
          refine lv_if_le (tgt := 148) hx hb dX6_addPart_143 (by decide) (fun h9 => absurd h9 (by decide)) (fun _ => ?_)
          refine lv_iconst (v := (-1)) hx hb dX6_addPart_146 (by decide) ?_
          exact ret _ 1 _ _ _ _ _ _ (Or.inl (⟨rfl, Or.inr (Or.inr (Or.inl (hi16)))⟩)) (hP.sub [0] rfl) (hK.sub [] rfl) (hD.sub [0] (by decide) rfl) hS (Nat.le_of_ble_eq_true rfl) (Nat.le_of_ble_eq_true rfl) dX6_addPart_147
      · skip
        subst hc
        have hP : va_P (dC, dI) vwCl [(k0, .inr (9, [.ref kN, .ref kA, .ref kO, .ref kK, .ref kV, .ref kG, .ref kP, .ref kC, .ref kD, .ref kE, .ref kF, .ref kX, .ref kY, .int 0, .ref kT, .ref kU, .int 0, .int 0, .int 0])), (kN, .inl (cI, 2, .inl (fun _ => 0))), (kA, .inl (cI, 2, .inl (fun _ => 0)))] _ := hP
        have hD : va_D A [(k0, .inr (9, [.ref kN, .ref kA, .ref kO, .ref kK, .ref kV, .ref kG, .ref kP, .ref kC, .ref kD, .ref kE, .ref kF, .ref kX, .ref kY, .int 0, .ref kT, .ref kU, .int 0, .int 0, .int 0])), (kN, .inl (cI, 2, .inl (fun _ => 0))), (kA, .inl (cI, 2, .inl (fun _ => 0)))] := hD
        refine lv_if_eq (tgt := 67) hx hb dX6_addPart_35 (by decide) (fun h9 => absurd h9 (by decide)) (fun _ => ?_)
        refine lv_iload hx hb dX6_addPart_38 (lv_at hl 0 rfl) ?_
        refine lv_if_eq (tgt := 67) hx hb dX6_addPart_40 (by decide) (fun h9 => absurd h9 (by decide)) (fun _ => ?_)
        refine lv_iload_n hx hb dX6_addPart_43 rfl (lv_at hl 4 rfl) ?_
        refine lv_i2l (v := p2.toInt64) hx hb dX6_addPart_44 rfl ?_
        refine lv_lconst (v := 1) hx hb dX6_addPart_45 (by decide) ?_
        refine lv_ldc2 (v := 999) hx hb hown (hts (.constantLong RX6 92 (999)) (List.mem_cons_of_mem _ (List.mem_append_left _ (List.mem_append_left _ (List.mem_of_getElem? (i := 0) rfl))))) dX6_addPart_46 ?_
        have hPc := hP.sub (ws' := []) [] rfl
        have hDc := hD.sub (ws' := []) [] (by decide) rfl
        have hKc := hK.sub (tys' := []) [] rfl
        have hFc := va_free (wc := []) hD hS hA [] rfl
        refine va_calli (va_runS (As := [.long p2.toInt64, .long 1, .long 999]) (rest := []) ⟨hx, hb, hml, hown, hts⟩ (kX6_in l dC dI p2.toInt64 1 999 H.size) (va_cwS 3 hts gX6_addPart_X6_in rfl rfl rfl (by decide +kernel) ⟨Nat.le_of_ble_eq_true rfl, Nat.le_of_ble_eq_true rfl⟩) (fPreS hN hZ hS (fun q h => hFc q h) hPc hKc hDc) rfl rfl hl.1 rfl (lv_room (Nat.le_of_ble_eq_true rfl)) dX6_addPart_49 ⟨Nat.le_of_ble_eq_true rfl, Nat.le_of_ble_eq_true rfl⟩) hS (fun q _ h => hFc q h) hFc (fun r u t H1 locs ht hvm hw hB hz1 hk1 hS => ?_)
        obtain ⟨hP1, hK1, hD1⟩ := hB
        rw [ht] at hP1
        have hK1 := va_K.moved hvm.symm hK1
        obtain ⟨hP, hD⟩ := va_join (wr := [(k0, .inr (9, [.ref kN, .ref kA, .ref kO, .ref kK, .ref kV, .ref kG, .ref kP, .ref kC, .ref kD, .ref kE, .ref kF, .ref kX, .ref kY, .int 0, .ref kT, .ref kU, .int 0, .int 0, .int 0])), (kN, .inl (cI, 2, .inl (fun _ => 0))), (kA, .inl (cI, 2, .inl (fun _ => 0)))]) (w1 := []) hP hD [] [0, 1, 2] rfl rfl (by decide) (by decide) hk1 hFc hP1 hD1
        generalize H1 = H at hP hS ⊢
        have hP : va_P (dC, dI) vwCl [(k0, .inr (9, [.ref kN, .ref kA, .ref kO, .ref kK, .ref kV, .ref kG, .ref kP, .ref kC, .ref kD, .ref kE, .ref kF, .ref kX, .ref kY, .int 0, .ref kT, .ref kU, .int 0, .int 0, .int 0])), (kN, .inl (cI, 2, .inl (fun _ => 0))), (kA, .inl (cI, 2, .inl (fun _ => 0)))] _ := hP
        have hD : va_D A [(k0, .inr (9, [.ref kN, .ref kA, .ref kO, .ref kK, .ref kV, .ref kG, .ref kP, .ref kC, .ref kD, .ref kE, .ref kF, .ref kX, .ref kY, .int 0, .ref kT, .ref kU, .int 0, .int 0, .int 0])), (kN, .inl (cI, 2, .inl (fun _ => 0))), (kA, .inl (cI, 2, .inl (fun _ => 0)))] := hD
        rcases hw with ⟨rfl, hi9⟩ | ⟨rfl, hi9⟩
        · skip
          have hi17 : ((¬ (p2 < 1)) ∧ (¬ (999 < p2))) := (fIn p2 1 999 1 999 (by decide) (by decide)).mp hi9
          refine lv_if_eq (tgt := 67) hx hb dX6_addPart_52 (by decide) (fun h9 => absurd h9 (by decide)) (fun _ => ?_)
          refine lv_iload_n hx hb dX6_addPart_55 rfl (lv_at hl 3 rfl) ?_
          refine lv_bipush (v := 116) hx hb dX6_addPart_56 (by decide) ?_
          refine lv_icmp_eq (tgt := 75) hx hb dX6_addPart_58 (by decide) (fun h18 => ?_) (fun h18 => ?_)
          · skip
            refine lv_aload_n hx hb dX6_addPart_75 rfl (lv_at hl 1 rfl) ?_
            refine lv_iload_n hx hb dX6_addPart_76 rfl (lv_at hl 2 rfl) ?_
            refine lv_iload hx hb dX6_addPart_77 (lv_at hl 5 rfl) ?_
            have hPc := hP.sub (ws' := [(k0, .inr (9, [.ref kN, .ref kA, .ref kO, .ref kK, .ref kV, .ref kG, .ref kP, .ref kC, .ref kD, .ref kE, .ref kF, .ref kX, .ref kY, .int 0, .ref kT, .ref kU, .int 0, .int 0, .int 0])), (kN, .inl (cI, 2, .inl (fun _ => 0)))]) [0, 1] rfl
            have hDc := hD.sub (ws' := [(k0, .inr (9, [.ref kN, .ref kA, .ref kO, .ref kK, .ref kV, .ref kG, .ref kP, .ref kC, .ref kD, .ref kE, .ref kF, .ref kX, .ref kY, .int 0, .ref kT, .ref kU, .int 0, .int 0, .int 0])), (kN, .inl (cI, 2, .inl (fun _ => 0)))]) [0, 1] (by decide) rfl
            have hKc := hK.sub (tys' := [(cI, .int)]) [0] rfl
            have hFc := va_free (wc := [(k0, .inr (9, [.ref kN, .ref kA, .ref kO, .ref kK, .ref kV, .ref kG, .ref kP, .ref kC, .ref kD, .ref kE, .ref kF, .ref kX, .ref kY, .int 0, .ref kT, .ref kU, .int 0, .int 0, .int 0])), (kN, .inl (cI, 2, .inl (fun _ => 0)))]) hD hS hA [0, 1] rfl
            refine va_calli (va_runV (As := [.int 1, .int p3]) (rest := []) ⟨hx, hb, hml, hown, hts⟩ (kX6_isNet1 l dC dI k0 kN kA kO kK kV kG kP kC kD kE kF kX kY kT kU cI p3 H.size) (cwV 2 hts gX6_addPart_X6_isNet rfl rfl rfl (by decide +kernel) ⟨Nat.le_of_ble_eq_true rfl, Nat.le_of_ble_eq_true rfl⟩) (fPreV hN hZ hS (fun q h => hFc q h) hPc hKc hDc (ci := 9) (q0 := 0) rfl rfl) rfl rfl hl.1 rfl (lv_room (Nat.le_of_ble_eq_true rfl)) dX6_addPart_79 ⟨Nat.le_of_ble_eq_true rfl, Nat.le_of_ble_eq_true rfl⟩) hS (fun q _ h => hFc q h) hFc (fun r u t H1 locs ht hvm hw hB hz1 hk1 hS => ?_)
            obtain ⟨hP1, hK1, hD1⟩ := hB
            rw [ht] at hP1
            have hK1 := va_K.moved hvm.symm hK1
            obtain ⟨hP, hD⟩ := va_join (wr := [(kA, .inl (cI, 2, .inl (fun _ => 0)))]) (w1 := [(k0, .inr (9, [.ref kN, .ref kA, .ref kO, .ref kK, .ref kV, .ref kG, .ref kP, .ref kC, .ref kD, .ref kE, .ref kF, .ref kX, .ref kY, .int 0, .ref kT, .ref kU, .int 0, .int 0, .int 0])), (kN, .inl (cI, 2, .inl (fun _ => 0)))]) hP hD [0, 1] [2] rfl rfl (by decide) (by decide) hk1 hFc hP1 hD1
            generalize H1 = H at hP hS ⊢
            have hP : va_P (dC, dI) vwCl [(kA, .inl (cI, 2, .inl (fun _ => 0))), (k0, .inr (9, [.ref kN, .ref kA, .ref kO, .ref kK, .ref kV, .ref kG, .ref kP, .ref kC, .ref kD, .ref kE, .ref kF, .ref kX, .ref kY, .int 0, .ref kT, .ref kU, .int 0, .int 0, .int 0])), (kN, .inl (cI, 2, .inl (fun _ => 0)))] _ := hP
            have hD : va_D A [(kA, .inl (cI, 2, .inl (fun _ => 0))), (k0, .inr (9, [.ref kN, .ref kA, .ref kO, .ref kK, .ref kV, .ref kG, .ref kP, .ref kC, .ref kD, .ref kE, .ref kF, .ref kX, .ref kY, .int 0, .ref kT, .ref kU, .int 0, .int 0, .int 0])), (kN, .inl (cI, 2, .inl (fun _ => 0)))] := hD
            subst hw
            refine lv_if_eq (tgt := 111) hx hb dX6_addPart_82 (by decide) (fun _ => ?_) (fun h9 => absurd (by decide) h9)
            refine lv_aload_n hx hb dX6_addPart_111 rfl (lv_at hl 1 rfl) ?_
            refine lv_iconst (v := 2) hx hb dX6_addPart_112 (by decide) ?_
            refine va_put (D := (dC, dI)) (ci := 9) (v := .int 2) (ty := .int) (C := RX6) (T := TX6) (N := 19) hx hb hts (fun w h => List.mem_cons_of_mem _ (List.mem_append_left _ (List.mem_append_right _ (h)))) tyX6 tyX6_ok nmX6 hown hK hP hD hS 1 rfl rfl 16 (by decide) (hts (.fieldLink RX6 57 "NetcompareModel" "thrown" "I") (List.mem_cons_of_mem _ (List.mem_append_left _ (List.mem_append_left _ (List.mem_of_getElem? (i := 1) rfl))))) (fun _ h9 => h9) rfl (by decide +kernel) rfl rfl (Nat.le_of_ble_eq_true rfl) dX6_addPart_113 (fun H locs hP hD hS => ?_)
            have hP : va_P (dC, dI) vwCl [(kA, .inl (cI, 2, .inl (fun _ => 0))), (k0, .inr (9, [.ref kN, .ref kA, .ref kO, .ref kK, .ref kV, .ref kG, .ref kP, .ref kC, .ref kD, .ref kE, .ref kF, .ref kX, .ref kY, .int 0, .ref kT, .ref kU, .int 2, .int 0, .int 0])), (kN, .inl (cI, 2, .inl (fun _ => 0)))] _ := hP
            have hD : va_D A [(kA, .inl (cI, 2, .inl (fun _ => 0))), (k0, .inr (9, [.ref kN, .ref kA, .ref kO, .ref kK, .ref kV, .ref kG, .ref kP, .ref kC, .ref kD, .ref kE, .ref kF, .ref kX, .ref kY, .int 0, .ref kT, .ref kU, .int 2, .int 0, .int 0])), (kN, .inl (cI, 2, .inl (fun _ => 0)))] := hD
            refine lv_goto (tgt := 139) hx hb dX6_addPart_116 (by decide) ?_
            refine lv_aload_n hx hb dX6_addPart_139 rfl (lv_at hl 1 rfl) ?_
            refine va_get (D := (dC, dI)) (ci := 9) (v := .int 2) (C := RX6) (T := TX6) (N := 19) hx hb hts (fun w h => List.mem_cons_of_mem _ (List.mem_append_left _ (List.mem_append_right _ (h)))) hown hK hP 1 rfl rfl 16 (by decide) (hts (.fieldLink RX6 57 "NetcompareModel" "thrown" "I") (List.mem_cons_of_mem _ (List.mem_append_left _ (List.mem_append_left _ (List.mem_of_getElem? (i := 1) rfl))))) (fun _ h9 => h9) rfl dX6_addPart_140 ?_
            refine lv_if_le (tgt := 148) hx hb dX6_addPart_143 (by decide) (fun h9 => absurd h9 (by decide)) (fun _ => ?_)
            refine lv_iconst (v := (-1)) hx hb dX6_addPart_146 (by decide) ?_
            exact ret _ 2 _ _ _ _ _ _ (Or.inr (⟨rfl, (fun h9 => h9.elim ((fun h9 => h9 (Or.inr (rfl)))) ((fun h9 => h9.elim ((fun h9 => h9 (Or.inr (Or.inl (h12))))) ((fun h9 => h9.elim ((fun h9 => h9 (hi17))) ((fun h9 => ((fun h9 => h9 (h18))) h9.1)))))))⟩)) (hP.sub [1] rfl) (hK.sub [] rfl) (hD.sub [1] (by decide) rfl) hS (Nat.le_of_ble_eq_true rfl) (Nat.le_of_ble_eq_true rfl) dX6_addPart_147
          · skip
            refine lv_iload hx hb dX6_addPart_61 (lv_at hl 7 rfl) ?_
            refine lv_iconst (v := (-1)) hx hb dX6_addPart_63 (by decide) ?_
            refine lv_icmp_eq (tgt := 75) hx hb dX6_addPart_64 (by decide) (fun h19 => ?_) (fun h19 => ?_)
            · skip
              refine lv_aload_n hx hb dX6_addPart_75 rfl (lv_at hl 1 rfl) ?_
              refine lv_iload_n hx hb dX6_addPart_76 rfl (lv_at hl 2 rfl) ?_
              refine lv_iload hx hb dX6_addPart_77 (lv_at hl 5 rfl) ?_
              have hPc := hP.sub (ws' := [(k0, .inr (9, [.ref kN, .ref kA, .ref kO, .ref kK, .ref kV, .ref kG, .ref kP, .ref kC, .ref kD, .ref kE, .ref kF, .ref kX, .ref kY, .int 0, .ref kT, .ref kU, .int 0, .int 0, .int 0])), (kN, .inl (cI, 2, .inl (fun _ => 0)))]) [0, 1] rfl
              have hDc := hD.sub (ws' := [(k0, .inr (9, [.ref kN, .ref kA, .ref kO, .ref kK, .ref kV, .ref kG, .ref kP, .ref kC, .ref kD, .ref kE, .ref kF, .ref kX, .ref kY, .int 0, .ref kT, .ref kU, .int 0, .int 0, .int 0])), (kN, .inl (cI, 2, .inl (fun _ => 0)))]) [0, 1] (by decide) rfl
              have hKc := hK.sub (tys' := [(cI, .int)]) [0] rfl
              have hFc := va_free (wc := [(k0, .inr (9, [.ref kN, .ref kA, .ref kO, .ref kK, .ref kV, .ref kG, .ref kP, .ref kC, .ref kD, .ref kE, .ref kF, .ref kX, .ref kY, .int 0, .ref kT, .ref kU, .int 0, .int 0, .int 0])), (kN, .inl (cI, 2, .inl (fun _ => 0)))]) hD hS hA [0, 1] rfl
              refine va_calli (va_runV (As := [.int 1, .int p3]) (rest := []) ⟨hx, hb, hml, hown, hts⟩ (kX6_isNet1 l dC dI k0 kN kA kO kK kV kG kP kC kD kE kF kX kY kT kU cI p3 H.size) (cwV 2 hts gX6_addPart_X6_isNet rfl rfl rfl (by decide +kernel) ⟨Nat.le_of_ble_eq_true rfl, Nat.le_of_ble_eq_true rfl⟩) (fPreV hN hZ hS (fun q h => hFc q h) hPc hKc hDc (ci := 9) (q0 := 0) rfl rfl) rfl rfl hl.1 rfl (lv_room (Nat.le_of_ble_eq_true rfl)) dX6_addPart_79 ⟨Nat.le_of_ble_eq_true rfl, Nat.le_of_ble_eq_true rfl⟩) hS (fun q _ h => hFc q h) hFc (fun r u t H1 locs ht hvm hw hB hz1 hk1 hS => ?_)
              obtain ⟨hP1, hK1, hD1⟩ := hB
              rw [ht] at hP1
              have hK1 := va_K.moved hvm.symm hK1
              obtain ⟨hP, hD⟩ := va_join (wr := [(kA, .inl (cI, 2, .inl (fun _ => 0)))]) (w1 := [(k0, .inr (9, [.ref kN, .ref kA, .ref kO, .ref kK, .ref kV, .ref kG, .ref kP, .ref kC, .ref kD, .ref kE, .ref kF, .ref kX, .ref kY, .int 0, .ref kT, .ref kU, .int 0, .int 0, .int 0])), (kN, .inl (cI, 2, .inl (fun _ => 0)))]) hP hD [0, 1] [2] rfl rfl (by decide) (by decide) hk1 hFc hP1 hD1
              generalize H1 = H at hP hS ⊢
              have hP : va_P (dC, dI) vwCl [(kA, .inl (cI, 2, .inl (fun _ => 0))), (k0, .inr (9, [.ref kN, .ref kA, .ref kO, .ref kK, .ref kV, .ref kG, .ref kP, .ref kC, .ref kD, .ref kE, .ref kF, .ref kX, .ref kY, .int 0, .ref kT, .ref kU, .int 0, .int 0, .int 0])), (kN, .inl (cI, 2, .inl (fun _ => 0)))] _ := hP
              have hD : va_D A [(kA, .inl (cI, 2, .inl (fun _ => 0))), (k0, .inr (9, [.ref kN, .ref kA, .ref kO, .ref kK, .ref kV, .ref kG, .ref kP, .ref kC, .ref kD, .ref kE, .ref kF, .ref kX, .ref kY, .int 0, .ref kT, .ref kU, .int 0, .int 0, .int 0])), (kN, .inl (cI, 2, .inl (fun _ => 0)))] := hD
              subst hw
              refine lv_if_eq (tgt := 111) hx hb dX6_addPart_82 (by decide) (fun _ => ?_) (fun h9 => absurd (by decide) h9)
              refine lv_aload_n hx hb dX6_addPart_111 rfl (lv_at hl 1 rfl) ?_
              refine lv_iconst (v := 2) hx hb dX6_addPart_112 (by decide) ?_
              refine va_put (D := (dC, dI)) (ci := 9) (v := .int 2) (ty := .int) (C := RX6) (T := TX6) (N := 19) hx hb hts (fun w h => List.mem_cons_of_mem _ (List.mem_append_left _ (List.mem_append_right _ (h)))) tyX6 tyX6_ok nmX6 hown hK hP hD hS 1 rfl rfl 16 (by decide) (hts (.fieldLink RX6 57 "NetcompareModel" "thrown" "I") (List.mem_cons_of_mem _ (List.mem_append_left _ (List.mem_append_left _ (List.mem_of_getElem? (i := 1) rfl))))) (fun _ h9 => h9) rfl (by decide +kernel) rfl rfl (Nat.le_of_ble_eq_true rfl) dX6_addPart_113 (fun H locs hP hD hS => ?_)
              have hP : va_P (dC, dI) vwCl [(kA, .inl (cI, 2, .inl (fun _ => 0))), (k0, .inr (9, [.ref kN, .ref kA, .ref kO, .ref kK, .ref kV, .ref kG, .ref kP, .ref kC, .ref kD, .ref kE, .ref kF, .ref kX, .ref kY, .int 0, .ref kT, .ref kU, .int 2, .int 0, .int 0])), (kN, .inl (cI, 2, .inl (fun _ => 0)))] _ := hP
              have hD : va_D A [(kA, .inl (cI, 2, .inl (fun _ => 0))), (k0, .inr (9, [.ref kN, .ref kA, .ref kO, .ref kK, .ref kV, .ref kG, .ref kP, .ref kC, .ref kD, .ref kE, .ref kF, .ref kX, .ref kY, .int 0, .ref kT, .ref kU, .int 2, .int 0, .int 0])), (kN, .inl (cI, 2, .inl (fun _ => 0)))] := hD
              refine lv_goto (tgt := 139) hx hb dX6_addPart_116 (by decide) ?_
              refine lv_aload_n hx hb dX6_addPart_139 rfl (lv_at hl 1 rfl) ?_
              refine va_get (D := (dC, dI)) (ci := 9) (v := .int 2) (C := RX6) (T := TX6) (N := 19) hx hb hts (fun w h => List.mem_cons_of_mem _ (List.mem_append_left _ (List.mem_append_right _ (h)))) hown hK hP 1 rfl rfl 16 (by decide) (hts (.fieldLink RX6 57 "NetcompareModel" "thrown" "I") (List.mem_cons_of_mem _ (List.mem_append_left _ (List.mem_append_left _ (List.mem_of_getElem? (i := 1) rfl))))) (fun _ h9 => h9) rfl dX6_addPart_140 ?_
              refine lv_if_le (tgt := 148) hx hb dX6_addPart_143 (by decide) (fun h9 => absurd h9 (by decide)) (fun _ => ?_)
              refine lv_iconst (v := (-1)) hx hb dX6_addPart_146 (by decide) ?_
              exact ret _ 2 _ _ _ _ _ _ (Or.inr (⟨rfl, (fun h9 => h9.elim ((fun h9 => h9 (Or.inr (rfl)))) ((fun h9 => h9.elim ((fun h9 => h9 (Or.inr (Or.inl (h12))))) ((fun h9 => h9.elim ((fun h9 => h9 (hi17))) ((fun h9 => ((fun h9 => h9 (h19))) h9.2)))))))⟩)) (hP.sub [1] rfl) (hK.sub [] rfl) (hD.sub [1] (by decide) rfl) hS (Nat.le_of_ble_eq_true rfl) (Nat.le_of_ble_eq_true rfl) dX6_addPart_147
            · skip
              refine lv_aload_n hx hb dX6_addPart_67 rfl (lv_at hl 1 rfl) ?_
              refine lv_iconst (v := 1) hx hb dX6_addPart_68 (by decide) ?_
              refine va_put (D := (dC, dI)) (ci := 9) (v := .int 1) (ty := .int) (C := RX6) (T := TX6) (N := 19) hx hb hts (fun w h => List.mem_cons_of_mem _ (List.mem_append_left _ (List.mem_append_right _ (h)))) tyX6 tyX6_ok nmX6 hown hK hP hD hS 0 rfl rfl 16 (by decide) (hts (.fieldLink RX6 57 "NetcompareModel" "thrown" "I") (List.mem_cons_of_mem _ (List.mem_append_left _ (List.mem_append_left _ (List.mem_of_getElem? (i := 1) rfl))))) (fun _ h9 => h9) rfl (by decide +kernel) rfl rfl (Nat.le_of_ble_eq_true rfl) dX6_addPart_69 (fun H locs hP hD hS => ?_)
              have hP : va_P (dC, dI) vwCl [(k0, .inr (9, [.ref kN, .ref kA, .ref kO, .ref kK, .ref kV, .ref kG, .ref kP, .ref kC, .ref kD, .ref kE, .ref kF, .ref kX, .ref kY, .int 0, .ref kT, .ref kU, .int 1, .int 0, .int 0])), (kN, .inl (cI, 2, .inl (fun _ => 0))), (kA, .inl (cI, 2, .inl (fun _ => 0)))] _ := hP
              have hD : va_D A [(k0, .inr (9, [.ref kN, .ref kA, .ref kO, .ref kK, .ref kV, .ref kG, .ref kP, .ref kC, .ref kD, .ref kE, .ref kF, .ref kX, .ref kY, .int 0, .ref kT, .ref kU, .int 1, .int 0, .int 0])), (kN, .inl (cI, 2, .inl (fun _ => 0))), (kA, .inl (cI, 2, .inl (fun _ => 0)))] := hD
              refine lv_goto (tgt := 139) hx hb dX6_addPart_72 (by decide) ?_
              refine lv_aload_n hx hb dX6_addPart_139 rfl (lv_at hl 1 rfl) ?_
              refine va_get (D := (dC, dI)) (ci := 9) (v := .int 1) (C := RX6) (T := TX6) (N := 19) hx hb hts (fun w h => List.mem_cons_of_mem _ (List.mem_append_left _ (List.mem_append_right _ (h)))) hown hK hP 0 rfl rfl 16 (by decide) (hts (.fieldLink RX6 57 "NetcompareModel" "thrown" "I") (List.mem_cons_of_mem _ (List.mem_append_left _ (List.mem_append_left _ (List.mem_of_getElem? (i := 1) rfl))))) (fun _ h9 => h9) rfl dX6_addPart_140 ?_
              refine lv_if_le (tgt := 148) hx hb dX6_addPart_143 (by decide) (fun h9 => absurd h9 (by decide)) (fun _ => ?_)
              refine lv_iconst (v := (-1)) hx hb dX6_addPart_146 (by decide) ?_
              exact ret _ 1 _ _ _ _ _ _ (Or.inl (⟨rfl, Or.inr (Or.inr (Or.inr (⟨h18, h19⟩)))⟩)) (hP.sub [0] rfl) (hK.sub [] rfl) (hD.sub [0] (by decide) rfl) hS (Nat.le_of_ble_eq_true rfl) (Nat.le_of_ble_eq_true rfl) dX6_addPart_147
        · skip
          have hi20 : ¬ ((¬ (p2 < 1)) ∧ (¬ (999 < p2))) := fun q => hi9 ((fIn p2 1 999 1 999 (by decide) (by decide)).mpr q)
          refine lv_if_eq (tgt := 67) hx hb dX6_addPart_52 (by decide) (fun _ => ?_) (fun h9 => absurd (by decide) h9)
          refine lv_aload_n hx hb dX6_addPart_67 rfl (lv_at hl 1 rfl) ?_
          refine lv_iconst (v := 1) hx hb dX6_addPart_68 (by decide) ?_
          refine va_put (D := (dC, dI)) (ci := 9) (v := .int 1) (ty := .int) (C := RX6) (T := TX6) (N := 19) hx hb hts (fun w h => List.mem_cons_of_mem _ (List.mem_append_left _ (List.mem_append_right _ (h)))) tyX6 tyX6_ok nmX6 hown hK hP hD hS 0 rfl rfl 16 (by decide) (hts (.fieldLink RX6 57 "NetcompareModel" "thrown" "I") (List.mem_cons_of_mem _ (List.mem_append_left _ (List.mem_append_left _ (List.mem_of_getElem? (i := 1) rfl))))) (fun _ h9 => h9) rfl (by decide +kernel) rfl rfl (Nat.le_of_ble_eq_true rfl) dX6_addPart_69 (fun H locs hP hD hS => ?_)
          have hP : va_P (dC, dI) vwCl [(k0, .inr (9, [.ref kN, .ref kA, .ref kO, .ref kK, .ref kV, .ref kG, .ref kP, .ref kC, .ref kD, .ref kE, .ref kF, .ref kX, .ref kY, .int 0, .ref kT, .ref kU, .int 1, .int 0, .int 0])), (kN, .inl (cI, 2, .inl (fun _ => 0))), (kA, .inl (cI, 2, .inl (fun _ => 0)))] _ := hP
          have hD : va_D A [(k0, .inr (9, [.ref kN, .ref kA, .ref kO, .ref kK, .ref kV, .ref kG, .ref kP, .ref kC, .ref kD, .ref kE, .ref kF, .ref kX, .ref kY, .int 0, .ref kT, .ref kU, .int 1, .int 0, .int 0])), (kN, .inl (cI, 2, .inl (fun _ => 0))), (kA, .inl (cI, 2, .inl (fun _ => 0)))] := hD
          refine lv_goto (tgt := 139) hx hb dX6_addPart_72 (by decide) ?_
          refine lv_aload_n hx hb dX6_addPart_139 rfl (lv_at hl 1 rfl) ?_
          refine va_get (D := (dC, dI)) (ci := 9) (v := .int 1) (C := RX6) (T := TX6) (N := 19) hx hb hts (fun w h => List.mem_cons_of_mem _ (List.mem_append_left _ (List.mem_append_right _ (h)))) hown hK hP 0 rfl rfl 16 (by decide) (hts (.fieldLink RX6 57 "NetcompareModel" "thrown" "I") (List.mem_cons_of_mem _ (List.mem_append_left _ (List.mem_append_left _ (List.mem_of_getElem? (i := 1) rfl))))) (fun _ h9 => h9) rfl dX6_addPart_140 ?_
          refine lv_if_le (tgt := 148) hx hb dX6_addPart_143 (by decide) (fun h9 => absurd h9 (by decide)) (fun _ => ?_)
          refine lv_iconst (v := (-1)) hx hb dX6_addPart_146 (by decide) ?_
          exact ret _ 1 _ _ _ _ _ _ (Or.inl (⟨rfl, Or.inr (Or.inr (Or.inl (hi20)))⟩)) (hP.sub [0] rfl) (hK.sub [] rfl) (hD.sub [0] (by decide) rfl) hS (Nat.le_of_ble_eq_true rfl) (Nat.le_of_ble_eq_true rfl) dX6_addPart_147
      · skip
        have hc21 := hc
        refine lv_if_eq (tgt := 67) hx hb dX6_addPart_35 (by decide) (fun _ => ?_) (fun h9 => absurd (by decide) h9)
        refine lv_aload_n hx hb dX6_addPart_67 rfl (lv_at hl 1 rfl) ?_
        refine lv_iconst (v := 1) hx hb dX6_addPart_68 (by decide) ?_
        refine va_put (D := (dC, dI)) (ci := 9) (v := .int 1) (ty := .int) (C := RX6) (T := TX6) (N := 19) hx hb hts (fun w h => List.mem_cons_of_mem _ (List.mem_append_left _ (List.mem_append_right _ (h)))) tyX6 tyX6_ok nmX6 hown hK hP hD hS 0 rfl rfl 16 (by decide) (hts (.fieldLink RX6 57 "NetcompareModel" "thrown" "I") (List.mem_cons_of_mem _ (List.mem_append_left _ (List.mem_append_left _ (List.mem_of_getElem? (i := 1) rfl))))) (fun _ h9 => h9) rfl (by decide +kernel) rfl rfl (Nat.le_of_ble_eq_true rfl) dX6_addPart_69 (fun H locs hP hD hS => ?_)
        have hP : va_P (dC, dI) vwCl [(k0, .inr (9, [.ref kN, .ref kA, .ref kO, .ref kK, .ref kV, .ref kG, .ref kP, .ref kC, .ref kD, .ref kE, .ref kF, .ref kX, .ref kY, .int 0, .ref kT, .ref kU, .int 1, .int 0, .int 0])), (kN, .inl (cI, 2, .inl (fun _ => 0))), (kA, .inl (cI, 2, .inl (fun _ => 0)))] _ := hP
        have hD : va_D A [(k0, .inr (9, [.ref kN, .ref kA, .ref kO, .ref kK, .ref kV, .ref kG, .ref kP, .ref kC, .ref kD, .ref kE, .ref kF, .ref kX, .ref kY, .int 0, .ref kT, .ref kU, .int 1, .int 0, .int 0])), (kN, .inl (cI, 2, .inl (fun _ => 0))), (kA, .inl (cI, 2, .inl (fun _ => 0)))] := hD
        refine lv_goto (tgt := 139) hx hb dX6_addPart_72 (by decide) ?_
        refine lv_aload_n hx hb dX6_addPart_139 rfl (lv_at hl 1 rfl) ?_
        refine va_get (D := (dC, dI)) (ci := 9) (v := .int 1) (C := RX6) (T := TX6) (N := 19) hx hb hts (fun w h => List.mem_cons_of_mem _ (List.mem_append_left _ (List.mem_append_right _ (h)))) hown hK hP 0 rfl rfl 16 (by decide) (hts (.fieldLink RX6 57 "NetcompareModel" "thrown" "I") (List.mem_cons_of_mem _ (List.mem_append_left _ (List.mem_append_left _ (List.mem_of_getElem? (i := 1) rfl))))) (fun _ h9 => h9) rfl dX6_addPart_140 ?_
        refine lv_if_le (tgt := 148) hx hb dX6_addPart_143 (by decide) (fun h9 => absurd h9 (by decide)) (fun _ => ?_)
        refine lv_iconst (v := (-1)) hx hb dX6_addPart_146 (by decide) ?_
        exact ret _ 1 _ _ _ _ _ _ (Or.inl (⟨rfl, Or.inl (hc21)⟩)) (hP.sub [0] rfl) (hK.sub [] rfl) (hD.sub [0] (by decide) rfl) hS (Nat.le_of_ble_eq_true rfl) (Nat.le_of_ble_eq_true rfl) dX6_addPart_147
    · skip
      refine lv_iload_n hx hb dX6_addPart_12 rfl (lv_at hl 2 rfl) ?_
      refine lv_bipush (v := 100) hx hb dX6_addPart_13 (by decide) ?_
      refine lv_icmp_eq (tgt := 24) hx hb dX6_addPart_15 (by decide) (fun h22 => ?_) (fun h22 => ?_)
      · skip
        refine lv_iconst (v := 1) hx hb dX6_addPart_24 (by decide) ?_
        refine lv_goto (tgt := 29) hx hb dX6_addPart_25 (by decide) ?_
        refine lv_istore (lv' := [(7, .int 1), (0, .ref k0), (1, .int p0), (2, .int p1), (3, .int p2), (4, .int p3), (5, .int p4), (6, .int p5)]) hx hb dX6_addPart_29 hl (Nat.le_of_ble_eq_true rfl) rfl (fun ls hl => ?_)
        refine lv_iload_n hx hb dX6_addPart_31 rfl (lv_at hl 2 rfl) ?_
        have hPc := hP.sub (ws' := []) [] rfl
        have hDc := hD.sub (ws' := []) [] (by decide) rfl
        have hKc := hK.sub (tys' := []) [] rfl
        have hFc := va_free (wc := []) hD hS hA [] rfl
        refine va_calli (va_runS (As := [.int p0]) (rest := []) ⟨hx, hb, hml, hown, hts⟩ (kX6_isCircuit l dC dI p0 s.heap.size) (va_cwS 1 hts gX6_addPart_X6_isCircuit rfl rfl rfl (by decide +kernel) ⟨Nat.le_of_ble_eq_true rfl, Nat.le_of_ble_eq_true rfl⟩) (fPreS hN hZ hS (fun q h => hFc q h) hPc hKc hDc) rfl rfl hl.1 rfl (lv_room (Nat.le_of_ble_eq_true rfl)) dX6_addPart_32 ⟨Nat.le_of_ble_eq_true rfl, Nat.le_of_ble_eq_true rfl⟩) hS (fun q _ h => hFc q h) hFc (fun r u t H1 locs ht hvm hw hB hz1 hk1 hS => ?_)
        obtain ⟨hP1, hK1, hD1⟩ := hB
        rw [ht] at hP1
        have hK1 := va_K.moved hvm.symm hK1
        obtain ⟨hP, hD⟩ := va_join (wr := [(k0, .inr (9, [.ref kN, .ref kA, .ref kO, .ref kK, .ref kV, .ref kG, .ref kP, .ref kC, .ref kD, .ref kE, .ref kF, .ref kX, .ref kY, .int 0, .ref kT, .ref kU, .int 0, .int 0, .int 0])), (kN, .inl (cI, 2, .inl (fun _ => 0))), (kA, .inl (cI, 2, .inl (fun _ => 0)))]) (w1 := []) hP hD [] [0, 1, 2] rfl rfl (by decide) (by decide) hk1 hFc hP1 hD1
        generalize H1 = H at hP hS ⊢
        have hP : va_P (dC, dI) vwCl [(k0, .inr (9, [.ref kN, .ref kA, .ref kO, .ref kK, .ref kV, .ref kG, .ref kP, .ref kC, .ref kD, .ref kE, .ref kF, .ref kX, .ref kY, .int 0, .ref kT, .ref kU, .int 0, .int 0, .int 0])), (kN, .inl (cI, 2, .inl (fun _ => 0))), (kA, .inl (cI, 2, .inl (fun _ => 0)))] _ := hP
        have hD : va_D A [(k0, .inr (9, [.ref kN, .ref kA, .ref kO, .ref kK, .ref kV, .ref kG, .ref kP, .ref kC, .ref kD, .ref kE, .ref kF, .ref kX, .ref kY, .int 0, .ref kT, .ref kU, .int 0, .int 0, .int 0])), (kN, .inl (cI, 2, .inl (fun _ => 0))), (kA, .inl (cI, 2, .inl (fun _ => 0)))] := hD
        rcases hw with ⟨rfl, hc | hc⟩ | ⟨rfl, hc⟩
        · skip
          subst hc
          have hP : va_P (dC, dI) vwCl [(k0, .inr (9, [.ref kN, .ref kA, .ref kO, .ref kK, .ref kV, .ref kG, .ref kP, .ref kC, .ref kD, .ref kE, .ref kF, .ref kX, .ref kY, .int 0, .ref kT, .ref kU, .int 0, .int 0, .int 0])), (kN, .inl (cI, 2, .inl (fun _ => 0))), (kA, .inl (cI, 2, .inl (fun _ => 0)))] _ := hP
          have hD : va_D A [(k0, .inr (9, [.ref kN, .ref kA, .ref kO, .ref kK, .ref kV, .ref kG, .ref kP, .ref kC, .ref kD, .ref kE, .ref kF, .ref kX, .ref kY, .int 0, .ref kT, .ref kU, .int 0, .int 0, .int 0])), (kN, .inl (cI, 2, .inl (fun _ => 0))), (kA, .inl (cI, 2, .inl (fun _ => 0)))] := hD
          refine lv_if_eq (tgt := 67) hx hb dX6_addPart_35 (by decide) (fun h9 => absurd h9 (by decide)) (fun _ => ?_)
          refine lv_iload hx hb dX6_addPart_38 (lv_at hl 0 rfl) ?_
          refine lv_if_eq (tgt := 67) hx hb dX6_addPart_40 (by decide) (fun h9 => absurd h9 (by decide)) (fun _ => ?_)
          refine lv_iload_n hx hb dX6_addPart_43 rfl (lv_at hl 4 rfl) ?_
          refine lv_i2l (v := p2.toInt64) hx hb dX6_addPart_44 rfl ?_
          refine lv_lconst (v := 1) hx hb dX6_addPart_45 (by decide) ?_
          refine lv_ldc2 (v := 999) hx hb hown (hts (.constantLong RX6 92 (999)) (List.mem_cons_of_mem _ (List.mem_append_left _ (List.mem_append_left _ (List.mem_of_getElem? (i := 0) rfl))))) dX6_addPart_46 ?_
          have hPc := hP.sub (ws' := []) [] rfl
          have hDc := hD.sub (ws' := []) [] (by decide) rfl
          have hKc := hK.sub (tys' := []) [] rfl
          have hFc := va_free (wc := []) hD hS hA [] rfl
          refine va_calli (va_runS (As := [.long p2.toInt64, .long 1, .long 999]) (rest := []) ⟨hx, hb, hml, hown, hts⟩ (kX6_in l dC dI p2.toInt64 1 999 H.size) (va_cwS 3 hts gX6_addPart_X6_in rfl rfl rfl (by decide +kernel) ⟨Nat.le_of_ble_eq_true rfl, Nat.le_of_ble_eq_true rfl⟩) (fPreS hN hZ hS (fun q h => hFc q h) hPc hKc hDc) rfl rfl hl.1 rfl (lv_room (Nat.le_of_ble_eq_true rfl)) dX6_addPart_49 ⟨Nat.le_of_ble_eq_true rfl, Nat.le_of_ble_eq_true rfl⟩) hS (fun q _ h => hFc q h) hFc (fun r u t H1 locs ht hvm hw hB hz1 hk1 hS => ?_)
          obtain ⟨hP1, hK1, hD1⟩ := hB
          rw [ht] at hP1
          have hK1 := va_K.moved hvm.symm hK1
          obtain ⟨hP, hD⟩ := va_join (wr := [(k0, .inr (9, [.ref kN, .ref kA, .ref kO, .ref kK, .ref kV, .ref kG, .ref kP, .ref kC, .ref kD, .ref kE, .ref kF, .ref kX, .ref kY, .int 0, .ref kT, .ref kU, .int 0, .int 0, .int 0])), (kN, .inl (cI, 2, .inl (fun _ => 0))), (kA, .inl (cI, 2, .inl (fun _ => 0)))]) (w1 := []) hP hD [] [0, 1, 2] rfl rfl (by decide) (by decide) hk1 hFc hP1 hD1
          generalize H1 = H at hP hS ⊢
          have hP : va_P (dC, dI) vwCl [(k0, .inr (9, [.ref kN, .ref kA, .ref kO, .ref kK, .ref kV, .ref kG, .ref kP, .ref kC, .ref kD, .ref kE, .ref kF, .ref kX, .ref kY, .int 0, .ref kT, .ref kU, .int 0, .int 0, .int 0])), (kN, .inl (cI, 2, .inl (fun _ => 0))), (kA, .inl (cI, 2, .inl (fun _ => 0)))] _ := hP
          have hD : va_D A [(k0, .inr (9, [.ref kN, .ref kA, .ref kO, .ref kK, .ref kV, .ref kG, .ref kP, .ref kC, .ref kD, .ref kE, .ref kF, .ref kX, .ref kY, .int 0, .ref kT, .ref kU, .int 0, .int 0, .int 0])), (kN, .inl (cI, 2, .inl (fun _ => 0))), (kA, .inl (cI, 2, .inl (fun _ => 0)))] := hD
          rcases hw with ⟨rfl, hi9⟩ | ⟨rfl, hi9⟩
          · skip
            have hi23 : ((¬ (p2 < 1)) ∧ (¬ (999 < p2))) := (fIn p2 1 999 1 999 (by decide) (by decide)).mp hi9
            refine lv_if_eq (tgt := 67) hx hb dX6_addPart_52 (by decide) (fun h9 => absurd h9 (by decide)) (fun _ => ?_)
            refine lv_iload_n hx hb dX6_addPart_55 rfl (lv_at hl 3 rfl) ?_
            refine lv_bipush (v := 116) hx hb dX6_addPart_56 (by decide) ?_
            refine lv_icmp_eq (tgt := 75) hx hb dX6_addPart_58 (by decide) (fun h24 => ?_) (fun h24 => ?_)
            · skip
              refine lv_aload_n hx hb dX6_addPart_75 rfl (lv_at hl 1 rfl) ?_
              refine lv_iload_n hx hb dX6_addPart_76 rfl (lv_at hl 2 rfl) ?_
              refine lv_iload hx hb dX6_addPart_77 (lv_at hl 5 rfl) ?_
              have hPc := hP.sub (ws' := [(k0, .inr (9, [.ref kN, .ref kA, .ref kO, .ref kK, .ref kV, .ref kG, .ref kP, .ref kC, .ref kD, .ref kE, .ref kF, .ref kX, .ref kY, .int 0, .ref kT, .ref kU, .int 0, .int 0, .int 0])), (kN, .inl (cI, 2, .inl (fun _ => 0)))]) [0, 1] rfl
              have hDc := hD.sub (ws' := [(k0, .inr (9, [.ref kN, .ref kA, .ref kO, .ref kK, .ref kV, .ref kG, .ref kP, .ref kC, .ref kD, .ref kE, .ref kF, .ref kX, .ref kY, .int 0, .ref kT, .ref kU, .int 0, .int 0, .int 0])), (kN, .inl (cI, 2, .inl (fun _ => 0)))]) [0, 1] (by decide) rfl
              have hKc := hK.sub (tys' := [(cI, .int)]) [0] rfl
              have hFc := va_free (wc := [(k0, .inr (9, [.ref kN, .ref kA, .ref kO, .ref kK, .ref kV, .ref kG, .ref kP, .ref kC, .ref kD, .ref kE, .ref kF, .ref kX, .ref kY, .int 0, .ref kT, .ref kU, .int 0, .int 0, .int 0])), (kN, .inl (cI, 2, .inl (fun _ => 0)))]) hD hS hA [0, 1] rfl
              refine va_calli (va_runV (As := [.int 0, .int p3]) (rest := []) ⟨hx, hb, hml, hown, hts⟩ (kX6_isNet0 l dC dI k0 kN kA kO kK kV kG kP kC kD kE kF kX kY kT kU cI p3 H.size) (cwV 2 hts gX6_addPart_X6_isNet rfl rfl rfl (by decide +kernel) ⟨Nat.le_of_ble_eq_true rfl, Nat.le_of_ble_eq_true rfl⟩) (fPreV hN hZ hS (fun q h => hFc q h) hPc hKc hDc (ci := 9) (q0 := 0) rfl rfl) rfl rfl hl.1 rfl (lv_room (Nat.le_of_ble_eq_true rfl)) dX6_addPart_79 ⟨Nat.le_of_ble_eq_true rfl, Nat.le_of_ble_eq_true rfl⟩) hS (fun q _ h => hFc q h) hFc (fun r u t H1 locs ht hvm hw hB hz1 hk1 hS => ?_)
              obtain ⟨hP1, hK1, hD1⟩ := hB
              rw [ht] at hP1
              have hK1 := va_K.moved hvm.symm hK1
              obtain ⟨hP, hD⟩ := va_join (wr := [(kA, .inl (cI, 2, .inl (fun _ => 0)))]) (w1 := [(k0, .inr (9, [.ref kN, .ref kA, .ref kO, .ref kK, .ref kV, .ref kG, .ref kP, .ref kC, .ref kD, .ref kE, .ref kF, .ref kX, .ref kY, .int 0, .ref kT, .ref kU, .int 0, .int 0, .int 0])), (kN, .inl (cI, 2, .inl (fun _ => 0)))]) hP hD [0, 1] [2] rfl rfl (by decide) (by decide) hk1 hFc hP1 hD1
              generalize H1 = H at hP hS ⊢
              have hP : va_P (dC, dI) vwCl [(kA, .inl (cI, 2, .inl (fun _ => 0))), (k0, .inr (9, [.ref kN, .ref kA, .ref kO, .ref kK, .ref kV, .ref kG, .ref kP, .ref kC, .ref kD, .ref kE, .ref kF, .ref kX, .ref kY, .int 0, .ref kT, .ref kU, .int 0, .int 0, .int 0])), (kN, .inl (cI, 2, .inl (fun _ => 0)))] _ := hP
              have hD : va_D A [(kA, .inl (cI, 2, .inl (fun _ => 0))), (k0, .inr (9, [.ref kN, .ref kA, .ref kO, .ref kK, .ref kV, .ref kG, .ref kP, .ref kC, .ref kD, .ref kE, .ref kF, .ref kX, .ref kY, .int 0, .ref kT, .ref kU, .int 0, .int 0, .int 0])), (kN, .inl (cI, 2, .inl (fun _ => 0)))] := hD
              subst hw
              refine lv_if_eq (tgt := 111) hx hb dX6_addPart_82 (by decide) (fun _ => ?_) (fun h9 => absurd (by decide) h9)
              refine lv_aload_n hx hb dX6_addPart_111 rfl (lv_at hl 1 rfl) ?_
              refine lv_iconst (v := 2) hx hb dX6_addPart_112 (by decide) ?_
              refine va_put (D := (dC, dI)) (ci := 9) (v := .int 2) (ty := .int) (C := RX6) (T := TX6) (N := 19) hx hb hts (fun w h => List.mem_cons_of_mem _ (List.mem_append_left _ (List.mem_append_right _ (h)))) tyX6 tyX6_ok nmX6 hown hK hP hD hS 1 rfl rfl 16 (by decide) (hts (.fieldLink RX6 57 "NetcompareModel" "thrown" "I") (List.mem_cons_of_mem _ (List.mem_append_left _ (List.mem_append_left _ (List.mem_of_getElem? (i := 1) rfl))))) (fun _ h9 => h9) rfl (by decide +kernel) rfl rfl (Nat.le_of_ble_eq_true rfl) dX6_addPart_113 (fun H locs hP hD hS => ?_)
              have hP : va_P (dC, dI) vwCl [(kA, .inl (cI, 2, .inl (fun _ => 0))), (k0, .inr (9, [.ref kN, .ref kA, .ref kO, .ref kK, .ref kV, .ref kG, .ref kP, .ref kC, .ref kD, .ref kE, .ref kF, .ref kX, .ref kY, .int 0, .ref kT, .ref kU, .int 2, .int 0, .int 0])), (kN, .inl (cI, 2, .inl (fun _ => 0)))] _ := hP
              have hD : va_D A [(kA, .inl (cI, 2, .inl (fun _ => 0))), (k0, .inr (9, [.ref kN, .ref kA, .ref kO, .ref kK, .ref kV, .ref kG, .ref kP, .ref kC, .ref kD, .ref kE, .ref kF, .ref kX, .ref kY, .int 0, .ref kT, .ref kU, .int 2, .int 0, .int 0])), (kN, .inl (cI, 2, .inl (fun _ => 0)))] := hD
              refine lv_goto (tgt := 139) hx hb dX6_addPart_116 (by decide) ?_
              refine lv_aload_n hx hb dX6_addPart_139 rfl (lv_at hl 1 rfl) ?_
              refine va_get (D := (dC, dI)) (ci := 9) (v := .int 2) (C := RX6) (T := TX6) (N := 19) hx hb hts (fun w h => List.mem_cons_of_mem _ (List.mem_append_left _ (List.mem_append_right _ (h)))) hown hK hP 1 rfl rfl 16 (by decide) (hts (.fieldLink RX6 57 "NetcompareModel" "thrown" "I") (List.mem_cons_of_mem _ (List.mem_append_left _ (List.mem_append_left _ (List.mem_of_getElem? (i := 1) rfl))))) (fun _ h9 => h9) rfl dX6_addPart_140 ?_
              refine lv_if_le (tgt := 148) hx hb dX6_addPart_143 (by decide) (fun h9 => absurd h9 (by decide)) (fun _ => ?_)
              refine lv_iconst (v := (-1)) hx hb dX6_addPart_146 (by decide) ?_
              exact ret _ 2 _ _ _ _ _ _ (Or.inr (⟨rfl, (fun h9 => h9.elim ((fun h9 => h9 (Or.inl (rfl)))) ((fun h9 => h9.elim ((fun h9 => h9 (Or.inr (Or.inr (Or.inl (h22)))))) ((fun h9 => h9.elim ((fun h9 => h9 (hi23))) ((fun h9 => ((fun h9 => h9 (h24))) h9.1)))))))⟩)) (hP.sub [1] rfl) (hK.sub [] rfl) (hD.sub [1] (by decide) rfl) hS (Nat.le_of_ble_eq_true rfl) (Nat.le_of_ble_eq_true rfl) dX6_addPart_147
            · skip
              refine lv_iload hx hb dX6_addPart_61 (lv_at hl 7 rfl) ?_
              refine lv_iconst (v := (-1)) hx hb dX6_addPart_63 (by decide) ?_
              refine lv_icmp_eq (tgt := 75) hx hb dX6_addPart_64 (by decide) (fun h25 => ?_) (fun h25 => ?_)
              · skip
                refine lv_aload_n hx hb dX6_addPart_75 rfl (lv_at hl 1 rfl) ?_
                refine lv_iload_n hx hb dX6_addPart_76 rfl (lv_at hl 2 rfl) ?_
                refine lv_iload hx hb dX6_addPart_77 (lv_at hl 5 rfl) ?_
                have hPc := hP.sub (ws' := [(k0, .inr (9, [.ref kN, .ref kA, .ref kO, .ref kK, .ref kV, .ref kG, .ref kP, .ref kC, .ref kD, .ref kE, .ref kF, .ref kX, .ref kY, .int 0, .ref kT, .ref kU, .int 0, .int 0, .int 0])), (kN, .inl (cI, 2, .inl (fun _ => 0)))]) [0, 1] rfl
                have hDc := hD.sub (ws' := [(k0, .inr (9, [.ref kN, .ref kA, .ref kO, .ref kK, .ref kV, .ref kG, .ref kP, .ref kC, .ref kD, .ref kE, .ref kF, .ref kX, .ref kY, .int 0, .ref kT, .ref kU, .int 0, .int 0, .int 0])), (kN, .inl (cI, 2, .inl (fun _ => 0)))]) [0, 1] (by decide) rfl
                have hKc := hK.sub (tys' := [(cI, .int)]) [0] rfl
                have hFc := va_free (wc := [(k0, .inr (9, [.ref kN, .ref kA, .ref kO, .ref kK, .ref kV, .ref kG, .ref kP, .ref kC, .ref kD, .ref kE, .ref kF, .ref kX, .ref kY, .int 0, .ref kT, .ref kU, .int 0, .int 0, .int 0])), (kN, .inl (cI, 2, .inl (fun _ => 0)))]) hD hS hA [0, 1] rfl
                refine va_calli (va_runV (As := [.int 0, .int p3]) (rest := []) ⟨hx, hb, hml, hown, hts⟩ (kX6_isNet0 l dC dI k0 kN kA kO kK kV kG kP kC kD kE kF kX kY kT kU cI p3 H.size) (cwV 2 hts gX6_addPart_X6_isNet rfl rfl rfl (by decide +kernel) ⟨Nat.le_of_ble_eq_true rfl, Nat.le_of_ble_eq_true rfl⟩) (fPreV hN hZ hS (fun q h => hFc q h) hPc hKc hDc (ci := 9) (q0 := 0) rfl rfl) rfl rfl hl.1 rfl (lv_room (Nat.le_of_ble_eq_true rfl)) dX6_addPart_79 ⟨Nat.le_of_ble_eq_true rfl, Nat.le_of_ble_eq_true rfl⟩) hS (fun q _ h => hFc q h) hFc (fun r u t H1 locs ht hvm hw hB hz1 hk1 hS => ?_)
                obtain ⟨hP1, hK1, hD1⟩ := hB
                rw [ht] at hP1
                have hK1 := va_K.moved hvm.symm hK1
                obtain ⟨hP, hD⟩ := va_join (wr := [(kA, .inl (cI, 2, .inl (fun _ => 0)))]) (w1 := [(k0, .inr (9, [.ref kN, .ref kA, .ref kO, .ref kK, .ref kV, .ref kG, .ref kP, .ref kC, .ref kD, .ref kE, .ref kF, .ref kX, .ref kY, .int 0, .ref kT, .ref kU, .int 0, .int 0, .int 0])), (kN, .inl (cI, 2, .inl (fun _ => 0)))]) hP hD [0, 1] [2] rfl rfl (by decide) (by decide) hk1 hFc hP1 hD1
                generalize H1 = H at hP hS ⊢
                have hP : va_P (dC, dI) vwCl [(kA, .inl (cI, 2, .inl (fun _ => 0))), (k0, .inr (9, [.ref kN, .ref kA, .ref kO, .ref kK, .ref kV, .ref kG, .ref kP, .ref kC, .ref kD, .ref kE, .ref kF, .ref kX, .ref kY, .int 0, .ref kT, .ref kU, .int 0, .int 0, .int 0])), (kN, .inl (cI, 2, .inl (fun _ => 0)))] _ := hP
                have hD : va_D A [(kA, .inl (cI, 2, .inl (fun _ => 0))), (k0, .inr (9, [.ref kN, .ref kA, .ref kO, .ref kK, .ref kV, .ref kG, .ref kP, .ref kC, .ref kD, .ref kE, .ref kF, .ref kX, .ref kY, .int 0, .ref kT, .ref kU, .int 0, .int 0, .int 0])), (kN, .inl (cI, 2, .inl (fun _ => 0)))] := hD
                subst hw
                refine lv_if_eq (tgt := 111) hx hb dX6_addPart_82 (by decide) (fun _ => ?_) (fun h9 => absurd (by decide) h9)
                refine lv_aload_n hx hb dX6_addPart_111 rfl (lv_at hl 1 rfl) ?_
                refine lv_iconst (v := 2) hx hb dX6_addPart_112 (by decide) ?_
                refine va_put (D := (dC, dI)) (ci := 9) (v := .int 2) (ty := .int) (C := RX6) (T := TX6) (N := 19) hx hb hts (fun w h => List.mem_cons_of_mem _ (List.mem_append_left _ (List.mem_append_right _ (h)))) tyX6 tyX6_ok nmX6 hown hK hP hD hS 1 rfl rfl 16 (by decide) (hts (.fieldLink RX6 57 "NetcompareModel" "thrown" "I") (List.mem_cons_of_mem _ (List.mem_append_left _ (List.mem_append_left _ (List.mem_of_getElem? (i := 1) rfl))))) (fun _ h9 => h9) rfl (by decide +kernel) rfl rfl (Nat.le_of_ble_eq_true rfl) dX6_addPart_113 (fun H locs hP hD hS => ?_)
                have hP : va_P (dC, dI) vwCl [(kA, .inl (cI, 2, .inl (fun _ => 0))), (k0, .inr (9, [.ref kN, .ref kA, .ref kO, .ref kK, .ref kV, .ref kG, .ref kP, .ref kC, .ref kD, .ref kE, .ref kF, .ref kX, .ref kY, .int 0, .ref kT, .ref kU, .int 2, .int 0, .int 0])), (kN, .inl (cI, 2, .inl (fun _ => 0)))] _ := hP
                have hD : va_D A [(kA, .inl (cI, 2, .inl (fun _ => 0))), (k0, .inr (9, [.ref kN, .ref kA, .ref kO, .ref kK, .ref kV, .ref kG, .ref kP, .ref kC, .ref kD, .ref kE, .ref kF, .ref kX, .ref kY, .int 0, .ref kT, .ref kU, .int 2, .int 0, .int 0])), (kN, .inl (cI, 2, .inl (fun _ => 0)))] := hD
                refine lv_goto (tgt := 139) hx hb dX6_addPart_116 (by decide) ?_
                refine lv_aload_n hx hb dX6_addPart_139 rfl (lv_at hl 1 rfl) ?_
                refine va_get (D := (dC, dI)) (ci := 9) (v := .int 2) (C := RX6) (T := TX6) (N := 19) hx hb hts (fun w h => List.mem_cons_of_mem _ (List.mem_append_left _ (List.mem_append_right _ (h)))) hown hK hP 1 rfl rfl 16 (by decide) (hts (.fieldLink RX6 57 "NetcompareModel" "thrown" "I") (List.mem_cons_of_mem _ (List.mem_append_left _ (List.mem_append_left _ (List.mem_of_getElem? (i := 1) rfl))))) (fun _ h9 => h9) rfl dX6_addPart_140 ?_
                refine lv_if_le (tgt := 148) hx hb dX6_addPart_143 (by decide) (fun h9 => absurd h9 (by decide)) (fun _ => ?_)
                refine lv_iconst (v := (-1)) hx hb dX6_addPart_146 (by decide) ?_
                exact ret _ 2 _ _ _ _ _ _ (Or.inr (⟨rfl, (fun h9 => h9.elim ((fun h9 => h9 (Or.inl (rfl)))) ((fun h9 => h9.elim ((fun h9 => h9 (Or.inr (Or.inr (Or.inl (h22)))))) ((fun h9 => h9.elim ((fun h9 => h9 (hi23))) ((fun h9 => ((fun h9 => h9 (h25))) h9.2)))))))⟩)) (hP.sub [1] rfl) (hK.sub [] rfl) (hD.sub [1] (by decide) rfl) hS (Nat.le_of_ble_eq_true rfl) (Nat.le_of_ble_eq_true rfl) dX6_addPart_147
              · skip
                refine lv_aload_n hx hb dX6_addPart_67 rfl (lv_at hl 1 rfl) ?_
                refine lv_iconst (v := 1) hx hb dX6_addPart_68 (by decide) ?_
                refine va_put (D := (dC, dI)) (ci := 9) (v := .int 1) (ty := .int) (C := RX6) (T := TX6) (N := 19) hx hb hts (fun w h => List.mem_cons_of_mem _ (List.mem_append_left _ (List.mem_append_right _ (h)))) tyX6 tyX6_ok nmX6 hown hK hP hD hS 0 rfl rfl 16 (by decide) (hts (.fieldLink RX6 57 "NetcompareModel" "thrown" "I") (List.mem_cons_of_mem _ (List.mem_append_left _ (List.mem_append_left _ (List.mem_of_getElem? (i := 1) rfl))))) (fun _ h9 => h9) rfl (by decide +kernel) rfl rfl (Nat.le_of_ble_eq_true rfl) dX6_addPart_69 (fun H locs hP hD hS => ?_)
                have hP : va_P (dC, dI) vwCl [(k0, .inr (9, [.ref kN, .ref kA, .ref kO, .ref kK, .ref kV, .ref kG, .ref kP, .ref kC, .ref kD, .ref kE, .ref kF, .ref kX, .ref kY, .int 0, .ref kT, .ref kU, .int 1, .int 0, .int 0])), (kN, .inl (cI, 2, .inl (fun _ => 0))), (kA, .inl (cI, 2, .inl (fun _ => 0)))] _ := hP
                have hD : va_D A [(k0, .inr (9, [.ref kN, .ref kA, .ref kO, .ref kK, .ref kV, .ref kG, .ref kP, .ref kC, .ref kD, .ref kE, .ref kF, .ref kX, .ref kY, .int 0, .ref kT, .ref kU, .int 1, .int 0, .int 0])), (kN, .inl (cI, 2, .inl (fun _ => 0))), (kA, .inl (cI, 2, .inl (fun _ => 0)))] := hD
                refine lv_goto (tgt := 139) hx hb dX6_addPart_72 (by decide) ?_
                refine lv_aload_n hx hb dX6_addPart_139 rfl (lv_at hl 1 rfl) ?_
                refine va_get (D := (dC, dI)) (ci := 9) (v := .int 1) (C := RX6) (T := TX6) (N := 19) hx hb hts (fun w h => List.mem_cons_of_mem _ (List.mem_append_left _ (List.mem_append_right _ (h)))) hown hK hP 0 rfl rfl 16 (by decide) (hts (.fieldLink RX6 57 "NetcompareModel" "thrown" "I") (List.mem_cons_of_mem _ (List.mem_append_left _ (List.mem_append_left _ (List.mem_of_getElem? (i := 1) rfl))))) (fun _ h9 => h9) rfl dX6_addPart_140 ?_
                refine lv_if_le (tgt := 148) hx hb dX6_addPart_143 (by decide) (fun h9 => absurd h9 (by decide)) (fun _ => ?_)
                refine lv_iconst (v := (-1)) hx hb dX6_addPart_146 (by decide) ?_
                exact ret _ 1 _ _ _ _ _ _ (Or.inl (⟨rfl, Or.inr (Or.inr (Or.inr (⟨h24, h25⟩)))⟩)) (hP.sub [0] rfl) (hK.sub [] rfl) (hD.sub [0] (by decide) rfl) hS (Nat.le_of_ble_eq_true rfl) (Nat.le_of_ble_eq_true rfl) dX6_addPart_147
          · skip
            have hi26 : ¬ ((¬ (p2 < 1)) ∧ (¬ (999 < p2))) := fun q => hi9 ((fIn p2 1 999 1 999 (by decide) (by decide)).mpr q)
            refine lv_if_eq (tgt := 67) hx hb dX6_addPart_52 (by decide) (fun _ => ?_) (fun h9 => absurd (by decide) h9)
            refine lv_aload_n hx hb dX6_addPart_67 rfl (lv_at hl 1 rfl) ?_
            refine lv_iconst (v := 1) hx hb dX6_addPart_68 (by decide) ?_
            refine va_put (D := (dC, dI)) (ci := 9) (v := .int 1) (ty := .int) (C := RX6) (T := TX6) (N := 19) hx hb hts (fun w h => List.mem_cons_of_mem _ (List.mem_append_left _ (List.mem_append_right _ (h)))) tyX6 tyX6_ok nmX6 hown hK hP hD hS 0 rfl rfl 16 (by decide) (hts (.fieldLink RX6 57 "NetcompareModel" "thrown" "I") (List.mem_cons_of_mem _ (List.mem_append_left _ (List.mem_append_left _ (List.mem_of_getElem? (i := 1) rfl))))) (fun _ h9 => h9) rfl (by decide +kernel) rfl rfl (Nat.le_of_ble_eq_true rfl) dX6_addPart_69 (fun H locs hP hD hS => ?_)
            have hP : va_P (dC, dI) vwCl [(k0, .inr (9, [.ref kN, .ref kA, .ref kO, .ref kK, .ref kV, .ref kG, .ref kP, .ref kC, .ref kD, .ref kE, .ref kF, .ref kX, .ref kY, .int 0, .ref kT, .ref kU, .int 1, .int 0, .int 0])), (kN, .inl (cI, 2, .inl (fun _ => 0))), (kA, .inl (cI, 2, .inl (fun _ => 0)))] _ := hP
            have hD : va_D A [(k0, .inr (9, [.ref kN, .ref kA, .ref kO, .ref kK, .ref kV, .ref kG, .ref kP, .ref kC, .ref kD, .ref kE, .ref kF, .ref kX, .ref kY, .int 0, .ref kT, .ref kU, .int 1, .int 0, .int 0])), (kN, .inl (cI, 2, .inl (fun _ => 0))), (kA, .inl (cI, 2, .inl (fun _ => 0)))] := hD
            refine lv_goto (tgt := 139) hx hb dX6_addPart_72 (by decide) ?_
            refine lv_aload_n hx hb dX6_addPart_139 rfl (lv_at hl 1 rfl) ?_
            refine va_get (D := (dC, dI)) (ci := 9) (v := .int 1) (C := RX6) (T := TX6) (N := 19) hx hb hts (fun w h => List.mem_cons_of_mem _ (List.mem_append_left _ (List.mem_append_right _ (h)))) hown hK hP 0 rfl rfl 16 (by decide) (hts (.fieldLink RX6 57 "NetcompareModel" "thrown" "I") (List.mem_cons_of_mem _ (List.mem_append_left _ (List.mem_append_left _ (List.mem_of_getElem? (i := 1) rfl))))) (fun _ h9 => h9) rfl dX6_addPart_140 ?_
            refine lv_if_le (tgt := 148) hx hb dX6_addPart_143 (by decide) (fun h9 => absurd h9 (by decide)) (fun _ => ?_)
            refine lv_iconst (v := (-1)) hx hb dX6_addPart_146 (by decide) ?_
            exact ret _ 1 _ _ _ _ _ _ (Or.inl (⟨rfl, Or.inr (Or.inr (Or.inl (hi26)))⟩)) (hP.sub [0] rfl) (hK.sub [] rfl) (hD.sub [0] (by decide) rfl) hS (Nat.le_of_ble_eq_true rfl) (Nat.le_of_ble_eq_true rfl) dX6_addPart_147
        · skip
          subst hc
          have hP : va_P (dC, dI) vwCl [(k0, .inr (9, [.ref kN, .ref kA, .ref kO, .ref kK, .ref kV, .ref kG, .ref kP, .ref kC, .ref kD, .ref kE, .ref kF, .ref kX, .ref kY, .int 0, .ref kT, .ref kU, .int 0, .int 0, .int 0])), (kN, .inl (cI, 2, .inl (fun _ => 0))), (kA, .inl (cI, 2, .inl (fun _ => 0)))] _ := hP
          have hD : va_D A [(k0, .inr (9, [.ref kN, .ref kA, .ref kO, .ref kK, .ref kV, .ref kG, .ref kP, .ref kC, .ref kD, .ref kE, .ref kF, .ref kX, .ref kY, .int 0, .ref kT, .ref kU, .int 0, .int 0, .int 0])), (kN, .inl (cI, 2, .inl (fun _ => 0))), (kA, .inl (cI, 2, .inl (fun _ => 0)))] := hD
          refine lv_if_eq (tgt := 67) hx hb dX6_addPart_35 (by decide) (fun h9 => absurd h9 (by decide)) (fun _ => ?_)
          refine lv_iload hx hb dX6_addPart_38 (lv_at hl 0 rfl) ?_
          refine lv_if_eq (tgt := 67) hx hb dX6_addPart_40 (by decide) (fun h9 => absurd h9 (by decide)) (fun _ => ?_)
          refine lv_iload_n hx hb dX6_addPart_43 rfl (lv_at hl 4 rfl) ?_
          refine lv_i2l (v := p2.toInt64) hx hb dX6_addPart_44 rfl ?_
          refine lv_lconst (v := 1) hx hb dX6_addPart_45 (by decide) ?_
          refine lv_ldc2 (v := 999) hx hb hown (hts (.constantLong RX6 92 (999)) (List.mem_cons_of_mem _ (List.mem_append_left _ (List.mem_append_left _ (List.mem_of_getElem? (i := 0) rfl))))) dX6_addPart_46 ?_
          have hPc := hP.sub (ws' := []) [] rfl
          have hDc := hD.sub (ws' := []) [] (by decide) rfl
          have hKc := hK.sub (tys' := []) [] rfl
          have hFc := va_free (wc := []) hD hS hA [] rfl
          refine va_calli (va_runS (As := [.long p2.toInt64, .long 1, .long 999]) (rest := []) ⟨hx, hb, hml, hown, hts⟩ (kX6_in l dC dI p2.toInt64 1 999 H.size) (va_cwS 3 hts gX6_addPart_X6_in rfl rfl rfl (by decide +kernel) ⟨Nat.le_of_ble_eq_true rfl, Nat.le_of_ble_eq_true rfl⟩) (fPreS hN hZ hS (fun q h => hFc q h) hPc hKc hDc) rfl rfl hl.1 rfl (lv_room (Nat.le_of_ble_eq_true rfl)) dX6_addPart_49 ⟨Nat.le_of_ble_eq_true rfl, Nat.le_of_ble_eq_true rfl⟩) hS (fun q _ h => hFc q h) hFc (fun r u t H1 locs ht hvm hw hB hz1 hk1 hS => ?_)
          obtain ⟨hP1, hK1, hD1⟩ := hB
          rw [ht] at hP1
          have hK1 := va_K.moved hvm.symm hK1
          obtain ⟨hP, hD⟩ := va_join (wr := [(k0, .inr (9, [.ref kN, .ref kA, .ref kO, .ref kK, .ref kV, .ref kG, .ref kP, .ref kC, .ref kD, .ref kE, .ref kF, .ref kX, .ref kY, .int 0, .ref kT, .ref kU, .int 0, .int 0, .int 0])), (kN, .inl (cI, 2, .inl (fun _ => 0))), (kA, .inl (cI, 2, .inl (fun _ => 0)))]) (w1 := []) hP hD [] [0, 1, 2] rfl rfl (by decide) (by decide) hk1 hFc hP1 hD1
          generalize H1 = H at hP hS ⊢
          have hP : va_P (dC, dI) vwCl [(k0, .inr (9, [.ref kN, .ref kA, .ref kO, .ref kK, .ref kV, .ref kG, .ref kP, .ref kC, .ref kD, .ref kE, .ref kF, .ref kX, .ref kY, .int 0, .ref kT, .ref kU, .int 0, .int 0, .int 0])), (kN, .inl (cI, 2, .inl (fun _ => 0))), (kA, .inl (cI, 2, .inl (fun _ => 0)))] _ := hP
          have hD : va_D A [(k0, .inr (9, [.ref kN, .ref kA, .ref kO, .ref kK, .ref kV, .ref kG, .ref kP, .ref kC, .ref kD, .ref kE, .ref kF, .ref kX, .ref kY, .int 0, .ref kT, .ref kU, .int 0, .int 0, .int 0])), (kN, .inl (cI, 2, .inl (fun _ => 0))), (kA, .inl (cI, 2, .inl (fun _ => 0)))] := hD
          rcases hw with ⟨rfl, hi9⟩ | ⟨rfl, hi9⟩
          · skip
            have hi27 : ((¬ (p2 < 1)) ∧ (¬ (999 < p2))) := (fIn p2 1 999 1 999 (by decide) (by decide)).mp hi9
            refine lv_if_eq (tgt := 67) hx hb dX6_addPart_52 (by decide) (fun h9 => absurd h9 (by decide)) (fun _ => ?_)
            refine lv_iload_n hx hb dX6_addPart_55 rfl (lv_at hl 3 rfl) ?_
            refine lv_bipush (v := 116) hx hb dX6_addPart_56 (by decide) ?_
            refine lv_icmp_eq (tgt := 75) hx hb dX6_addPart_58 (by decide) (fun h28 => ?_) (fun h28 => ?_)
            · skip
              refine lv_aload_n hx hb dX6_addPart_75 rfl (lv_at hl 1 rfl) ?_
              refine lv_iload_n hx hb dX6_addPart_76 rfl (lv_at hl 2 rfl) ?_
              refine lv_iload hx hb dX6_addPart_77 (lv_at hl 5 rfl) ?_
              have hPc := hP.sub (ws' := [(k0, .inr (9, [.ref kN, .ref kA, .ref kO, .ref kK, .ref kV, .ref kG, .ref kP, .ref kC, .ref kD, .ref kE, .ref kF, .ref kX, .ref kY, .int 0, .ref kT, .ref kU, .int 0, .int 0, .int 0])), (kN, .inl (cI, 2, .inl (fun _ => 0)))]) [0, 1] rfl
              have hDc := hD.sub (ws' := [(k0, .inr (9, [.ref kN, .ref kA, .ref kO, .ref kK, .ref kV, .ref kG, .ref kP, .ref kC, .ref kD, .ref kE, .ref kF, .ref kX, .ref kY, .int 0, .ref kT, .ref kU, .int 0, .int 0, .int 0])), (kN, .inl (cI, 2, .inl (fun _ => 0)))]) [0, 1] (by decide) rfl
              have hKc := hK.sub (tys' := [(cI, .int)]) [0] rfl
              have hFc := va_free (wc := [(k0, .inr (9, [.ref kN, .ref kA, .ref kO, .ref kK, .ref kV, .ref kG, .ref kP, .ref kC, .ref kD, .ref kE, .ref kF, .ref kX, .ref kY, .int 0, .ref kT, .ref kU, .int 0, .int 0, .int 0])), (kN, .inl (cI, 2, .inl (fun _ => 0)))]) hD hS hA [0, 1] rfl
              refine va_calli (va_runV (As := [.int 1, .int p3]) (rest := []) ⟨hx, hb, hml, hown, hts⟩ (kX6_isNet1 l dC dI k0 kN kA kO kK kV kG kP kC kD kE kF kX kY kT kU cI p3 H.size) (cwV 2 hts gX6_addPart_X6_isNet rfl rfl rfl (by decide +kernel) ⟨Nat.le_of_ble_eq_true rfl, Nat.le_of_ble_eq_true rfl⟩) (fPreV hN hZ hS (fun q h => hFc q h) hPc hKc hDc (ci := 9) (q0 := 0) rfl rfl) rfl rfl hl.1 rfl (lv_room (Nat.le_of_ble_eq_true rfl)) dX6_addPart_79 ⟨Nat.le_of_ble_eq_true rfl, Nat.le_of_ble_eq_true rfl⟩) hS (fun q _ h => hFc q h) hFc (fun r u t H1 locs ht hvm hw hB hz1 hk1 hS => ?_)
              obtain ⟨hP1, hK1, hD1⟩ := hB
              rw [ht] at hP1
              have hK1 := va_K.moved hvm.symm hK1
              obtain ⟨hP, hD⟩ := va_join (wr := [(kA, .inl (cI, 2, .inl (fun _ => 0)))]) (w1 := [(k0, .inr (9, [.ref kN, .ref kA, .ref kO, .ref kK, .ref kV, .ref kG, .ref kP, .ref kC, .ref kD, .ref kE, .ref kF, .ref kX, .ref kY, .int 0, .ref kT, .ref kU, .int 0, .int 0, .int 0])), (kN, .inl (cI, 2, .inl (fun _ => 0)))]) hP hD [0, 1] [2] rfl rfl (by decide) (by decide) hk1 hFc hP1 hD1
              generalize H1 = H at hP hS ⊢
              have hP : va_P (dC, dI) vwCl [(kA, .inl (cI, 2, .inl (fun _ => 0))), (k0, .inr (9, [.ref kN, .ref kA, .ref kO, .ref kK, .ref kV, .ref kG, .ref kP, .ref kC, .ref kD, .ref kE, .ref kF, .ref kX, .ref kY, .int 0, .ref kT, .ref kU, .int 0, .int 0, .int 0])), (kN, .inl (cI, 2, .inl (fun _ => 0)))] _ := hP
              have hD : va_D A [(kA, .inl (cI, 2, .inl (fun _ => 0))), (k0, .inr (9, [.ref kN, .ref kA, .ref kO, .ref kK, .ref kV, .ref kG, .ref kP, .ref kC, .ref kD, .ref kE, .ref kF, .ref kX, .ref kY, .int 0, .ref kT, .ref kU, .int 0, .int 0, .int 0])), (kN, .inl (cI, 2, .inl (fun _ => 0)))] := hD
              subst hw
              refine lv_if_eq (tgt := 111) hx hb dX6_addPart_82 (by decide) (fun _ => ?_) (fun h9 => absurd (by decide) h9)
              refine lv_aload_n hx hb dX6_addPart_111 rfl (lv_at hl 1 rfl) ?_
              refine lv_iconst (v := 2) hx hb dX6_addPart_112 (by decide) ?_
              refine va_put (D := (dC, dI)) (ci := 9) (v := .int 2) (ty := .int) (C := RX6) (T := TX6) (N := 19) hx hb hts (fun w h => List.mem_cons_of_mem _ (List.mem_append_left _ (List.mem_append_right _ (h)))) tyX6 tyX6_ok nmX6 hown hK hP hD hS 1 rfl rfl 16 (by decide) (hts (.fieldLink RX6 57 "NetcompareModel" "thrown" "I") (List.mem_cons_of_mem _ (List.mem_append_left _ (List.mem_append_left _ (List.mem_of_getElem? (i := 1) rfl))))) (fun _ h9 => h9) rfl (by decide +kernel) rfl rfl (Nat.le_of_ble_eq_true rfl) dX6_addPart_113 (fun H locs hP hD hS => ?_)
              have hP : va_P (dC, dI) vwCl [(kA, .inl (cI, 2, .inl (fun _ => 0))), (k0, .inr (9, [.ref kN, .ref kA, .ref kO, .ref kK, .ref kV, .ref kG, .ref kP, .ref kC, .ref kD, .ref kE, .ref kF, .ref kX, .ref kY, .int 0, .ref kT, .ref kU, .int 2, .int 0, .int 0])), (kN, .inl (cI, 2, .inl (fun _ => 0)))] _ := hP
              have hD : va_D A [(kA, .inl (cI, 2, .inl (fun _ => 0))), (k0, .inr (9, [.ref kN, .ref kA, .ref kO, .ref kK, .ref kV, .ref kG, .ref kP, .ref kC, .ref kD, .ref kE, .ref kF, .ref kX, .ref kY, .int 0, .ref kT, .ref kU, .int 2, .int 0, .int 0])), (kN, .inl (cI, 2, .inl (fun _ => 0)))] := hD
              refine lv_goto (tgt := 139) hx hb dX6_addPart_116 (by decide) ?_
              refine lv_aload_n hx hb dX6_addPart_139 rfl (lv_at hl 1 rfl) ?_
              refine va_get (D := (dC, dI)) (ci := 9) (v := .int 2) (C := RX6) (T := TX6) (N := 19) hx hb hts (fun w h => List.mem_cons_of_mem _ (List.mem_append_left _ (List.mem_append_right _ (h)))) hown hK hP 1 rfl rfl 16 (by decide) (hts (.fieldLink RX6 57 "NetcompareModel" "thrown" "I") (List.mem_cons_of_mem _ (List.mem_append_left _ (List.mem_append_left _ (List.mem_of_getElem? (i := 1) rfl))))) (fun _ h9 => h9) rfl dX6_addPart_140 ?_
              refine lv_if_le (tgt := 148) hx hb dX6_addPart_143 (by decide) (fun h9 => absurd h9 (by decide)) (fun _ => ?_)
              refine lv_iconst (v := (-1)) hx hb dX6_addPart_146 (by decide) ?_
              exact ret _ 2 _ _ _ _ _ _ (Or.inr (⟨rfl, (fun h9 => h9.elim ((fun h9 => h9 (Or.inr (rfl)))) ((fun h9 => h9.elim ((fun h9 => h9 (Or.inr (Or.inr (Or.inl (h22)))))) ((fun h9 => h9.elim ((fun h9 => h9 (hi27))) ((fun h9 => ((fun h9 => h9 (h28))) h9.1)))))))⟩)) (hP.sub [1] rfl) (hK.sub [] rfl) (hD.sub [1] (by decide) rfl) hS (Nat.le_of_ble_eq_true rfl) (Nat.le_of_ble_eq_true rfl) dX6_addPart_147
            · skip
              refine lv_iload hx hb dX6_addPart_61 (lv_at hl 7 rfl) ?_
              refine lv_iconst (v := (-1)) hx hb dX6_addPart_63 (by decide) ?_
              refine lv_icmp_eq (tgt := 75) hx hb dX6_addPart_64 (by decide) (fun h29 => ?_) (fun h29 => ?_)
              · skip
                refine lv_aload_n hx hb dX6_addPart_75 rfl (lv_at hl 1 rfl) ?_
                refine lv_iload_n hx hb dX6_addPart_76 rfl (lv_at hl 2 rfl) ?_
                refine lv_iload hx hb dX6_addPart_77 (lv_at hl 5 rfl) ?_
                have hPc := hP.sub (ws' := [(k0, .inr (9, [.ref kN, .ref kA, .ref kO, .ref kK, .ref kV, .ref kG, .ref kP, .ref kC, .ref kD, .ref kE, .ref kF, .ref kX, .ref kY, .int 0, .ref kT, .ref kU, .int 0, .int 0, .int 0])), (kN, .inl (cI, 2, .inl (fun _ => 0)))]) [0, 1] rfl
                have hDc := hD.sub (ws' := [(k0, .inr (9, [.ref kN, .ref kA, .ref kO, .ref kK, .ref kV, .ref kG, .ref kP, .ref kC, .ref kD, .ref kE, .ref kF, .ref kX, .ref kY, .int 0, .ref kT, .ref kU, .int 0, .int 0, .int 0])), (kN, .inl (cI, 2, .inl (fun _ => 0)))]) [0, 1] (by decide) rfl
                have hKc := hK.sub (tys' := [(cI, .int)]) [0] rfl
                have hFc := va_free (wc := [(k0, .inr (9, [.ref kN, .ref kA, .ref kO, .ref kK, .ref kV, .ref kG, .ref kP, .ref kC, .ref kD, .ref kE, .ref kF, .ref kX, .ref kY, .int 0, .ref kT, .ref kU, .int 0, .int 0, .int 0])), (kN, .inl (cI, 2, .inl (fun _ => 0)))]) hD hS hA [0, 1] rfl
                refine va_calli (va_runV (As := [.int 1, .int p3]) (rest := []) ⟨hx, hb, hml, hown, hts⟩ (kX6_isNet1 l dC dI k0 kN kA kO kK kV kG kP kC kD kE kF kX kY kT kU cI p3 H.size) (cwV 2 hts gX6_addPart_X6_isNet rfl rfl rfl (by decide +kernel) ⟨Nat.le_of_ble_eq_true rfl, Nat.le_of_ble_eq_true rfl⟩) (fPreV hN hZ hS (fun q h => hFc q h) hPc hKc hDc (ci := 9) (q0 := 0) rfl rfl) rfl rfl hl.1 rfl (lv_room (Nat.le_of_ble_eq_true rfl)) dX6_addPart_79 ⟨Nat.le_of_ble_eq_true rfl, Nat.le_of_ble_eq_true rfl⟩) hS (fun q _ h => hFc q h) hFc (fun r u t H1 locs ht hvm hw hB hz1 hk1 hS => ?_)
                obtain ⟨hP1, hK1, hD1⟩ := hB
                rw [ht] at hP1
                have hK1 := va_K.moved hvm.symm hK1
                obtain ⟨hP, hD⟩ := va_join (wr := [(kA, .inl (cI, 2, .inl (fun _ => 0)))]) (w1 := [(k0, .inr (9, [.ref kN, .ref kA, .ref kO, .ref kK, .ref kV, .ref kG, .ref kP, .ref kC, .ref kD, .ref kE, .ref kF, .ref kX, .ref kY, .int 0, .ref kT, .ref kU, .int 0, .int 0, .int 0])), (kN, .inl (cI, 2, .inl (fun _ => 0)))]) hP hD [0, 1] [2] rfl rfl (by decide) (by decide) hk1 hFc hP1 hD1
                generalize H1 = H at hP hS ⊢
                have hP : va_P (dC, dI) vwCl [(kA, .inl (cI, 2, .inl (fun _ => 0))), (k0, .inr (9, [.ref kN, .ref kA, .ref kO, .ref kK, .ref kV, .ref kG, .ref kP, .ref kC, .ref kD, .ref kE, .ref kF, .ref kX, .ref kY, .int 0, .ref kT, .ref kU, .int 0, .int 0, .int 0])), (kN, .inl (cI, 2, .inl (fun _ => 0)))] _ := hP
                have hD : va_D A [(kA, .inl (cI, 2, .inl (fun _ => 0))), (k0, .inr (9, [.ref kN, .ref kA, .ref kO, .ref kK, .ref kV, .ref kG, .ref kP, .ref kC, .ref kD, .ref kE, .ref kF, .ref kX, .ref kY, .int 0, .ref kT, .ref kU, .int 0, .int 0, .int 0])), (kN, .inl (cI, 2, .inl (fun _ => 0)))] := hD
                subst hw
                refine lv_if_eq (tgt := 111) hx hb dX6_addPart_82 (by decide) (fun _ => ?_) (fun h9 => absurd (by decide) h9)
                refine lv_aload_n hx hb dX6_addPart_111 rfl (lv_at hl 1 rfl) ?_
                refine lv_iconst (v := 2) hx hb dX6_addPart_112 (by decide) ?_
                refine va_put (D := (dC, dI)) (ci := 9) (v := .int 2) (ty := .int) (C := RX6) (T := TX6) (N := 19) hx hb hts (fun w h => List.mem_cons_of_mem _ (List.mem_append_left _ (List.mem_append_right _ (h)))) tyX6 tyX6_ok nmX6 hown hK hP hD hS 1 rfl rfl 16 (by decide) (hts (.fieldLink RX6 57 "NetcompareModel" "thrown" "I") (List.mem_cons_of_mem _ (List.mem_append_left _ (List.mem_append_left _ (List.mem_of_getElem? (i := 1) rfl))))) (fun _ h9 => h9) rfl (by decide +kernel) rfl rfl (Nat.le_of_ble_eq_true rfl) dX6_addPart_113 (fun H locs hP hD hS => ?_)
                have hP : va_P (dC, dI) vwCl [(kA, .inl (cI, 2, .inl (fun _ => 0))), (k0, .inr (9, [.ref kN, .ref kA, .ref kO, .ref kK, .ref kV, .ref kG, .ref kP, .ref kC, .ref kD, .ref kE, .ref kF, .ref kX, .ref kY, .int 0, .ref kT, .ref kU, .int 2, .int 0, .int 0])), (kN, .inl (cI, 2, .inl (fun _ => 0)))] _ := hP
                have hD : va_D A [(kA, .inl (cI, 2, .inl (fun _ => 0))), (k0, .inr (9, [.ref kN, .ref kA, .ref kO, .ref kK, .ref kV, .ref kG, .ref kP, .ref kC, .ref kD, .ref kE, .ref kF, .ref kX, .ref kY, .int 0, .ref kT, .ref kU, .int 2, .int 0, .int 0])), (kN, .inl (cI, 2, .inl (fun _ => 0)))] := hD
                refine lv_goto (tgt := 139) hx hb dX6_addPart_116 (by decide) ?_
                refine lv_aload_n hx hb dX6_addPart_139 rfl (lv_at hl 1 rfl) ?_
                refine va_get (D := (dC, dI)) (ci := 9) (v := .int 2) (C := RX6) (T := TX6) (N := 19) hx hb hts (fun w h => List.mem_cons_of_mem _ (List.mem_append_left _ (List.mem_append_right _ (h)))) hown hK hP 1 rfl rfl 16 (by decide) (hts (.fieldLink RX6 57 "NetcompareModel" "thrown" "I") (List.mem_cons_of_mem _ (List.mem_append_left _ (List.mem_append_left _ (List.mem_of_getElem? (i := 1) rfl))))) (fun _ h9 => h9) rfl dX6_addPart_140 ?_
                refine lv_if_le (tgt := 148) hx hb dX6_addPart_143 (by decide) (fun h9 => absurd h9 (by decide)) (fun _ => ?_)
                refine lv_iconst (v := (-1)) hx hb dX6_addPart_146 (by decide) ?_
                exact ret _ 2 _ _ _ _ _ _ (Or.inr (⟨rfl, (fun h9 => h9.elim ((fun h9 => h9 (Or.inr (rfl)))) ((fun h9 => h9.elim ((fun h9 => h9 (Or.inr (Or.inr (Or.inl (h22)))))) ((fun h9 => h9.elim ((fun h9 => h9 (hi27))) ((fun h9 => ((fun h9 => h9 (h29))) h9.2)))))))⟩)) (hP.sub [1] rfl) (hK.sub [] rfl) (hD.sub [1] (by decide) rfl) hS (Nat.le_of_ble_eq_true rfl) (Nat.le_of_ble_eq_true rfl) dX6_addPart_147
              · skip
                refine lv_aload_n hx hb dX6_addPart_67 rfl (lv_at hl 1 rfl) ?_
                refine lv_iconst (v := 1) hx hb dX6_addPart_68 (by decide) ?_
                refine va_put (D := (dC, dI)) (ci := 9) (v := .int 1) (ty := .int) (C := RX6) (T := TX6) (N := 19) hx hb hts (fun w h => List.mem_cons_of_mem _ (List.mem_append_left _ (List.mem_append_right _ (h)))) tyX6 tyX6_ok nmX6 hown hK hP hD hS 0 rfl rfl 16 (by decide) (hts (.fieldLink RX6 57 "NetcompareModel" "thrown" "I") (List.mem_cons_of_mem _ (List.mem_append_left _ (List.mem_append_left _ (List.mem_of_getElem? (i := 1) rfl))))) (fun _ h9 => h9) rfl (by decide +kernel) rfl rfl (Nat.le_of_ble_eq_true rfl) dX6_addPart_69 (fun H locs hP hD hS => ?_)
                have hP : va_P (dC, dI) vwCl [(k0, .inr (9, [.ref kN, .ref kA, .ref kO, .ref kK, .ref kV, .ref kG, .ref kP, .ref kC, .ref kD, .ref kE, .ref kF, .ref kX, .ref kY, .int 0, .ref kT, .ref kU, .int 1, .int 0, .int 0])), (kN, .inl (cI, 2, .inl (fun _ => 0))), (kA, .inl (cI, 2, .inl (fun _ => 0)))] _ := hP
                have hD : va_D A [(k0, .inr (9, [.ref kN, .ref kA, .ref kO, .ref kK, .ref kV, .ref kG, .ref kP, .ref kC, .ref kD, .ref kE, .ref kF, .ref kX, .ref kY, .int 0, .ref kT, .ref kU, .int 1, .int 0, .int 0])), (kN, .inl (cI, 2, .inl (fun _ => 0))), (kA, .inl (cI, 2, .inl (fun _ => 0)))] := hD
                refine lv_goto (tgt := 139) hx hb dX6_addPart_72 (by decide) ?_
                refine lv_aload_n hx hb dX6_addPart_139 rfl (lv_at hl 1 rfl) ?_
                refine va_get (D := (dC, dI)) (ci := 9) (v := .int 1) (C := RX6) (T := TX6) (N := 19) hx hb hts (fun w h => List.mem_cons_of_mem _ (List.mem_append_left _ (List.mem_append_right _ (h)))) hown hK hP 0 rfl rfl 16 (by decide) (hts (.fieldLink RX6 57 "NetcompareModel" "thrown" "I") (List.mem_cons_of_mem _ (List.mem_append_left _ (List.mem_append_left _ (List.mem_of_getElem? (i := 1) rfl))))) (fun _ h9 => h9) rfl dX6_addPart_140 ?_
                refine lv_if_le (tgt := 148) hx hb dX6_addPart_143 (by decide) (fun h9 => absurd h9 (by decide)) (fun _ => ?_)
                refine lv_iconst (v := (-1)) hx hb dX6_addPart_146 (by decide) ?_
                exact ret _ 1 _ _ _ _ _ _ (Or.inl (⟨rfl, Or.inr (Or.inr (Or.inr (⟨h28, h29⟩)))⟩)) (hP.sub [0] rfl) (hK.sub [] rfl) (hD.sub [0] (by decide) rfl) hS (Nat.le_of_ble_eq_true rfl) (Nat.le_of_ble_eq_true rfl) dX6_addPart_147
          · skip
            have hi30 : ¬ ((¬ (p2 < 1)) ∧ (¬ (999 < p2))) := fun q => hi9 ((fIn p2 1 999 1 999 (by decide) (by decide)).mpr q)
            refine lv_if_eq (tgt := 67) hx hb dX6_addPart_52 (by decide) (fun _ => ?_) (fun h9 => absurd (by decide) h9)
            refine lv_aload_n hx hb dX6_addPart_67 rfl (lv_at hl 1 rfl) ?_
            refine lv_iconst (v := 1) hx hb dX6_addPart_68 (by decide) ?_
            refine va_put (D := (dC, dI)) (ci := 9) (v := .int 1) (ty := .int) (C := RX6) (T := TX6) (N := 19) hx hb hts (fun w h => List.mem_cons_of_mem _ (List.mem_append_left _ (List.mem_append_right _ (h)))) tyX6 tyX6_ok nmX6 hown hK hP hD hS 0 rfl rfl 16 (by decide) (hts (.fieldLink RX6 57 "NetcompareModel" "thrown" "I") (List.mem_cons_of_mem _ (List.mem_append_left _ (List.mem_append_left _ (List.mem_of_getElem? (i := 1) rfl))))) (fun _ h9 => h9) rfl (by decide +kernel) rfl rfl (Nat.le_of_ble_eq_true rfl) dX6_addPart_69 (fun H locs hP hD hS => ?_)
            have hP : va_P (dC, dI) vwCl [(k0, .inr (9, [.ref kN, .ref kA, .ref kO, .ref kK, .ref kV, .ref kG, .ref kP, .ref kC, .ref kD, .ref kE, .ref kF, .ref kX, .ref kY, .int 0, .ref kT, .ref kU, .int 1, .int 0, .int 0])), (kN, .inl (cI, 2, .inl (fun _ => 0))), (kA, .inl (cI, 2, .inl (fun _ => 0)))] _ := hP
            have hD : va_D A [(k0, .inr (9, [.ref kN, .ref kA, .ref kO, .ref kK, .ref kV, .ref kG, .ref kP, .ref kC, .ref kD, .ref kE, .ref kF, .ref kX, .ref kY, .int 0, .ref kT, .ref kU, .int 1, .int 0, .int 0])), (kN, .inl (cI, 2, .inl (fun _ => 0))), (kA, .inl (cI, 2, .inl (fun _ => 0)))] := hD
            refine lv_goto (tgt := 139) hx hb dX6_addPart_72 (by decide) ?_
            refine lv_aload_n hx hb dX6_addPart_139 rfl (lv_at hl 1 rfl) ?_
            refine va_get (D := (dC, dI)) (ci := 9) (v := .int 1) (C := RX6) (T := TX6) (N := 19) hx hb hts (fun w h => List.mem_cons_of_mem _ (List.mem_append_left _ (List.mem_append_right _ (h)))) hown hK hP 0 rfl rfl 16 (by decide) (hts (.fieldLink RX6 57 "NetcompareModel" "thrown" "I") (List.mem_cons_of_mem _ (List.mem_append_left _ (List.mem_append_left _ (List.mem_of_getElem? (i := 1) rfl))))) (fun _ h9 => h9) rfl dX6_addPart_140 ?_
            refine lv_if_le (tgt := 148) hx hb dX6_addPart_143 (by decide) (fun h9 => absurd h9 (by decide)) (fun _ => ?_)
            refine lv_iconst (v := (-1)) hx hb dX6_addPart_146 (by decide) ?_
            exact ret _ 1 _ _ _ _ _ _ (Or.inl (⟨rfl, Or.inr (Or.inr (Or.inl (hi30)))⟩)) (hP.sub [0] rfl) (hK.sub [] rfl) (hD.sub [0] (by decide) rfl) hS (Nat.le_of_ble_eq_true rfl) (Nat.le_of_ble_eq_true rfl) dX6_addPart_147
        · skip
          have hc31 := hc
          refine lv_if_eq (tgt := 67) hx hb dX6_addPart_35 (by decide) (fun _ => ?_) (fun h9 => absurd (by decide) h9)
          refine lv_aload_n hx hb dX6_addPart_67 rfl (lv_at hl 1 rfl) ?_
          refine lv_iconst (v := 1) hx hb dX6_addPart_68 (by decide) ?_
          refine va_put (D := (dC, dI)) (ci := 9) (v := .int 1) (ty := .int) (C := RX6) (T := TX6) (N := 19) hx hb hts (fun w h => List.mem_cons_of_mem _ (List.mem_append_left _ (List.mem_append_right _ (h)))) tyX6 tyX6_ok nmX6 hown hK hP hD hS 0 rfl rfl 16 (by decide) (hts (.fieldLink RX6 57 "NetcompareModel" "thrown" "I") (List.mem_cons_of_mem _ (List.mem_append_left _ (List.mem_append_left _ (List.mem_of_getElem? (i := 1) rfl))))) (fun _ h9 => h9) rfl (by decide +kernel) rfl rfl (Nat.le_of_ble_eq_true rfl) dX6_addPart_69 (fun H locs hP hD hS => ?_)
          have hP : va_P (dC, dI) vwCl [(k0, .inr (9, [.ref kN, .ref kA, .ref kO, .ref kK, .ref kV, .ref kG, .ref kP, .ref kC, .ref kD, .ref kE, .ref kF, .ref kX, .ref kY, .int 0, .ref kT, .ref kU, .int 1, .int 0, .int 0])), (kN, .inl (cI, 2, .inl (fun _ => 0))), (kA, .inl (cI, 2, .inl (fun _ => 0)))] _ := hP
          have hD : va_D A [(k0, .inr (9, [.ref kN, .ref kA, .ref kO, .ref kK, .ref kV, .ref kG, .ref kP, .ref kC, .ref kD, .ref kE, .ref kF, .ref kX, .ref kY, .int 0, .ref kT, .ref kU, .int 1, .int 0, .int 0])), (kN, .inl (cI, 2, .inl (fun _ => 0))), (kA, .inl (cI, 2, .inl (fun _ => 0)))] := hD
          refine lv_goto (tgt := 139) hx hb dX6_addPart_72 (by decide) ?_
          refine lv_aload_n hx hb dX6_addPart_139 rfl (lv_at hl 1 rfl) ?_
          refine va_get (D := (dC, dI)) (ci := 9) (v := .int 1) (C := RX6) (T := TX6) (N := 19) hx hb hts (fun w h => List.mem_cons_of_mem _ (List.mem_append_left _ (List.mem_append_right _ (h)))) hown hK hP 0 rfl rfl 16 (by decide) (hts (.fieldLink RX6 57 "NetcompareModel" "thrown" "I") (List.mem_cons_of_mem _ (List.mem_append_left _ (List.mem_append_left _ (List.mem_of_getElem? (i := 1) rfl))))) (fun _ h9 => h9) rfl dX6_addPart_140 ?_
          refine lv_if_le (tgt := 148) hx hb dX6_addPart_143 (by decide) (fun h9 => absurd h9 (by decide)) (fun _ => ?_)
          refine lv_iconst (v := (-1)) hx hb dX6_addPart_146 (by decide) ?_
          exact ret _ 1 _ _ _ _ _ _ (Or.inl (⟨rfl, Or.inl (hc31)⟩)) (hP.sub [0] rfl) (hK.sub [] rfl) (hD.sub [0] (by decide) rfl) hS (Nat.le_of_ble_eq_true rfl) (Nat.le_of_ble_eq_true rfl) dX6_addPart_147
      · skip
        refine lv_iload_n hx hb dX6_addPart_18 rfl (lv_at hl 2 rfl) ?_
        refine lv_bipush (v := 116) hx hb dX6_addPart_19 (by decide) ?_
        refine lv_icmp_ne (tgt := 28) hx hb dX6_addPart_21 (by decide) (fun h32 => ?_) (fun h32 => ?_)
        · skip
          refine lv_iconst (v := 0) hx hb dX6_addPart_28 (by decide) ?_
          refine lv_istore (lv' := [(7, .int 0), (0, .ref k0), (1, .int p0), (2, .int p1), (3, .int p2), (4, .int p3), (5, .int p4), (6, .int p5)]) hx hb dX6_addPart_29 hl (Nat.le_of_ble_eq_true rfl) rfl (fun ls hl => ?_)
          refine lv_iload_n hx hb dX6_addPart_31 rfl (lv_at hl 2 rfl) ?_
          have hPc := hP.sub (ws' := []) [] rfl
          have hDc := hD.sub (ws' := []) [] (by decide) rfl
          have hKc := hK.sub (tys' := []) [] rfl
          have hFc := va_free (wc := []) hD hS hA [] rfl
          refine va_calli (va_runS (As := [.int p0]) (rest := []) ⟨hx, hb, hml, hown, hts⟩ (kX6_isCircuit l dC dI p0 s.heap.size) (va_cwS 1 hts gX6_addPart_X6_isCircuit rfl rfl rfl (by decide +kernel) ⟨Nat.le_of_ble_eq_true rfl, Nat.le_of_ble_eq_true rfl⟩) (fPreS hN hZ hS (fun q h => hFc q h) hPc hKc hDc) rfl rfl hl.1 rfl (lv_room (Nat.le_of_ble_eq_true rfl)) dX6_addPart_32 ⟨Nat.le_of_ble_eq_true rfl, Nat.le_of_ble_eq_true rfl⟩) hS (fun q _ h => hFc q h) hFc (fun r u t H1 locs ht hvm hw hB hz1 hk1 hS => ?_)
          obtain ⟨hP1, hK1, hD1⟩ := hB
          rw [ht] at hP1
          have hK1 := va_K.moved hvm.symm hK1
          obtain ⟨hP, hD⟩ := va_join (wr := [(k0, .inr (9, [.ref kN, .ref kA, .ref kO, .ref kK, .ref kV, .ref kG, .ref kP, .ref kC, .ref kD, .ref kE, .ref kF, .ref kX, .ref kY, .int 0, .ref kT, .ref kU, .int 0, .int 0, .int 0])), (kN, .inl (cI, 2, .inl (fun _ => 0))), (kA, .inl (cI, 2, .inl (fun _ => 0)))]) (w1 := []) hP hD [] [0, 1, 2] rfl rfl (by decide) (by decide) hk1 hFc hP1 hD1
          generalize H1 = H at hP hS ⊢
          have hP : va_P (dC, dI) vwCl [(k0, .inr (9, [.ref kN, .ref kA, .ref kO, .ref kK, .ref kV, .ref kG, .ref kP, .ref kC, .ref kD, .ref kE, .ref kF, .ref kX, .ref kY, .int 0, .ref kT, .ref kU, .int 0, .int 0, .int 0])), (kN, .inl (cI, 2, .inl (fun _ => 0))), (kA, .inl (cI, 2, .inl (fun _ => 0)))] _ := hP
          have hD : va_D A [(k0, .inr (9, [.ref kN, .ref kA, .ref kO, .ref kK, .ref kV, .ref kG, .ref kP, .ref kC, .ref kD, .ref kE, .ref kF, .ref kX, .ref kY, .int 0, .ref kT, .ref kU, .int 0, .int 0, .int 0])), (kN, .inl (cI, 2, .inl (fun _ => 0))), (kA, .inl (cI, 2, .inl (fun _ => 0)))] := hD
          rcases hw with ⟨rfl, hc | hc⟩ | ⟨rfl, hc⟩
          · skip
            subst hc
            have hP : va_P (dC, dI) vwCl [(k0, .inr (9, [.ref kN, .ref kA, .ref kO, .ref kK, .ref kV, .ref kG, .ref kP, .ref kC, .ref kD, .ref kE, .ref kF, .ref kX, .ref kY, .int 0, .ref kT, .ref kU, .int 0, .int 0, .int 0])), (kN, .inl (cI, 2, .inl (fun _ => 0))), (kA, .inl (cI, 2, .inl (fun _ => 0)))] _ := hP
            have hD : va_D A [(k0, .inr (9, [.ref kN, .ref kA, .ref kO, .ref kK, .ref kV, .ref kG, .ref kP, .ref kC, .ref kD, .ref kE, .ref kF, .ref kX, .ref kY, .int 0, .ref kT, .ref kU, .int 0, .int 0, .int 0])), (kN, .inl (cI, 2, .inl (fun _ => 0))), (kA, .inl (cI, 2, .inl (fun _ => 0)))] := hD
            refine lv_if_eq (tgt := 67) hx hb dX6_addPart_35 (by decide) (fun h9 => absurd h9 (by decide)) (fun _ => ?_)
            refine lv_iload hx hb dX6_addPart_38 (lv_at hl 0 rfl) ?_
            refine lv_if_eq (tgt := 67) hx hb dX6_addPart_40 (by decide) (fun _ => ?_) (fun h9 => absurd (by decide) h9)
            refine lv_aload_n hx hb dX6_addPart_67 rfl (lv_at hl 1 rfl) ?_
            refine lv_iconst (v := 1) hx hb dX6_addPart_68 (by decide) ?_
            refine va_put (D := (dC, dI)) (ci := 9) (v := .int 1) (ty := .int) (C := RX6) (T := TX6) (N := 19) hx hb hts (fun w h => List.mem_cons_of_mem _ (List.mem_append_left _ (List.mem_append_right _ (h)))) tyX6 tyX6_ok nmX6 hown hK hP hD hS 0 rfl rfl 16 (by decide) (hts (.fieldLink RX6 57 "NetcompareModel" "thrown" "I") (List.mem_cons_of_mem _ (List.mem_append_left _ (List.mem_append_left _ (List.mem_of_getElem? (i := 1) rfl))))) (fun _ h9 => h9) rfl (by decide +kernel) rfl rfl (Nat.le_of_ble_eq_true rfl) dX6_addPart_69 (fun H locs hP hD hS => ?_)
            have hP : va_P (dC, dI) vwCl [(k0, .inr (9, [.ref kN, .ref kA, .ref kO, .ref kK, .ref kV, .ref kG, .ref kP, .ref kC, .ref kD, .ref kE, .ref kF, .ref kX, .ref kY, .int 0, .ref kT, .ref kU, .int 1, .int 0, .int 0])), (kN, .inl (cI, 2, .inl (fun _ => 0))), (kA, .inl (cI, 2, .inl (fun _ => 0)))] _ := hP
            have hD : va_D A [(k0, .inr (9, [.ref kN, .ref kA, .ref kO, .ref kK, .ref kV, .ref kG, .ref kP, .ref kC, .ref kD, .ref kE, .ref kF, .ref kX, .ref kY, .int 0, .ref kT, .ref kU, .int 1, .int 0, .int 0])), (kN, .inl (cI, 2, .inl (fun _ => 0))), (kA, .inl (cI, 2, .inl (fun _ => 0)))] := hD
            refine lv_goto (tgt := 139) hx hb dX6_addPart_72 (by decide) ?_
            refine lv_aload_n hx hb dX6_addPart_139 rfl (lv_at hl 1 rfl) ?_
            refine va_get (D := (dC, dI)) (ci := 9) (v := .int 1) (C := RX6) (T := TX6) (N := 19) hx hb hts (fun w h => List.mem_cons_of_mem _ (List.mem_append_left _ (List.mem_append_right _ (h)))) hown hK hP 0 rfl rfl 16 (by decide) (hts (.fieldLink RX6 57 "NetcompareModel" "thrown" "I") (List.mem_cons_of_mem _ (List.mem_append_left _ (List.mem_append_left _ (List.mem_of_getElem? (i := 1) rfl))))) (fun _ h9 => h9) rfl dX6_addPart_140 ?_
            refine lv_if_le (tgt := 148) hx hb dX6_addPart_143 (by decide) (fun h9 => absurd h9 (by decide)) (fun _ => ?_)
            refine lv_iconst (v := (-1)) hx hb dX6_addPart_146 (by decide) ?_
            exact ret _ 1 _ _ _ _ _ _ (Or.inl (⟨rfl, Or.inr (Or.inl ((fun h9 => h9.elim (h1) ((fun h9 => h9.elim (h12) ((fun h9 => h9.elim (h22) (h32))))))))⟩)) (hP.sub [0] rfl) (hK.sub [] rfl) (hD.sub [0] (by decide) rfl) hS (Nat.le_of_ble_eq_true rfl) (Nat.le_of_ble_eq_true rfl) dX6_addPart_147
          · skip
            subst hc
            have hP : va_P (dC, dI) vwCl [(k0, .inr (9, [.ref kN, .ref kA, .ref kO, .ref kK, .ref kV, .ref kG, .ref kP, .ref kC, .ref kD, .ref kE, .ref kF, .ref kX, .ref kY, .int 0, .ref kT, .ref kU, .int 0, .int 0, .int 0])), (kN, .inl (cI, 2, .inl (fun _ => 0))), (kA, .inl (cI, 2, .inl (fun _ => 0)))] _ := hP
            have hD : va_D A [(k0, .inr (9, [.ref kN, .ref kA, .ref kO, .ref kK, .ref kV, .ref kG, .ref kP, .ref kC, .ref kD, .ref kE, .ref kF, .ref kX, .ref kY, .int 0, .ref kT, .ref kU, .int 0, .int 0, .int 0])), (kN, .inl (cI, 2, .inl (fun _ => 0))), (kA, .inl (cI, 2, .inl (fun _ => 0)))] := hD
            refine lv_if_eq (tgt := 67) hx hb dX6_addPart_35 (by decide) (fun h9 => absurd h9 (by decide)) (fun _ => ?_)
            refine lv_iload hx hb dX6_addPart_38 (lv_at hl 0 rfl) ?_
            refine lv_if_eq (tgt := 67) hx hb dX6_addPart_40 (by decide) (fun _ => ?_) (fun h9 => absurd (by decide) h9)
            refine lv_aload_n hx hb dX6_addPart_67 rfl (lv_at hl 1 rfl) ?_
            refine lv_iconst (v := 1) hx hb dX6_addPart_68 (by decide) ?_
            refine va_put (D := (dC, dI)) (ci := 9) (v := .int 1) (ty := .int) (C := RX6) (T := TX6) (N := 19) hx hb hts (fun w h => List.mem_cons_of_mem _ (List.mem_append_left _ (List.mem_append_right _ (h)))) tyX6 tyX6_ok nmX6 hown hK hP hD hS 0 rfl rfl 16 (by decide) (hts (.fieldLink RX6 57 "NetcompareModel" "thrown" "I") (List.mem_cons_of_mem _ (List.mem_append_left _ (List.mem_append_left _ (List.mem_of_getElem? (i := 1) rfl))))) (fun _ h9 => h9) rfl (by decide +kernel) rfl rfl (Nat.le_of_ble_eq_true rfl) dX6_addPart_69 (fun H locs hP hD hS => ?_)
            have hP : va_P (dC, dI) vwCl [(k0, .inr (9, [.ref kN, .ref kA, .ref kO, .ref kK, .ref kV, .ref kG, .ref kP, .ref kC, .ref kD, .ref kE, .ref kF, .ref kX, .ref kY, .int 0, .ref kT, .ref kU, .int 1, .int 0, .int 0])), (kN, .inl (cI, 2, .inl (fun _ => 0))), (kA, .inl (cI, 2, .inl (fun _ => 0)))] _ := hP
            have hD : va_D A [(k0, .inr (9, [.ref kN, .ref kA, .ref kO, .ref kK, .ref kV, .ref kG, .ref kP, .ref kC, .ref kD, .ref kE, .ref kF, .ref kX, .ref kY, .int 0, .ref kT, .ref kU, .int 1, .int 0, .int 0])), (kN, .inl (cI, 2, .inl (fun _ => 0))), (kA, .inl (cI, 2, .inl (fun _ => 0)))] := hD
            refine lv_goto (tgt := 139) hx hb dX6_addPart_72 (by decide) ?_
            refine lv_aload_n hx hb dX6_addPart_139 rfl (lv_at hl 1 rfl) ?_
            refine va_get (D := (dC, dI)) (ci := 9) (v := .int 1) (C := RX6) (T := TX6) (N := 19) hx hb hts (fun w h => List.mem_cons_of_mem _ (List.mem_append_left _ (List.mem_append_right _ (h)))) hown hK hP 0 rfl rfl 16 (by decide) (hts (.fieldLink RX6 57 "NetcompareModel" "thrown" "I") (List.mem_cons_of_mem _ (List.mem_append_left _ (List.mem_append_left _ (List.mem_of_getElem? (i := 1) rfl))))) (fun _ h9 => h9) rfl dX6_addPart_140 ?_
            refine lv_if_le (tgt := 148) hx hb dX6_addPart_143 (by decide) (fun h9 => absurd h9 (by decide)) (fun _ => ?_)
            refine lv_iconst (v := (-1)) hx hb dX6_addPart_146 (by decide) ?_
            exact ret _ 1 _ _ _ _ _ _ (Or.inl (⟨rfl, Or.inr (Or.inl ((fun h9 => h9.elim (h1) ((fun h9 => h9.elim (h12) ((fun h9 => h9.elim (h22) (h32))))))))⟩)) (hP.sub [0] rfl) (hK.sub [] rfl) (hD.sub [0] (by decide) rfl) hS (Nat.le_of_ble_eq_true rfl) (Nat.le_of_ble_eq_true rfl) dX6_addPart_147
          · skip
            have hc33 := hc
            refine lv_if_eq (tgt := 67) hx hb dX6_addPart_35 (by decide) (fun _ => ?_) (fun h9 => absurd (by decide) h9)
            refine lv_aload_n hx hb dX6_addPart_67 rfl (lv_at hl 1 rfl) ?_
            refine lv_iconst (v := 1) hx hb dX6_addPart_68 (by decide) ?_
            refine va_put (D := (dC, dI)) (ci := 9) (v := .int 1) (ty := .int) (C := RX6) (T := TX6) (N := 19) hx hb hts (fun w h => List.mem_cons_of_mem _ (List.mem_append_left _ (List.mem_append_right _ (h)))) tyX6 tyX6_ok nmX6 hown hK hP hD hS 0 rfl rfl 16 (by decide) (hts (.fieldLink RX6 57 "NetcompareModel" "thrown" "I") (List.mem_cons_of_mem _ (List.mem_append_left _ (List.mem_append_left _ (List.mem_of_getElem? (i := 1) rfl))))) (fun _ h9 => h9) rfl (by decide +kernel) rfl rfl (Nat.le_of_ble_eq_true rfl) dX6_addPart_69 (fun H locs hP hD hS => ?_)
            have hP : va_P (dC, dI) vwCl [(k0, .inr (9, [.ref kN, .ref kA, .ref kO, .ref kK, .ref kV, .ref kG, .ref kP, .ref kC, .ref kD, .ref kE, .ref kF, .ref kX, .ref kY, .int 0, .ref kT, .ref kU, .int 1, .int 0, .int 0])), (kN, .inl (cI, 2, .inl (fun _ => 0))), (kA, .inl (cI, 2, .inl (fun _ => 0)))] _ := hP
            have hD : va_D A [(k0, .inr (9, [.ref kN, .ref kA, .ref kO, .ref kK, .ref kV, .ref kG, .ref kP, .ref kC, .ref kD, .ref kE, .ref kF, .ref kX, .ref kY, .int 0, .ref kT, .ref kU, .int 1, .int 0, .int 0])), (kN, .inl (cI, 2, .inl (fun _ => 0))), (kA, .inl (cI, 2, .inl (fun _ => 0)))] := hD
            refine lv_goto (tgt := 139) hx hb dX6_addPart_72 (by decide) ?_
            refine lv_aload_n hx hb dX6_addPart_139 rfl (lv_at hl 1 rfl) ?_
            refine va_get (D := (dC, dI)) (ci := 9) (v := .int 1) (C := RX6) (T := TX6) (N := 19) hx hb hts (fun w h => List.mem_cons_of_mem _ (List.mem_append_left _ (List.mem_append_right _ (h)))) hown hK hP 0 rfl rfl 16 (by decide) (hts (.fieldLink RX6 57 "NetcompareModel" "thrown" "I") (List.mem_cons_of_mem _ (List.mem_append_left _ (List.mem_append_left _ (List.mem_of_getElem? (i := 1) rfl))))) (fun _ h9 => h9) rfl dX6_addPart_140 ?_
            refine lv_if_le (tgt := 148) hx hb dX6_addPart_143 (by decide) (fun h9 => absurd h9 (by decide)) (fun _ => ?_)
            refine lv_iconst (v := (-1)) hx hb dX6_addPart_146 (by decide) ?_
            exact ret _ 1 _ _ _ _ _ _ (Or.inl (⟨rfl, Or.inl (hc33)⟩)) (hP.sub [0] rfl) (hK.sub [] rfl) (hD.sub [0] (by decide) rfl) hS (Nat.le_of_ble_eq_true rfl) (Nat.le_of_ble_eq_true rfl) dX6_addPart_147
        · skip
          refine lv_iconst (v := 1) hx hb dX6_addPart_24 (by decide) ?_
          refine lv_goto (tgt := 29) hx hb dX6_addPart_25 (by decide) ?_
          refine lv_istore (lv' := [(7, .int 1), (0, .ref k0), (1, .int p0), (2, .int p1), (3, .int p2), (4, .int p3), (5, .int p4), (6, .int p5)]) hx hb dX6_addPart_29 hl (Nat.le_of_ble_eq_true rfl) rfl (fun ls hl => ?_)
          refine lv_iload_n hx hb dX6_addPart_31 rfl (lv_at hl 2 rfl) ?_
          have hPc := hP.sub (ws' := []) [] rfl
          have hDc := hD.sub (ws' := []) [] (by decide) rfl
          have hKc := hK.sub (tys' := []) [] rfl
          have hFc := va_free (wc := []) hD hS hA [] rfl
          refine va_calli (va_runS (As := [.int p0]) (rest := []) ⟨hx, hb, hml, hown, hts⟩ (kX6_isCircuit l dC dI p0 s.heap.size) (va_cwS 1 hts gX6_addPart_X6_isCircuit rfl rfl rfl (by decide +kernel) ⟨Nat.le_of_ble_eq_true rfl, Nat.le_of_ble_eq_true rfl⟩) (fPreS hN hZ hS (fun q h => hFc q h) hPc hKc hDc) rfl rfl hl.1 rfl (lv_room (Nat.le_of_ble_eq_true rfl)) dX6_addPart_32 ⟨Nat.le_of_ble_eq_true rfl, Nat.le_of_ble_eq_true rfl⟩) hS (fun q _ h => hFc q h) hFc (fun r u t H1 locs ht hvm hw hB hz1 hk1 hS => ?_)
          obtain ⟨hP1, hK1, hD1⟩ := hB
          rw [ht] at hP1
          have hK1 := va_K.moved hvm.symm hK1
          obtain ⟨hP, hD⟩ := va_join (wr := [(k0, .inr (9, [.ref kN, .ref kA, .ref kO, .ref kK, .ref kV, .ref kG, .ref kP, .ref kC, .ref kD, .ref kE, .ref kF, .ref kX, .ref kY, .int 0, .ref kT, .ref kU, .int 0, .int 0, .int 0])), (kN, .inl (cI, 2, .inl (fun _ => 0))), (kA, .inl (cI, 2, .inl (fun _ => 0)))]) (w1 := []) hP hD [] [0, 1, 2] rfl rfl (by decide) (by decide) hk1 hFc hP1 hD1
          generalize H1 = H at hP hS ⊢
          have hP : va_P (dC, dI) vwCl [(k0, .inr (9, [.ref kN, .ref kA, .ref kO, .ref kK, .ref kV, .ref kG, .ref kP, .ref kC, .ref kD, .ref kE, .ref kF, .ref kX, .ref kY, .int 0, .ref kT, .ref kU, .int 0, .int 0, .int 0])), (kN, .inl (cI, 2, .inl (fun _ => 0))), (kA, .inl (cI, 2, .inl (fun _ => 0)))] _ := hP
          have hD : va_D A [(k0, .inr (9, [.ref kN, .ref kA, .ref kO, .ref kK, .ref kV, .ref kG, .ref kP, .ref kC, .ref kD, .ref kE, .ref kF, .ref kX, .ref kY, .int 0, .ref kT, .ref kU, .int 0, .int 0, .int 0])), (kN, .inl (cI, 2, .inl (fun _ => 0))), (kA, .inl (cI, 2, .inl (fun _ => 0)))] := hD
          rcases hw with ⟨rfl, hc | hc⟩ | ⟨rfl, hc⟩
          · skip
            subst hc
            have hP : va_P (dC, dI) vwCl [(k0, .inr (9, [.ref kN, .ref kA, .ref kO, .ref kK, .ref kV, .ref kG, .ref kP, .ref kC, .ref kD, .ref kE, .ref kF, .ref kX, .ref kY, .int 0, .ref kT, .ref kU, .int 0, .int 0, .int 0])), (kN, .inl (cI, 2, .inl (fun _ => 0))), (kA, .inl (cI, 2, .inl (fun _ => 0)))] _ := hP
            have hD : va_D A [(k0, .inr (9, [.ref kN, .ref kA, .ref kO, .ref kK, .ref kV, .ref kG, .ref kP, .ref kC, .ref kD, .ref kE, .ref kF, .ref kX, .ref kY, .int 0, .ref kT, .ref kU, .int 0, .int 0, .int 0])), (kN, .inl (cI, 2, .inl (fun _ => 0))), (kA, .inl (cI, 2, .inl (fun _ => 0)))] := hD
            refine lv_if_eq (tgt := 67) hx hb dX6_addPart_35 (by decide) (fun h9 => absurd h9 (by decide)) (fun _ => ?_)
            refine lv_iload hx hb dX6_addPart_38 (lv_at hl 0 rfl) ?_
            refine lv_if_eq (tgt := 67) hx hb dX6_addPart_40 (by decide) (fun h9 => absurd h9 (by decide)) (fun _ => ?_)
            refine lv_iload_n hx hb dX6_addPart_43 rfl (lv_at hl 4 rfl) ?_
            refine lv_i2l (v := p2.toInt64) hx hb dX6_addPart_44 rfl ?_
            refine lv_lconst (v := 1) hx hb dX6_addPart_45 (by decide) ?_
            refine lv_ldc2 (v := 999) hx hb hown (hts (.constantLong RX6 92 (999)) (List.mem_cons_of_mem _ (List.mem_append_left _ (List.mem_append_left _ (List.mem_of_getElem? (i := 0) rfl))))) dX6_addPart_46 ?_
            have hPc := hP.sub (ws' := []) [] rfl
            have hDc := hD.sub (ws' := []) [] (by decide) rfl
            have hKc := hK.sub (tys' := []) [] rfl
            have hFc := va_free (wc := []) hD hS hA [] rfl
            refine va_calli (va_runS (As := [.long p2.toInt64, .long 1, .long 999]) (rest := []) ⟨hx, hb, hml, hown, hts⟩ (kX6_in l dC dI p2.toInt64 1 999 H.size) (va_cwS 3 hts gX6_addPart_X6_in rfl rfl rfl (by decide +kernel) ⟨Nat.le_of_ble_eq_true rfl, Nat.le_of_ble_eq_true rfl⟩) (fPreS hN hZ hS (fun q h => hFc q h) hPc hKc hDc) rfl rfl hl.1 rfl (lv_room (Nat.le_of_ble_eq_true rfl)) dX6_addPart_49 ⟨Nat.le_of_ble_eq_true rfl, Nat.le_of_ble_eq_true rfl⟩) hS (fun q _ h => hFc q h) hFc (fun r u t H1 locs ht hvm hw hB hz1 hk1 hS => ?_)
            obtain ⟨hP1, hK1, hD1⟩ := hB
            rw [ht] at hP1
            have hK1 := va_K.moved hvm.symm hK1
            obtain ⟨hP, hD⟩ := va_join (wr := [(k0, .inr (9, [.ref kN, .ref kA, .ref kO, .ref kK, .ref kV, .ref kG, .ref kP, .ref kC, .ref kD, .ref kE, .ref kF, .ref kX, .ref kY, .int 0, .ref kT, .ref kU, .int 0, .int 0, .int 0])), (kN, .inl (cI, 2, .inl (fun _ => 0))), (kA, .inl (cI, 2, .inl (fun _ => 0)))]) (w1 := []) hP hD [] [0, 1, 2] rfl rfl (by decide) (by decide) hk1 hFc hP1 hD1
            generalize H1 = H at hP hS ⊢
            have hP : va_P (dC, dI) vwCl [(k0, .inr (9, [.ref kN, .ref kA, .ref kO, .ref kK, .ref kV, .ref kG, .ref kP, .ref kC, .ref kD, .ref kE, .ref kF, .ref kX, .ref kY, .int 0, .ref kT, .ref kU, .int 0, .int 0, .int 0])), (kN, .inl (cI, 2, .inl (fun _ => 0))), (kA, .inl (cI, 2, .inl (fun _ => 0)))] _ := hP
            have hD : va_D A [(k0, .inr (9, [.ref kN, .ref kA, .ref kO, .ref kK, .ref kV, .ref kG, .ref kP, .ref kC, .ref kD, .ref kE, .ref kF, .ref kX, .ref kY, .int 0, .ref kT, .ref kU, .int 0, .int 0, .int 0])), (kN, .inl (cI, 2, .inl (fun _ => 0))), (kA, .inl (cI, 2, .inl (fun _ => 0)))] := hD
            rcases hw with ⟨rfl, hi9⟩ | ⟨rfl, hi9⟩
            · skip
              have hi34 : ((¬ (p2 < 1)) ∧ (¬ (999 < p2))) := (fIn p2 1 999 1 999 (by decide) (by decide)).mp hi9
              refine lv_if_eq (tgt := 67) hx hb dX6_addPart_52 (by decide) (fun h9 => absurd h9 (by decide)) (fun _ => ?_)
              refine lv_iload_n hx hb dX6_addPart_55 rfl (lv_at hl 3 rfl) ?_
              refine lv_bipush (v := 116) hx hb dX6_addPart_56 (by decide) ?_
              refine lv_icmp_eq (tgt := 75) hx hb dX6_addPart_58 (by decide) (fun _ => ?_) (fun h9 => absurd (h32) h9)
              refine lv_aload_n hx hb dX6_addPart_75 rfl (lv_at hl 1 rfl) ?_
              refine lv_iload_n hx hb dX6_addPart_76 rfl (lv_at hl 2 rfl) ?_
              refine lv_iload hx hb dX6_addPart_77 (lv_at hl 5 rfl) ?_
              have hPc := hP.sub (ws' := [(k0, .inr (9, [.ref kN, .ref kA, .ref kO, .ref kK, .ref kV, .ref kG, .ref kP, .ref kC, .ref kD, .ref kE, .ref kF, .ref kX, .ref kY, .int 0, .ref kT, .ref kU, .int 0, .int 0, .int 0])), (kN, .inl (cI, 2, .inl (fun _ => 0)))]) [0, 1] rfl
              have hDc := hD.sub (ws' := [(k0, .inr (9, [.ref kN, .ref kA, .ref kO, .ref kK, .ref kV, .ref kG, .ref kP, .ref kC, .ref kD, .ref kE, .ref kF, .ref kX, .ref kY, .int 0, .ref kT, .ref kU, .int 0, .int 0, .int 0])), (kN, .inl (cI, 2, .inl (fun _ => 0)))]) [0, 1] (by decide) rfl
              have hKc := hK.sub (tys' := [(cI, .int)]) [0] rfl
              have hFc := va_free (wc := [(k0, .inr (9, [.ref kN, .ref kA, .ref kO, .ref kK, .ref kV, .ref kG, .ref kP, .ref kC, .ref kD, .ref kE, .ref kF, .ref kX, .ref kY, .int 0, .ref kT, .ref kU, .int 0, .int 0, .int 0])), (kN, .inl (cI, 2, .inl (fun _ => 0)))]) hD hS hA [0, 1] rfl
              refine va_calli (va_runV (As := [.int 0, .int p3]) (rest := []) ⟨hx, hb, hml, hown, hts⟩ (kX6_isNet0 l dC dI k0 kN kA kO kK kV kG kP kC kD kE kF kX kY kT kU cI p3 H.size) (cwV 2 hts gX6_addPart_X6_isNet rfl rfl rfl (by decide +kernel) ⟨Nat.le_of_ble_eq_true rfl, Nat.le_of_ble_eq_true rfl⟩) (fPreV hN hZ hS (fun q h => hFc q h) hPc hKc hDc (ci := 9) (q0 := 0) rfl rfl) rfl rfl hl.1 rfl (lv_room (Nat.le_of_ble_eq_true rfl)) dX6_addPart_79 ⟨Nat.le_of_ble_eq_true rfl, Nat.le_of_ble_eq_true rfl⟩) hS (fun q _ h => hFc q h) hFc (fun r u t H1 locs ht hvm hw hB hz1 hk1 hS => ?_)
              obtain ⟨hP1, hK1, hD1⟩ := hB
              rw [ht] at hP1
              have hK1 := va_K.moved hvm.symm hK1
              obtain ⟨hP, hD⟩ := va_join (wr := [(kA, .inl (cI, 2, .inl (fun _ => 0)))]) (w1 := [(k0, .inr (9, [.ref kN, .ref kA, .ref kO, .ref kK, .ref kV, .ref kG, .ref kP, .ref kC, .ref kD, .ref kE, .ref kF, .ref kX, .ref kY, .int 0, .ref kT, .ref kU, .int 0, .int 0, .int 0])), (kN, .inl (cI, 2, .inl (fun _ => 0)))]) hP hD [0, 1] [2] rfl rfl (by decide) (by decide) hk1 hFc hP1 hD1
              generalize H1 = H at hP hS ⊢
              have hP : va_P (dC, dI) vwCl [(kA, .inl (cI, 2, .inl (fun _ => 0))), (k0, .inr (9, [.ref kN, .ref kA, .ref kO, .ref kK, .ref kV, .ref kG, .ref kP, .ref kC, .ref kD, .ref kE, .ref kF, .ref kX, .ref kY, .int 0, .ref kT, .ref kU, .int 0, .int 0, .int 0])), (kN, .inl (cI, 2, .inl (fun _ => 0)))] _ := hP
              have hD : va_D A [(kA, .inl (cI, 2, .inl (fun _ => 0))), (k0, .inr (9, [.ref kN, .ref kA, .ref kO, .ref kK, .ref kV, .ref kG, .ref kP, .ref kC, .ref kD, .ref kE, .ref kF, .ref kX, .ref kY, .int 0, .ref kT, .ref kU, .int 0, .int 0, .int 0])), (kN, .inl (cI, 2, .inl (fun _ => 0)))] := hD
              subst hw
              refine lv_if_eq (tgt := 111) hx hb dX6_addPart_82 (by decide) (fun _ => ?_) (fun h9 => absurd (by decide) h9)
              refine lv_aload_n hx hb dX6_addPart_111 rfl (lv_at hl 1 rfl) ?_
              refine lv_iconst (v := 2) hx hb dX6_addPart_112 (by decide) ?_
              refine va_put (D := (dC, dI)) (ci := 9) (v := .int 2) (ty := .int) (C := RX6) (T := TX6) (N := 19) hx hb hts (fun w h => List.mem_cons_of_mem _ (List.mem_append_left _ (List.mem_append_right _ (h)))) tyX6 tyX6_ok nmX6 hown hK hP hD hS 1 rfl rfl 16 (by decide) (hts (.fieldLink RX6 57 "NetcompareModel" "thrown" "I") (List.mem_cons_of_mem _ (List.mem_append_left _ (List.mem_append_left _ (List.mem_of_getElem? (i := 1) rfl))))) (fun _ h9 => h9) rfl (by decide +kernel) rfl rfl (Nat.le_of_ble_eq_true rfl) dX6_addPart_113 (fun H locs hP hD hS => ?_)
              have hP : va_P (dC, dI) vwCl [(kA, .inl (cI, 2, .inl (fun _ => 0))), (k0, .inr (9, [.ref kN, .ref kA, .ref kO, .ref kK, .ref kV, .ref kG, .ref kP, .ref kC, .ref kD, .ref kE, .ref kF, .ref kX, .ref kY, .int 0, .ref kT, .ref kU, .int 2, .int 0, .int 0])), (kN, .inl (cI, 2, .inl (fun _ => 0)))] _ := hP
              have hD : va_D A [(kA, .inl (cI, 2, .inl (fun _ => 0))), (k0, .inr (9, [.ref kN, .ref kA, .ref kO, .ref kK, .ref kV, .ref kG, .ref kP, .ref kC, .ref kD, .ref kE, .ref kF, .ref kX, .ref kY, .int 0, .ref kT, .ref kU, .int 2, .int 0, .int 0])), (kN, .inl (cI, 2, .inl (fun _ => 0)))] := hD
              refine lv_goto (tgt := 139) hx hb dX6_addPart_116 (by decide) ?_
              refine lv_aload_n hx hb dX6_addPart_139 rfl (lv_at hl 1 rfl) ?_
              refine va_get (D := (dC, dI)) (ci := 9) (v := .int 2) (C := RX6) (T := TX6) (N := 19) hx hb hts (fun w h => List.mem_cons_of_mem _ (List.mem_append_left _ (List.mem_append_right _ (h)))) hown hK hP 1 rfl rfl 16 (by decide) (hts (.fieldLink RX6 57 "NetcompareModel" "thrown" "I") (List.mem_cons_of_mem _ (List.mem_append_left _ (List.mem_append_left _ (List.mem_of_getElem? (i := 1) rfl))))) (fun _ h9 => h9) rfl dX6_addPart_140 ?_
              refine lv_if_le (tgt := 148) hx hb dX6_addPart_143 (by decide) (fun h9 => absurd h9 (by decide)) (fun _ => ?_)
              refine lv_iconst (v := (-1)) hx hb dX6_addPart_146 (by decide) ?_
              exact ret _ 2 _ _ _ _ _ _ (Or.inr (⟨rfl, (fun h9 => h9.elim ((fun h9 => h9 (Or.inl (rfl)))) ((fun h9 => h9.elim ((fun h9 => h9 (Or.inr (Or.inr (Or.inr (h32)))))) ((fun h9 => h9.elim ((fun h9 => h9 (hi34))) ((fun h9 => ((fun h9 => h9 (h32))) h9.1)))))))⟩)) (hP.sub [1] rfl) (hK.sub [] rfl) (hD.sub [1] (by decide) rfl) hS (Nat.le_of_ble_eq_true rfl) (Nat.le_of_ble_eq_true rfl) dX6_addPart_147
            · skip
              have hi35 : ¬ ((¬ (p2 < 1)) ∧ (¬ (999 < p2))) := fun q => hi9 ((fIn p2 1 999 1 999 (by decide) (by decide)).mpr q)
              refine lv_if_eq (tgt := 67) hx hb dX6_addPart_52 (by decide) (fun _ => ?_) (fun h9 => absurd (by decide) h9)
              refine lv_aload_n hx hb dX6_addPart_67 rfl (lv_at hl 1 rfl) ?_
              refine lv_iconst (v := 1) hx hb dX6_addPart_68 (by decide) ?_
              refine va_put (D := (dC, dI)) (ci := 9) (v := .int 1) (ty := .int) (C := RX6) (T := TX6) (N := 19) hx hb hts (fun w h => List.mem_cons_of_mem _ (List.mem_append_left _ (List.mem_append_right _ (h)))) tyX6 tyX6_ok nmX6 hown hK hP hD hS 0 rfl rfl 16 (by decide) (hts (.fieldLink RX6 57 "NetcompareModel" "thrown" "I") (List.mem_cons_of_mem _ (List.mem_append_left _ (List.mem_append_left _ (List.mem_of_getElem? (i := 1) rfl))))) (fun _ h9 => h9) rfl (by decide +kernel) rfl rfl (Nat.le_of_ble_eq_true rfl) dX6_addPart_69 (fun H locs hP hD hS => ?_)
              have hP : va_P (dC, dI) vwCl [(k0, .inr (9, [.ref kN, .ref kA, .ref kO, .ref kK, .ref kV, .ref kG, .ref kP, .ref kC, .ref kD, .ref kE, .ref kF, .ref kX, .ref kY, .int 0, .ref kT, .ref kU, .int 1, .int 0, .int 0])), (kN, .inl (cI, 2, .inl (fun _ => 0))), (kA, .inl (cI, 2, .inl (fun _ => 0)))] _ := hP
              have hD : va_D A [(k0, .inr (9, [.ref kN, .ref kA, .ref kO, .ref kK, .ref kV, .ref kG, .ref kP, .ref kC, .ref kD, .ref kE, .ref kF, .ref kX, .ref kY, .int 0, .ref kT, .ref kU, .int 1, .int 0, .int 0])), (kN, .inl (cI, 2, .inl (fun _ => 0))), (kA, .inl (cI, 2, .inl (fun _ => 0)))] := hD
              refine lv_goto (tgt := 139) hx hb dX6_addPart_72 (by decide) ?_
              refine lv_aload_n hx hb dX6_addPart_139 rfl (lv_at hl 1 rfl) ?_
              refine va_get (D := (dC, dI)) (ci := 9) (v := .int 1) (C := RX6) (T := TX6) (N := 19) hx hb hts (fun w h => List.mem_cons_of_mem _ (List.mem_append_left _ (List.mem_append_right _ (h)))) hown hK hP 0 rfl rfl 16 (by decide) (hts (.fieldLink RX6 57 "NetcompareModel" "thrown" "I") (List.mem_cons_of_mem _ (List.mem_append_left _ (List.mem_append_left _ (List.mem_of_getElem? (i := 1) rfl))))) (fun _ h9 => h9) rfl dX6_addPart_140 ?_
              refine lv_if_le (tgt := 148) hx hb dX6_addPart_143 (by decide) (fun h9 => absurd h9 (by decide)) (fun _ => ?_)
              refine lv_iconst (v := (-1)) hx hb dX6_addPart_146 (by decide) ?_
              exact ret _ 1 _ _ _ _ _ _ (Or.inl (⟨rfl, Or.inr (Or.inr (Or.inl (hi35)))⟩)) (hP.sub [0] rfl) (hK.sub [] rfl) (hD.sub [0] (by decide) rfl) hS (Nat.le_of_ble_eq_true rfl) (Nat.le_of_ble_eq_true rfl) dX6_addPart_147
          · skip
            subst hc
            have hP : va_P (dC, dI) vwCl [(k0, .inr (9, [.ref kN, .ref kA, .ref kO, .ref kK, .ref kV, .ref kG, .ref kP, .ref kC, .ref kD, .ref kE, .ref kF, .ref kX, .ref kY, .int 0, .ref kT, .ref kU, .int 0, .int 0, .int 0])), (kN, .inl (cI, 2, .inl (fun _ => 0))), (kA, .inl (cI, 2, .inl (fun _ => 0)))] _ := hP
            have hD : va_D A [(k0, .inr (9, [.ref kN, .ref kA, .ref kO, .ref kK, .ref kV, .ref kG, .ref kP, .ref kC, .ref kD, .ref kE, .ref kF, .ref kX, .ref kY, .int 0, .ref kT, .ref kU, .int 0, .int 0, .int 0])), (kN, .inl (cI, 2, .inl (fun _ => 0))), (kA, .inl (cI, 2, .inl (fun _ => 0)))] := hD
            refine lv_if_eq (tgt := 67) hx hb dX6_addPart_35 (by decide) (fun h9 => absurd h9 (by decide)) (fun _ => ?_)
            refine lv_iload hx hb dX6_addPart_38 (lv_at hl 0 rfl) ?_
            refine lv_if_eq (tgt := 67) hx hb dX6_addPart_40 (by decide) (fun h9 => absurd h9 (by decide)) (fun _ => ?_)
            refine lv_iload_n hx hb dX6_addPart_43 rfl (lv_at hl 4 rfl) ?_
            refine lv_i2l (v := p2.toInt64) hx hb dX6_addPart_44 rfl ?_
            refine lv_lconst (v := 1) hx hb dX6_addPart_45 (by decide) ?_
            refine lv_ldc2 (v := 999) hx hb hown (hts (.constantLong RX6 92 (999)) (List.mem_cons_of_mem _ (List.mem_append_left _ (List.mem_append_left _ (List.mem_of_getElem? (i := 0) rfl))))) dX6_addPart_46 ?_
            have hPc := hP.sub (ws' := []) [] rfl
            have hDc := hD.sub (ws' := []) [] (by decide) rfl
            have hKc := hK.sub (tys' := []) [] rfl
            have hFc := va_free (wc := []) hD hS hA [] rfl
            refine va_calli (va_runS (As := [.long p2.toInt64, .long 1, .long 999]) (rest := []) ⟨hx, hb, hml, hown, hts⟩ (kX6_in l dC dI p2.toInt64 1 999 H.size) (va_cwS 3 hts gX6_addPart_X6_in rfl rfl rfl (by decide +kernel) ⟨Nat.le_of_ble_eq_true rfl, Nat.le_of_ble_eq_true rfl⟩) (fPreS hN hZ hS (fun q h => hFc q h) hPc hKc hDc) rfl rfl hl.1 rfl (lv_room (Nat.le_of_ble_eq_true rfl)) dX6_addPart_49 ⟨Nat.le_of_ble_eq_true rfl, Nat.le_of_ble_eq_true rfl⟩) hS (fun q _ h => hFc q h) hFc (fun r u t H1 locs ht hvm hw hB hz1 hk1 hS => ?_)
            obtain ⟨hP1, hK1, hD1⟩ := hB
            rw [ht] at hP1
            have hK1 := va_K.moved hvm.symm hK1
            obtain ⟨hP, hD⟩ := va_join (wr := [(k0, .inr (9, [.ref kN, .ref kA, .ref kO, .ref kK, .ref kV, .ref kG, .ref kP, .ref kC, .ref kD, .ref kE, .ref kF, .ref kX, .ref kY, .int 0, .ref kT, .ref kU, .int 0, .int 0, .int 0])), (kN, .inl (cI, 2, .inl (fun _ => 0))), (kA, .inl (cI, 2, .inl (fun _ => 0)))]) (w1 := []) hP hD [] [0, 1, 2] rfl rfl (by decide) (by decide) hk1 hFc hP1 hD1
            generalize H1 = H at hP hS ⊢
            have hP : va_P (dC, dI) vwCl [(k0, .inr (9, [.ref kN, .ref kA, .ref kO, .ref kK, .ref kV, .ref kG, .ref kP, .ref kC, .ref kD, .ref kE, .ref kF, .ref kX, .ref kY, .int 0, .ref kT, .ref kU, .int 0, .int 0, .int 0])), (kN, .inl (cI, 2, .inl (fun _ => 0))), (kA, .inl (cI, 2, .inl (fun _ => 0)))] _ := hP
            have hD : va_D A [(k0, .inr (9, [.ref kN, .ref kA, .ref kO, .ref kK, .ref kV, .ref kG, .ref kP, .ref kC, .ref kD, .ref kE, .ref kF, .ref kX, .ref kY, .int 0, .ref kT, .ref kU, .int 0, .int 0, .int 0])), (kN, .inl (cI, 2, .inl (fun _ => 0))), (kA, .inl (cI, 2, .inl (fun _ => 0)))] := hD
            rcases hw with ⟨rfl, hi9⟩ | ⟨rfl, hi9⟩
            · skip
              have hi36 : ((¬ (p2 < 1)) ∧ (¬ (999 < p2))) := (fIn p2 1 999 1 999 (by decide) (by decide)).mp hi9
              refine lv_if_eq (tgt := 67) hx hb dX6_addPart_52 (by decide) (fun h9 => absurd h9 (by decide)) (fun _ => ?_)
              refine lv_iload_n hx hb dX6_addPart_55 rfl (lv_at hl 3 rfl) ?_
              refine lv_bipush (v := 116) hx hb dX6_addPart_56 (by decide) ?_
              refine lv_icmp_eq (tgt := 75) hx hb dX6_addPart_58 (by decide) (fun _ => ?_) (fun h9 => absurd (h32) h9)
              refine lv_aload_n hx hb dX6_addPart_75 rfl (lv_at hl 1 rfl) ?_
              refine lv_iload_n hx hb dX6_addPart_76 rfl (lv_at hl 2 rfl) ?_
              refine lv_iload hx hb dX6_addPart_77 (lv_at hl 5 rfl) ?_
              have hPc := hP.sub (ws' := [(k0, .inr (9, [.ref kN, .ref kA, .ref kO, .ref kK, .ref kV, .ref kG, .ref kP, .ref kC, .ref kD, .ref kE, .ref kF, .ref kX, .ref kY, .int 0, .ref kT, .ref kU, .int 0, .int 0, .int 0])), (kN, .inl (cI, 2, .inl (fun _ => 0)))]) [0, 1] rfl
              have hDc := hD.sub (ws' := [(k0, .inr (9, [.ref kN, .ref kA, .ref kO, .ref kK, .ref kV, .ref kG, .ref kP, .ref kC, .ref kD, .ref kE, .ref kF, .ref kX, .ref kY, .int 0, .ref kT, .ref kU, .int 0, .int 0, .int 0])), (kN, .inl (cI, 2, .inl (fun _ => 0)))]) [0, 1] (by decide) rfl
              have hKc := hK.sub (tys' := [(cI, .int)]) [0] rfl
              have hFc := va_free (wc := [(k0, .inr (9, [.ref kN, .ref kA, .ref kO, .ref kK, .ref kV, .ref kG, .ref kP, .ref kC, .ref kD, .ref kE, .ref kF, .ref kX, .ref kY, .int 0, .ref kT, .ref kU, .int 0, .int 0, .int 0])), (kN, .inl (cI, 2, .inl (fun _ => 0)))]) hD hS hA [0, 1] rfl
              refine va_calli (va_runV (As := [.int 1, .int p3]) (rest := []) ⟨hx, hb, hml, hown, hts⟩ (kX6_isNet1 l dC dI k0 kN kA kO kK kV kG kP kC kD kE kF kX kY kT kU cI p3 H.size) (cwV 2 hts gX6_addPart_X6_isNet rfl rfl rfl (by decide +kernel) ⟨Nat.le_of_ble_eq_true rfl, Nat.le_of_ble_eq_true rfl⟩) (fPreV hN hZ hS (fun q h => hFc q h) hPc hKc hDc (ci := 9) (q0 := 0) rfl rfl) rfl rfl hl.1 rfl (lv_room (Nat.le_of_ble_eq_true rfl)) dX6_addPart_79 ⟨Nat.le_of_ble_eq_true rfl, Nat.le_of_ble_eq_true rfl⟩) hS (fun q _ h => hFc q h) hFc (fun r u t H1 locs ht hvm hw hB hz1 hk1 hS => ?_)
              obtain ⟨hP1, hK1, hD1⟩ := hB
              rw [ht] at hP1
              have hK1 := va_K.moved hvm.symm hK1
              obtain ⟨hP, hD⟩ := va_join (wr := [(kA, .inl (cI, 2, .inl (fun _ => 0)))]) (w1 := [(k0, .inr (9, [.ref kN, .ref kA, .ref kO, .ref kK, .ref kV, .ref kG, .ref kP, .ref kC, .ref kD, .ref kE, .ref kF, .ref kX, .ref kY, .int 0, .ref kT, .ref kU, .int 0, .int 0, .int 0])), (kN, .inl (cI, 2, .inl (fun _ => 0)))]) hP hD [0, 1] [2] rfl rfl (by decide) (by decide) hk1 hFc hP1 hD1
              generalize H1 = H at hP hS ⊢
              have hP : va_P (dC, dI) vwCl [(kA, .inl (cI, 2, .inl (fun _ => 0))), (k0, .inr (9, [.ref kN, .ref kA, .ref kO, .ref kK, .ref kV, .ref kG, .ref kP, .ref kC, .ref kD, .ref kE, .ref kF, .ref kX, .ref kY, .int 0, .ref kT, .ref kU, .int 0, .int 0, .int 0])), (kN, .inl (cI, 2, .inl (fun _ => 0)))] _ := hP
              have hD : va_D A [(kA, .inl (cI, 2, .inl (fun _ => 0))), (k0, .inr (9, [.ref kN, .ref kA, .ref kO, .ref kK, .ref kV, .ref kG, .ref kP, .ref kC, .ref kD, .ref kE, .ref kF, .ref kX, .ref kY, .int 0, .ref kT, .ref kU, .int 0, .int 0, .int 0])), (kN, .inl (cI, 2, .inl (fun _ => 0)))] := hD
              subst hw
              refine lv_if_eq (tgt := 111) hx hb dX6_addPart_82 (by decide) (fun _ => ?_) (fun h9 => absurd (by decide) h9)
              refine lv_aload_n hx hb dX6_addPart_111 rfl (lv_at hl 1 rfl) ?_
              refine lv_iconst (v := 2) hx hb dX6_addPart_112 (by decide) ?_
              refine va_put (D := (dC, dI)) (ci := 9) (v := .int 2) (ty := .int) (C := RX6) (T := TX6) (N := 19) hx hb hts (fun w h => List.mem_cons_of_mem _ (List.mem_append_left _ (List.mem_append_right _ (h)))) tyX6 tyX6_ok nmX6 hown hK hP hD hS 1 rfl rfl 16 (by decide) (hts (.fieldLink RX6 57 "NetcompareModel" "thrown" "I") (List.mem_cons_of_mem _ (List.mem_append_left _ (List.mem_append_left _ (List.mem_of_getElem? (i := 1) rfl))))) (fun _ h9 => h9) rfl (by decide +kernel) rfl rfl (Nat.le_of_ble_eq_true rfl) dX6_addPart_113 (fun H locs hP hD hS => ?_)
              have hP : va_P (dC, dI) vwCl [(kA, .inl (cI, 2, .inl (fun _ => 0))), (k0, .inr (9, [.ref kN, .ref kA, .ref kO, .ref kK, .ref kV, .ref kG, .ref kP, .ref kC, .ref kD, .ref kE, .ref kF, .ref kX, .ref kY, .int 0, .ref kT, .ref kU, .int 2, .int 0, .int 0])), (kN, .inl (cI, 2, .inl (fun _ => 0)))] _ := hP
              have hD : va_D A [(kA, .inl (cI, 2, .inl (fun _ => 0))), (k0, .inr (9, [.ref kN, .ref kA, .ref kO, .ref kK, .ref kV, .ref kG, .ref kP, .ref kC, .ref kD, .ref kE, .ref kF, .ref kX, .ref kY, .int 0, .ref kT, .ref kU, .int 2, .int 0, .int 0])), (kN, .inl (cI, 2, .inl (fun _ => 0)))] := hD
              refine lv_goto (tgt := 139) hx hb dX6_addPart_116 (by decide) ?_
              refine lv_aload_n hx hb dX6_addPart_139 rfl (lv_at hl 1 rfl) ?_
              refine va_get (D := (dC, dI)) (ci := 9) (v := .int 2) (C := RX6) (T := TX6) (N := 19) hx hb hts (fun w h => List.mem_cons_of_mem _ (List.mem_append_left _ (List.mem_append_right _ (h)))) hown hK hP 1 rfl rfl 16 (by decide) (hts (.fieldLink RX6 57 "NetcompareModel" "thrown" "I") (List.mem_cons_of_mem _ (List.mem_append_left _ (List.mem_append_left _ (List.mem_of_getElem? (i := 1) rfl))))) (fun _ h9 => h9) rfl dX6_addPart_140 ?_
              refine lv_if_le (tgt := 148) hx hb dX6_addPart_143 (by decide) (fun h9 => absurd h9 (by decide)) (fun _ => ?_)
              refine lv_iconst (v := (-1)) hx hb dX6_addPart_146 (by decide) ?_
              exact ret _ 2 _ _ _ _ _ _ (Or.inr (⟨rfl, (fun h9 => h9.elim ((fun h9 => h9 (Or.inr (rfl)))) ((fun h9 => h9.elim ((fun h9 => h9 (Or.inr (Or.inr (Or.inr (h32)))))) ((fun h9 => h9.elim ((fun h9 => h9 (hi36))) ((fun h9 => ((fun h9 => h9 (h32))) h9.1)))))))⟩)) (hP.sub [1] rfl) (hK.sub [] rfl) (hD.sub [1] (by decide) rfl) hS (Nat.le_of_ble_eq_true rfl) (Nat.le_of_ble_eq_true rfl) dX6_addPart_147
            · skip
              have hi37 : ¬ ((¬ (p2 < 1)) ∧ (¬ (999 < p2))) := fun q => hi9 ((fIn p2 1 999 1 999 (by decide) (by decide)).mpr q)
              refine lv_if_eq (tgt := 67) hx hb dX6_addPart_52 (by decide) (fun _ => ?_) (fun h9 => absurd (by decide) h9)
              refine lv_aload_n hx hb dX6_addPart_67 rfl (lv_at hl 1 rfl) ?_
              refine lv_iconst (v := 1) hx hb dX6_addPart_68 (by decide) ?_
              refine va_put (D := (dC, dI)) (ci := 9) (v := .int 1) (ty := .int) (C := RX6) (T := TX6) (N := 19) hx hb hts (fun w h => List.mem_cons_of_mem _ (List.mem_append_left _ (List.mem_append_right _ (h)))) tyX6 tyX6_ok nmX6 hown hK hP hD hS 0 rfl rfl 16 (by decide) (hts (.fieldLink RX6 57 "NetcompareModel" "thrown" "I") (List.mem_cons_of_mem _ (List.mem_append_left _ (List.mem_append_left _ (List.mem_of_getElem? (i := 1) rfl))))) (fun _ h9 => h9) rfl (by decide +kernel) rfl rfl (Nat.le_of_ble_eq_true rfl) dX6_addPart_69 (fun H locs hP hD hS => ?_)
              have hP : va_P (dC, dI) vwCl [(k0, .inr (9, [.ref kN, .ref kA, .ref kO, .ref kK, .ref kV, .ref kG, .ref kP, .ref kC, .ref kD, .ref kE, .ref kF, .ref kX, .ref kY, .int 0, .ref kT, .ref kU, .int 1, .int 0, .int 0])), (kN, .inl (cI, 2, .inl (fun _ => 0))), (kA, .inl (cI, 2, .inl (fun _ => 0)))] _ := hP
              have hD : va_D A [(k0, .inr (9, [.ref kN, .ref kA, .ref kO, .ref kK, .ref kV, .ref kG, .ref kP, .ref kC, .ref kD, .ref kE, .ref kF, .ref kX, .ref kY, .int 0, .ref kT, .ref kU, .int 1, .int 0, .int 0])), (kN, .inl (cI, 2, .inl (fun _ => 0))), (kA, .inl (cI, 2, .inl (fun _ => 0)))] := hD
              refine lv_goto (tgt := 139) hx hb dX6_addPart_72 (by decide) ?_
              refine lv_aload_n hx hb dX6_addPart_139 rfl (lv_at hl 1 rfl) ?_
              refine va_get (D := (dC, dI)) (ci := 9) (v := .int 1) (C := RX6) (T := TX6) (N := 19) hx hb hts (fun w h => List.mem_cons_of_mem _ (List.mem_append_left _ (List.mem_append_right _ (h)))) hown hK hP 0 rfl rfl 16 (by decide) (hts (.fieldLink RX6 57 "NetcompareModel" "thrown" "I") (List.mem_cons_of_mem _ (List.mem_append_left _ (List.mem_append_left _ (List.mem_of_getElem? (i := 1) rfl))))) (fun _ h9 => h9) rfl dX6_addPart_140 ?_
              refine lv_if_le (tgt := 148) hx hb dX6_addPart_143 (by decide) (fun h9 => absurd h9 (by decide)) (fun _ => ?_)
              refine lv_iconst (v := (-1)) hx hb dX6_addPart_146 (by decide) ?_
              exact ret _ 1 _ _ _ _ _ _ (Or.inl (⟨rfl, Or.inr (Or.inr (Or.inl (hi37)))⟩)) (hP.sub [0] rfl) (hK.sub [] rfl) (hD.sub [0] (by decide) rfl) hS (Nat.le_of_ble_eq_true rfl) (Nat.le_of_ble_eq_true rfl) dX6_addPart_147
          · skip
            have hc38 := hc
            refine lv_if_eq (tgt := 67) hx hb dX6_addPart_35 (by decide) (fun _ => ?_) (fun h9 => absurd (by decide) h9)
            refine lv_aload_n hx hb dX6_addPart_67 rfl (lv_at hl 1 rfl) ?_
            refine lv_iconst (v := 1) hx hb dX6_addPart_68 (by decide) ?_
            refine va_put (D := (dC, dI)) (ci := 9) (v := .int 1) (ty := .int) (C := RX6) (T := TX6) (N := 19) hx hb hts (fun w h => List.mem_cons_of_mem _ (List.mem_append_left _ (List.mem_append_right _ (h)))) tyX6 tyX6_ok nmX6 hown hK hP hD hS 0 rfl rfl 16 (by decide) (hts (.fieldLink RX6 57 "NetcompareModel" "thrown" "I") (List.mem_cons_of_mem _ (List.mem_append_left _ (List.mem_append_left _ (List.mem_of_getElem? (i := 1) rfl))))) (fun _ h9 => h9) rfl (by decide +kernel) rfl rfl (Nat.le_of_ble_eq_true rfl) dX6_addPart_69 (fun H locs hP hD hS => ?_)
            have hP : va_P (dC, dI) vwCl [(k0, .inr (9, [.ref kN, .ref kA, .ref kO, .ref kK, .ref kV, .ref kG, .ref kP, .ref kC, .ref kD, .ref kE, .ref kF, .ref kX, .ref kY, .int 0, .ref kT, .ref kU, .int 1, .int 0, .int 0])), (kN, .inl (cI, 2, .inl (fun _ => 0))), (kA, .inl (cI, 2, .inl (fun _ => 0)))] _ := hP
            have hD : va_D A [(k0, .inr (9, [.ref kN, .ref kA, .ref kO, .ref kK, .ref kV, .ref kG, .ref kP, .ref kC, .ref kD, .ref kE, .ref kF, .ref kX, .ref kY, .int 0, .ref kT, .ref kU, .int 1, .int 0, .int 0])), (kN, .inl (cI, 2, .inl (fun _ => 0))), (kA, .inl (cI, 2, .inl (fun _ => 0)))] := hD
            refine lv_goto (tgt := 139) hx hb dX6_addPart_72 (by decide) ?_
            refine lv_aload_n hx hb dX6_addPart_139 rfl (lv_at hl 1 rfl) ?_
            refine va_get (D := (dC, dI)) (ci := 9) (v := .int 1) (C := RX6) (T := TX6) (N := 19) hx hb hts (fun w h => List.mem_cons_of_mem _ (List.mem_append_left _ (List.mem_append_right _ (h)))) hown hK hP 0 rfl rfl 16 (by decide) (hts (.fieldLink RX6 57 "NetcompareModel" "thrown" "I") (List.mem_cons_of_mem _ (List.mem_append_left _ (List.mem_append_left _ (List.mem_of_getElem? (i := 1) rfl))))) (fun _ h9 => h9) rfl dX6_addPart_140 ?_
            refine lv_if_le (tgt := 148) hx hb dX6_addPart_143 (by decide) (fun h9 => absurd h9 (by decide)) (fun _ => ?_)
            refine lv_iconst (v := (-1)) hx hb dX6_addPart_146 (by decide) ?_
            exact ret _ 1 _ _ _ _ _ _ (Or.inl (⟨rfl, Or.inl (hc38)⟩)) (hP.sub [0] rfl) (hK.sub [] rfl) (hD.sub [0] (by decide) rfl) hS (Nat.le_of_ble_eq_true rfl) (Nat.le_of_ble_eq_true rfl) dX6_addPart_147

set_option maxHeartbeats 4000000 in
set_option maxRecDepth 100000 in
/-- the model: removePart on a fresh one -/
theorem kX6_removePart (l : Launch) (dC : Nat → ClassId) (dI : Nat → Nat → Nat) (k0 kN kA kO kK kV kG kP kC kD kE kF kX kY kT kU : Nat) (cI : ClassId) (p0 p1 : Int32) (sz : Nat) : fMi l yX6_removePart wsX6_removePart ({ frames := 3, cells := 0, slots := 0, locals := 69 } : Room) dC dI [.ref k0, .int p0, .int p1] [(k0, .inr (9, [.ref kN, .ref kA, .ref kO, .ref kK, .ref kV, .ref kG, .ref kP, .ref kC, .ref kD, .ref kE, .ref kF, .ref kX, .ref kY, .int 0, .ref kT, .ref kU, .int 0, .int 0, .int 0])), (kN, .inl (cI, 2, .inl (fun _ => 0))), (kA, .inl (cI, 2, .inl (fun _ => 0)))] [(cI, .int)] sz (fun (r : Int32) (u : Int32) => u = 1 ∧ (¬ ((p0 = 0) ∨ (p0 = 1))) ∨ u = 2 ∧ (¬ (¬ ((p0 = 0) ∨ (p0 = 1))))) (fun u => [(k0, .inr (9, [.ref kN, .ref kA, .ref kO, .ref kK, .ref kV, .ref kG, .ref kP, .ref kC, .ref kD, .ref kE, .ref kF, .ref kX, .ref kY, .int 0, .ref kT, .ref kU, .int u, .int 0, .int 0]))]) (fun u => []) := by
  refine oP_i (y := yX6_removePart) (cc := cX6_removePart) (maxL := 3) (by decide) rfl (Nat.le_of_ble_eq_true rfl) ?_
  intro p e s m args below meth c ls A Q hx hb hr hml hown hts hN hZ hA hin hlk hP hK hD hl ret
  have hS : va_S A s.heap s.heap [] := va_S.rf
  have hl : lv_has ls 3 [(0, .ref k0), (1, .int p0), (2, .int p1)] := hl
  have hP : va_P (dC, dI) vwCl [(k0, .inr (9, [.ref kN, .ref kA, .ref kO, .ref kK, .ref kV, .ref kG, .ref kP, .ref kC, .ref kD, .ref kE, .ref kF, .ref kX, .ref kY, .int 0, .ref kT, .ref kU, .int 0, .int 0, .int 0])), (kN, .inl (cI, 2, .inl (fun _ => 0))), (kA, .inl (cI, 2, .inl (fun _ => 0)))] _ := hP
  have hD : va_D A [(k0, .inr (9, [.ref kN, .ref kA, .ref kO, .ref kK, .ref kV, .ref kG, .ref kP, .ref kC, .ref kD, .ref kE, .ref kF, .ref kX, .ref kY, .int 0, .ref kT, .ref kU, .int 0, .int 0, .int 0])), (kN, .inl (cI, 2, .inl (fun _ => 0))), (kA, .inl (cI, 2, .inl (fun _ => 0)))] := hD
  refine lv_aload_n hx hb dX6_removePart_0 rfl (lv_at hl 0 rfl) ?_
  refine lv_iload_n hx hb dX6_removePart_1 rfl (lv_at hl 1 rfl) ?_
  refine lv_iload_n hx hb dX6_removePart_2 rfl (lv_at hl 2 rfl) ?_
  have hPc := hP.sub (ws' := [(k0, .inr (9, [.ref kN, .ref kA, .ref kO, .ref kK, .ref kV, .ref kG, .ref kP, .ref kC, .ref kD, .ref kE, .ref kF, .ref kX, .ref kY, .int 0, .ref kT, .ref kU, .int 0, .int 0, .int 0])), (kA, .inl (cI, 2, .inl (fun _ => 0)))]) [0, 2] rfl
  have hDc := hD.sub (ws' := [(k0, .inr (9, [.ref kN, .ref kA, .ref kO, .ref kK, .ref kV, .ref kG, .ref kP, .ref kC, .ref kD, .ref kE, .ref kF, .ref kX, .ref kY, .int 0, .ref kT, .ref kU, .int 0, .int 0, .int 0])), (kA, .inl (cI, 2, .inl (fun _ => 0)))]) [0, 2] (by decide) rfl
  have hKc := hK.sub (tys' := [(cI, .int)]) [0] rfl
  have hFc := va_free (wc := [(k0, .inr (9, [.ref kN, .ref kA, .ref kO, .ref kK, .ref kV, .ref kG, .ref kP, .ref kC, .ref kD, .ref kE, .ref kF, .ref kX, .ref kY, .int 0, .ref kT, .ref kU, .int 0, .int 0, .int 0])), (kA, .inl (cI, 2, .inl (fun _ => 0)))]) hD hS hA [0, 2] rfl
  refine va_calli (va_runV (As := [.int p0, .int p1]) (rest := []) ⟨hx, hb, hml, hown, hts⟩ (kX6_isAsked l dC dI k0 kN kA kO kK kV kG kP kC kD kE kF kX kY kT kU cI p0 p1 s.heap.size) (cwV 2 hts gX6_removePart_X6_isAsked rfl rfl rfl (by decide +kernel) ⟨Nat.le_of_ble_eq_true rfl, Nat.le_of_ble_eq_true rfl⟩) (fPreV hN hZ hS (fun q h => hFc q h) hPc hKc hDc (ci := 9) (q0 := 0) rfl rfl) rfl rfl hl.1 rfl (lv_room (Nat.le_of_ble_eq_true rfl)) dX6_removePart_3 ⟨Nat.le_of_ble_eq_true rfl, Nat.le_of_ble_eq_true rfl⟩) hS (fun q _ h => hFc q h) hFc (fun r u t H1 locs ht hvm hw hB hz1 hk1 hS => ?_)
  obtain ⟨hP1, hK1, hD1⟩ := hB
  rw [ht] at hP1
  have hK1 := va_K.moved hvm.symm hK1
  obtain ⟨hP, hD⟩ := va_join (wr := [(kN, .inl (cI, 2, .inl (fun _ => 0)))]) (w1 := [(k0, .inr (9, [.ref kN, .ref kA, .ref kO, .ref kK, .ref kV, .ref kG, .ref kP, .ref kC, .ref kD, .ref kE, .ref kF, .ref kX, .ref kY, .int 0, .ref kT, .ref kU, .int u, .int 0, .int 0]))]) hP hD [0, 2] [1] rfl rfl (by decide) (by decide) hk1 hFc hP1 hD1
  generalize H1 = H at hP hS ⊢
  have hP : va_P (dC, dI) vwCl [(kN, .inl (cI, 2, .inl (fun _ => 0))), (k0, .inr (9, [.ref kN, .ref kA, .ref kO, .ref kK, .ref kV, .ref kG, .ref kP, .ref kC, .ref kD, .ref kE, .ref kF, .ref kX, .ref kY, .int 0, .ref kT, .ref kU, .int u, .int 0, .int 0]))] _ := hP
  have hD : va_D A [(kN, .inl (cI, 2, .inl (fun _ => 0))), (k0, .inr (9, [.ref kN, .ref kA, .ref kO, .ref kK, .ref kV, .ref kG, .ref kP, .ref kC, .ref kD, .ref kE, .ref kF, .ref kX, .ref kY, .int 0, .ref kT, .ref kU, .int u, .int 0, .int 0]))] := hD
  rcases hw with ⟨rfl, ⟨rfl, hq⟩ | ⟨rfl, hq⟩⟩
  · skip
    have hq1 := hq
    have hP : va_P (dC, dI) vwCl [(kN, .inl (cI, 2, .inl (fun _ => 0))), (k0, .inr (9, [.ref kN, .ref kA, .ref kO, .ref kK, .ref kV, .ref kG, .ref kP, .ref kC, .ref kD, .ref kE, .ref kF, .ref kX, .ref kY, .int 0, .ref kT, .ref kU, .int 1, .int 0, .int 0]))] _ := hP
    have hD : va_D A [(kN, .inl (cI, 2, .inl (fun _ => 0))), (k0, .inr (9, [.ref kN, .ref kA, .ref kO, .ref kK, .ref kV, .ref kG, .ref kP, .ref kC, .ref kD, .ref kE, .ref kF, .ref kX, .ref kY, .int 0, .ref kT, .ref kU, .int 1, .int 0, .int 0]))] := hD
    refine lv_if_ne (tgt := 11) hx hb dX6_removePart_6 (by decide) (fun h9 => absurd (by decide) h9) (fun _ => ?_)
    refine lv_iconst (v := (-1)) hx hb dX6_removePart_9 (by decide) ?_
    exact ret _ 1 _ _ _ _ _ _ (Or.inl (⟨rfl, hq1⟩)) (hP.sub [1] rfl) (hK.sub [] rfl) (hD.sub [1] (by decide) rfl) hS (Nat.le_of_ble_eq_true rfl) (Nat.le_of_ble_eq_true rfl) dX6_removePart_10
  · skip
    have hq2 := hq
    have hP : va_P (dC, dI) vwCl [(kN, .inl (cI, 2, .inl (fun _ => 0))), (k0, .inr (9, [.ref kN, .ref kA, .ref kO, .ref kK, .ref kV, .ref kG, .ref kP, .ref kC, .ref kD, .ref kE, .ref kF, .ref kX, .ref kY, .int 0, .ref kT, .ref kU, .int 2, .int 0, .int 0]))] _ := hP
    have hD : va_D A [(kN, .inl (cI, 2, .inl (fun _ => 0))), (k0, .inr (9, [.ref kN, .ref kA, .ref kO, .ref kK, .ref kV, .ref kG, .ref kP, .ref kC, .ref kD, .ref kE, .ref kF, .ref kX, .ref kY, .int 0, .ref kT, .ref kU, .int 2, .int 0, .int 0]))] := hD
    refine lv_if_ne (tgt := 11) hx hb dX6_removePart_6 (by decide) (fun h9 => absurd (by decide) h9) (fun _ => ?_)
    refine lv_iconst (v := (-1)) hx hb dX6_removePart_9 (by decide) ?_
    exact ret _ 2 _ _ _ _ _ _ (Or.inr (⟨rfl, (fun h9 => h9 (hq2))⟩)) (hP.sub [1] rfl) (hK.sub [] rfl) (hD.sub [1] (by decide) rfl) hS (Nat.le_of_ble_eq_true rfl) (Nat.le_of_ble_eq_true rfl) dX6_removePart_10

set_option maxHeartbeats 4000000 in
set_option maxRecDepth 100000 in
/-- the model: rewire on a fresh one -/
theorem kX6_rewire (l : Launch) (dC : Nat → ClassId) (dI : Nat → Nat → Nat) (k0 kN kA kO kK kV kG kP kC kD kE kF kX kY kT kU : Nat) (cI : ClassId) (p0 p1 p2 p3 : Int32) (sz : Nat) : fMi l yX6_rewire wsX6_rewire ({ frames := 3, cells := 0, slots := 0, locals := 69 } : Room) dC dI [.ref k0, .int p0, .int p1, .int p2, .int p3] [(k0, .inr (9, [.ref kN, .ref kA, .ref kO, .ref kK, .ref kV, .ref kG, .ref kP, .ref kC, .ref kD, .ref kE, .ref kF, .ref kX, .ref kY, .int 0, .ref kT, .ref kU, .int 0, .int 0, .int 0])), (kN, .inl (cI, 2, .inl (fun _ => 0))), (kA, .inl (cI, 2, .inl (fun _ => 0)))] [(cI, .int)] sz (fun (r : Int32) (u : Int32) => u = 1 ∧ (¬ ((p0 = 0) ∨ (p0 = 1))) ∨ u = 2 ∧ (¬ (¬ ((p0 = 0) ∨ (p0 = 1))))) (fun u => [(k0, .inr (9, [.ref kN, .ref kA, .ref kO, .ref kK, .ref kV, .ref kG, .ref kP, .ref kC, .ref kD, .ref kE, .ref kF, .ref kX, .ref kY, .int 0, .ref kT, .ref kU, .int u, .int 0, .int 0]))]) (fun u => []) := by
  refine oP_i (y := yX6_rewire) (cc := cX6_rewire) (maxL := 6) (by decide) rfl (Nat.le_of_ble_eq_true rfl) ?_
  intro p e s m args below meth c ls A Q hx hb hr hml hown hts hN hZ hA hin hlk hP hK hD hl ret
  have hS : va_S A s.heap s.heap [] := va_S.rf
  have hl : lv_has ls 6 [(0, .ref k0), (1, .int p0), (2, .int p1), (3, .int p2), (4, .int p3)] := hl
  have hP : va_P (dC, dI) vwCl [(k0, .inr (9, [.ref kN, .ref kA, .ref kO, .ref kK, .ref kV, .ref kG, .ref kP, .ref kC, .ref kD, .ref kE, .ref kF, .ref kX, .ref kY, .int 0, .ref kT, .ref kU, .int 0, .int 0, .int 0])), (kN, .inl (cI, 2, .inl (fun _ => 0))), (kA, .inl (cI, 2, .inl (fun _ => 0)))] _ := hP
  have hD : va_D A [(k0, .inr (9, [.ref kN, .ref kA, .ref kO, .ref kK, .ref kV, .ref kG, .ref kP, .ref kC, .ref kD, .ref kE, .ref kF, .ref kX, .ref kY, .int 0, .ref kT, .ref kU, .int 0, .int 0, .int 0])), (kN, .inl (cI, 2, .inl (fun _ => 0))), (kA, .inl (cI, 2, .inl (fun _ => 0)))] := hD
  refine lv_aload_n hx hb dX6_rewire_0 rfl (lv_at hl 0 rfl) ?_
  refine lv_iload_n hx hb dX6_rewire_1 rfl (lv_at hl 1 rfl) ?_
  refine lv_iload_n hx hb dX6_rewire_2 rfl (lv_at hl 2 rfl) ?_
  have hPc := hP.sub (ws' := [(k0, .inr (9, [.ref kN, .ref kA, .ref kO, .ref kK, .ref kV, .ref kG, .ref kP, .ref kC, .ref kD, .ref kE, .ref kF, .ref kX, .ref kY, .int 0, .ref kT, .ref kU, .int 0, .int 0, .int 0])), (kA, .inl (cI, 2, .inl (fun _ => 0)))]) [0, 2] rfl
  have hDc := hD.sub (ws' := [(k0, .inr (9, [.ref kN, .ref kA, .ref kO, .ref kK, .ref kV, .ref kG, .ref kP, .ref kC, .ref kD, .ref kE, .ref kF, .ref kX, .ref kY, .int 0, .ref kT, .ref kU, .int 0, .int 0, .int 0])), (kA, .inl (cI, 2, .inl (fun _ => 0)))]) [0, 2] (by decide) rfl
  have hKc := hK.sub (tys' := [(cI, .int)]) [0] rfl
  have hFc := va_free (wc := [(k0, .inr (9, [.ref kN, .ref kA, .ref kO, .ref kK, .ref kV, .ref kG, .ref kP, .ref kC, .ref kD, .ref kE, .ref kF, .ref kX, .ref kY, .int 0, .ref kT, .ref kU, .int 0, .int 0, .int 0])), (kA, .inl (cI, 2, .inl (fun _ => 0)))]) hD hS hA [0, 2] rfl
  refine va_calli (va_runV (As := [.int p0, .int p1]) (rest := []) ⟨hx, hb, hml, hown, hts⟩ (kX6_isAsked l dC dI k0 kN kA kO kK kV kG kP kC kD kE kF kX kY kT kU cI p0 p1 s.heap.size) (cwV 2 hts gX6_rewire_X6_isAsked rfl rfl rfl (by decide +kernel) ⟨Nat.le_of_ble_eq_true rfl, Nat.le_of_ble_eq_true rfl⟩) (fPreV hN hZ hS (fun q h => hFc q h) hPc hKc hDc (ci := 9) (q0 := 0) rfl rfl) rfl rfl hl.1 rfl (lv_room (Nat.le_of_ble_eq_true rfl)) dX6_rewire_3 ⟨Nat.le_of_ble_eq_true rfl, Nat.le_of_ble_eq_true rfl⟩) hS (fun q _ h => hFc q h) hFc (fun r u t H1 locs ht hvm hw hB hz1 hk1 hS => ?_)
  obtain ⟨hP1, hK1, hD1⟩ := hB
  rw [ht] at hP1
  have hK1 := va_K.moved hvm.symm hK1
  obtain ⟨hP, hD⟩ := va_join (wr := [(kN, .inl (cI, 2, .inl (fun _ => 0)))]) (w1 := [(k0, .inr (9, [.ref kN, .ref kA, .ref kO, .ref kK, .ref kV, .ref kG, .ref kP, .ref kC, .ref kD, .ref kE, .ref kF, .ref kX, .ref kY, .int 0, .ref kT, .ref kU, .int u, .int 0, .int 0]))]) hP hD [0, 2] [1] rfl rfl (by decide) (by decide) hk1 hFc hP1 hD1
  generalize H1 = H at hP hS ⊢
  have hP : va_P (dC, dI) vwCl [(kN, .inl (cI, 2, .inl (fun _ => 0))), (k0, .inr (9, [.ref kN, .ref kA, .ref kO, .ref kK, .ref kV, .ref kG, .ref kP, .ref kC, .ref kD, .ref kE, .ref kF, .ref kX, .ref kY, .int 0, .ref kT, .ref kU, .int u, .int 0, .int 0]))] _ := hP
  have hD : va_D A [(kN, .inl (cI, 2, .inl (fun _ => 0))), (k0, .inr (9, [.ref kN, .ref kA, .ref kO, .ref kK, .ref kV, .ref kG, .ref kP, .ref kC, .ref kD, .ref kE, .ref kF, .ref kX, .ref kY, .int 0, .ref kT, .ref kU, .int u, .int 0, .int 0]))] := hD
  rcases hw with ⟨rfl, ⟨rfl, hq⟩ | ⟨rfl, hq⟩⟩
  · skip
    have hq1 := hq
    have hP : va_P (dC, dI) vwCl [(kN, .inl (cI, 2, .inl (fun _ => 0))), (k0, .inr (9, [.ref kN, .ref kA, .ref kO, .ref kK, .ref kV, .ref kG, .ref kP, .ref kC, .ref kD, .ref kE, .ref kF, .ref kX, .ref kY, .int 0, .ref kT, .ref kU, .int 1, .int 0, .int 0]))] _ := hP
    have hD : va_D A [(kN, .inl (cI, 2, .inl (fun _ => 0))), (k0, .inr (9, [.ref kN, .ref kA, .ref kO, .ref kK, .ref kV, .ref kG, .ref kP, .ref kC, .ref kD, .ref kE, .ref kF, .ref kX, .ref kY, .int 0, .ref kT, .ref kU, .int 1, .int 0, .int 0]))] := hD
    refine lv_if_ne (tgt := 11) hx hb dX6_rewire_6 (by decide) (fun h9 => absurd (by decide) h9) (fun _ => ?_)
    refine lv_iconst (v := (-1)) hx hb dX6_rewire_9 (by decide) ?_
    exact ret _ 1 _ _ _ _ _ _ (Or.inl (⟨rfl, hq1⟩)) (hP.sub [1] rfl) (hK.sub [] rfl) (hD.sub [1] (by decide) rfl) hS (Nat.le_of_ble_eq_true rfl) (Nat.le_of_ble_eq_true rfl) dX6_rewire_10
  · skip
    have hq2 := hq
    have hP : va_P (dC, dI) vwCl [(kN, .inl (cI, 2, .inl (fun _ => 0))), (k0, .inr (9, [.ref kN, .ref kA, .ref kO, .ref kK, .ref kV, .ref kG, .ref kP, .ref kC, .ref kD, .ref kE, .ref kF, .ref kX, .ref kY, .int 0, .ref kT, .ref kU, .int 2, .int 0, .int 0]))] _ := hP
    have hD : va_D A [(kN, .inl (cI, 2, .inl (fun _ => 0))), (k0, .inr (9, [.ref kN, .ref kA, .ref kO, .ref kK, .ref kV, .ref kG, .ref kP, .ref kC, .ref kD, .ref kE, .ref kF, .ref kX, .ref kY, .int 0, .ref kT, .ref kU, .int 2, .int 0, .int 0]))] := hD
    refine lv_if_ne (tgt := 11) hx hb dX6_rewire_6 (by decide) (fun h9 => absurd (by decide) h9) (fun _ => ?_)
    refine lv_iconst (v := (-1)) hx hb dX6_rewire_9 (by decide) ?_
    exact ret _ 2 _ _ _ _ _ _ (Or.inr (⟨rfl, (fun h9 => h9 (hq2))⟩)) (hP.sub [1] rfl) (hK.sub [] rfl) (hD.sub [1] (by decide) rfl) hS (Nat.le_of_ble_eq_true rfl) (Nat.le_of_ble_eq_true rfl) dX6_rewire_10

set_option maxHeartbeats 4000000 in
set_option maxRecDepth 100000 in
/-- the model: swapPins on a fresh one -/
theorem kX6_swapPins (l : Launch) (dC : Nat → ClassId) (dI : Nat → Nat → Nat) (k0 kN kA kO kK kV kG kP kC kD kE kF kX kY kT kU : Nat) (cI : ClassId) (p0 p1 : Int32) (sz : Nat) : fMi l yX6_swapPins wsX6_swapPins ({ frames := 3, cells := 0, slots := 0, locals := 69 } : Room) dC dI [.ref k0, .int p0, .int p1] [(k0, .inr (9, [.ref kN, .ref kA, .ref kO, .ref kK, .ref kV, .ref kG, .ref kP, .ref kC, .ref kD, .ref kE, .ref kF, .ref kX, .ref kY, .int 0, .ref kT, .ref kU, .int 0, .int 0, .int 0])), (kN, .inl (cI, 2, .inl (fun _ => 0))), (kA, .inl (cI, 2, .inl (fun _ => 0)))] [(cI, .int)] sz (fun (r : Int32) (u : Int32) => u = 1 ∧ (¬ ((p0 = 0) ∨ (p0 = 1))) ∨ u = 2 ∧ (¬ (¬ ((p0 = 0) ∨ (p0 = 1))))) (fun u => [(k0, .inr (9, [.ref kN, .ref kA, .ref kO, .ref kK, .ref kV, .ref kG, .ref kP, .ref kC, .ref kD, .ref kE, .ref kF, .ref kX, .ref kY, .int 0, .ref kT, .ref kU, .int u, .int 0, .int 0]))]) (fun u => []) := by
  refine oP_i (y := yX6_swapPins) (cc := cX6_swapPins) (maxL := 6) (by decide) rfl (Nat.le_of_ble_eq_true rfl) ?_
  intro p e s m args below meth c ls A Q hx hb hr hml hown hts hN hZ hA hin hlk hP hK hD hl ret
  have hS : va_S A s.heap s.heap [] := va_S.rf
  have hl : lv_has ls 6 [(0, .ref k0), (1, .int p0), (2, .int p1)] := hl
  have hP : va_P (dC, dI) vwCl [(k0, .inr (9, [.ref kN, .ref kA, .ref kO, .ref kK, .ref kV, .ref kG, .ref kP, .ref kC, .ref kD, .ref kE, .ref kF, .ref kX, .ref kY, .int 0, .ref kT, .ref kU, .int 0, .int 0, .int 0])), (kN, .inl (cI, 2, .inl (fun _ => 0))), (kA, .inl (cI, 2, .inl (fun _ => 0)))] _ := hP
  have hD : va_D A [(k0, .inr (9, [.ref kN, .ref kA, .ref kO, .ref kK, .ref kV, .ref kG, .ref kP, .ref kC, .ref kD, .ref kE, .ref kF, .ref kX, .ref kY, .int 0, .ref kT, .ref kU, .int 0, .int 0, .int 0])), (kN, .inl (cI, 2, .inl (fun _ => 0))), (kA, .inl (cI, 2, .inl (fun _ => 0)))] := hD
  refine lv_aload_n hx hb dX6_swapPins_0 rfl (lv_at hl 0 rfl) ?_
  refine lv_iload_n hx hb dX6_swapPins_1 rfl (lv_at hl 1 rfl) ?_
  refine lv_iload_n hx hb dX6_swapPins_2 rfl (lv_at hl 2 rfl) ?_
  have hPc := hP.sub (ws' := [(k0, .inr (9, [.ref kN, .ref kA, .ref kO, .ref kK, .ref kV, .ref kG, .ref kP, .ref kC, .ref kD, .ref kE, .ref kF, .ref kX, .ref kY, .int 0, .ref kT, .ref kU, .int 0, .int 0, .int 0])), (kA, .inl (cI, 2, .inl (fun _ => 0)))]) [0, 2] rfl
  have hDc := hD.sub (ws' := [(k0, .inr (9, [.ref kN, .ref kA, .ref kO, .ref kK, .ref kV, .ref kG, .ref kP, .ref kC, .ref kD, .ref kE, .ref kF, .ref kX, .ref kY, .int 0, .ref kT, .ref kU, .int 0, .int 0, .int 0])), (kA, .inl (cI, 2, .inl (fun _ => 0)))]) [0, 2] (by decide) rfl
  have hKc := hK.sub (tys' := [(cI, .int)]) [0] rfl
  have hFc := va_free (wc := [(k0, .inr (9, [.ref kN, .ref kA, .ref kO, .ref kK, .ref kV, .ref kG, .ref kP, .ref kC, .ref kD, .ref kE, .ref kF, .ref kX, .ref kY, .int 0, .ref kT, .ref kU, .int 0, .int 0, .int 0])), (kA, .inl (cI, 2, .inl (fun _ => 0)))]) hD hS hA [0, 2] rfl
  refine va_calli (va_runV (As := [.int p0, .int p1]) (rest := []) ⟨hx, hb, hml, hown, hts⟩ (kX6_isAsked l dC dI k0 kN kA kO kK kV kG kP kC kD kE kF kX kY kT kU cI p0 p1 s.heap.size) (cwV 2 hts gX6_swapPins_X6_isAsked rfl rfl rfl (by decide +kernel) ⟨Nat.le_of_ble_eq_true rfl, Nat.le_of_ble_eq_true rfl⟩) (fPreV hN hZ hS (fun q h => hFc q h) hPc hKc hDc (ci := 9) (q0 := 0) rfl rfl) rfl rfl hl.1 rfl (lv_room (Nat.le_of_ble_eq_true rfl)) dX6_swapPins_3 ⟨Nat.le_of_ble_eq_true rfl, Nat.le_of_ble_eq_true rfl⟩) hS (fun q _ h => hFc q h) hFc (fun r u t H1 locs ht hvm hw hB hz1 hk1 hS => ?_)
  obtain ⟨hP1, hK1, hD1⟩ := hB
  rw [ht] at hP1
  have hK1 := va_K.moved hvm.symm hK1
  obtain ⟨hP, hD⟩ := va_join (wr := [(kN, .inl (cI, 2, .inl (fun _ => 0)))]) (w1 := [(k0, .inr (9, [.ref kN, .ref kA, .ref kO, .ref kK, .ref kV, .ref kG, .ref kP, .ref kC, .ref kD, .ref kE, .ref kF, .ref kX, .ref kY, .int 0, .ref kT, .ref kU, .int u, .int 0, .int 0]))]) hP hD [0, 2] [1] rfl rfl (by decide) (by decide) hk1 hFc hP1 hD1
  generalize H1 = H at hP hS ⊢
  have hP : va_P (dC, dI) vwCl [(kN, .inl (cI, 2, .inl (fun _ => 0))), (k0, .inr (9, [.ref kN, .ref kA, .ref kO, .ref kK, .ref kV, .ref kG, .ref kP, .ref kC, .ref kD, .ref kE, .ref kF, .ref kX, .ref kY, .int 0, .ref kT, .ref kU, .int u, .int 0, .int 0]))] _ := hP
  have hD : va_D A [(kN, .inl (cI, 2, .inl (fun _ => 0))), (k0, .inr (9, [.ref kN, .ref kA, .ref kO, .ref kK, .ref kV, .ref kG, .ref kP, .ref kC, .ref kD, .ref kE, .ref kF, .ref kX, .ref kY, .int 0, .ref kT, .ref kU, .int u, .int 0, .int 0]))] := hD
  rcases hw with ⟨rfl, ⟨rfl, hq⟩ | ⟨rfl, hq⟩⟩
  · skip
    have hq1 := hq
    have hP : va_P (dC, dI) vwCl [(kN, .inl (cI, 2, .inl (fun _ => 0))), (k0, .inr (9, [.ref kN, .ref kA, .ref kO, .ref kK, .ref kV, .ref kG, .ref kP, .ref kC, .ref kD, .ref kE, .ref kF, .ref kX, .ref kY, .int 0, .ref kT, .ref kU, .int 1, .int 0, .int 0]))] _ := hP
    have hD : va_D A [(kN, .inl (cI, 2, .inl (fun _ => 0))), (k0, .inr (9, [.ref kN, .ref kA, .ref kO, .ref kK, .ref kV, .ref kG, .ref kP, .ref kC, .ref kD, .ref kE, .ref kF, .ref kX, .ref kY, .int 0, .ref kT, .ref kU, .int 1, .int 0, .int 0]))] := hD
    refine lv_if_ne (tgt := 11) hx hb dX6_swapPins_6 (by decide) (fun h9 => absurd (by decide) h9) (fun _ => ?_)
    refine lv_iconst (v := (-1)) hx hb dX6_swapPins_9 (by decide) ?_
    exact ret _ 1 _ _ _ _ _ _ (Or.inl (⟨rfl, hq1⟩)) (hP.sub [1] rfl) (hK.sub [] rfl) (hD.sub [1] (by decide) rfl) hS (Nat.le_of_ble_eq_true rfl) (Nat.le_of_ble_eq_true rfl) dX6_swapPins_10
  · skip
    have hq2 := hq
    have hP : va_P (dC, dI) vwCl [(kN, .inl (cI, 2, .inl (fun _ => 0))), (k0, .inr (9, [.ref kN, .ref kA, .ref kO, .ref kK, .ref kV, .ref kG, .ref kP, .ref kC, .ref kD, .ref kE, .ref kF, .ref kX, .ref kY, .int 0, .ref kT, .ref kU, .int 2, .int 0, .int 0]))] _ := hP
    have hD : va_D A [(kN, .inl (cI, 2, .inl (fun _ => 0))), (k0, .inr (9, [.ref kN, .ref kA, .ref kO, .ref kK, .ref kV, .ref kG, .ref kP, .ref kC, .ref kD, .ref kE, .ref kF, .ref kX, .ref kY, .int 0, .ref kT, .ref kU, .int 2, .int 0, .int 0]))] := hD
    refine lv_if_ne (tgt := 11) hx hb dX6_swapPins_6 (by decide) (fun h9 => absurd (by decide) h9) (fun _ => ?_)
    refine lv_iconst (v := (-1)) hx hb dX6_swapPins_9 (by decide) ?_
    exact ret _ 2 _ _ _ _ _ _ (Or.inr (⟨rfl, (fun h9 => h9 (hq2))⟩)) (hP.sub [1] rfl) (hK.sub [] rfl) (hD.sub [1] (by decide) rfl) hS (Nat.le_of_ble_eq_true rfl) (Nat.le_of_ble_eq_true rfl) dX6_swapPins_10

set_option maxHeartbeats 4000000 in
set_option maxRecDepth 100000 in
/-- the model: join on a fresh one -/
theorem kX6_join (l : Launch) (dC : Nat → ClassId) (dI : Nat → Nat → Nat) (k0 kN kA kO kK kV kG kP kC kD kE kF kX kY kT kU : Nat) (cI : ClassId) (p0 p1 p2 : Int32) (sz : Nat) : fMi l yX6_join wsX6_join ({ frames := 3, cells := 0, slots := 0, locals := 70 } : Room) dC dI [.ref k0, .int p0, .int p1, .int p2] [(k0, .inr (9, [.ref kN, .ref kA, .ref kO, .ref kK, .ref kV, .ref kG, .ref kP, .ref kC, .ref kD, .ref kE, .ref kF, .ref kX, .ref kY, .int 0, .ref kT, .ref kU, .int 0, .int 0, .int 0])), (kN, .inl (cI, 2, .inl (fun _ => 0))), (kA, .inl (cI, 2, .inl (fun _ => 0)))] [(cI, .int)] sz (fun (r : Int32) (u : Int32) => u = 1 ∧ (¬ ((p0 = 0) ∨ (p0 = 1))) ∨ u = 2 ∧ (¬ (¬ ((p0 = 0) ∨ (p0 = 1))))) (fun u => [(k0, .inr (9, [.ref kN, .ref kA, .ref kO, .ref kK, .ref kV, .ref kG, .ref kP, .ref kC, .ref kD, .ref kE, .ref kF, .ref kX, .ref kY, .int 0, .ref kT, .ref kU, .int u, .int 0, .int 0]))]) (fun u => []) := by
  refine oP_i (y := yX6_join) (cc := cX6_join) (maxL := 4) (by decide) rfl (Nat.le_of_ble_eq_true rfl) ?_
  intro p e s m args below meth c ls A Q hx hb hr hml hown hts hN hZ hA hin hlk hP hK hD hl ret
  have hS : va_S A s.heap s.heap [] := va_S.rf
  have hl : lv_has ls 4 [(0, .ref k0), (1, .int p0), (2, .int p1), (3, .int p2)] := hl
  have hP : va_P (dC, dI) vwCl [(k0, .inr (9, [.ref kN, .ref kA, .ref kO, .ref kK, .ref kV, .ref kG, .ref kP, .ref kC, .ref kD, .ref kE, .ref kF, .ref kX, .ref kY, .int 0, .ref kT, .ref kU, .int 0, .int 0, .int 0])), (kN, .inl (cI, 2, .inl (fun _ => 0))), (kA, .inl (cI, 2, .inl (fun _ => 0)))] _ := hP
  have hD : va_D A [(k0, .inr (9, [.ref kN, .ref kA, .ref kO, .ref kK, .ref kV, .ref kG, .ref kP, .ref kC, .ref kD, .ref kE, .ref kF, .ref kX, .ref kY, .int 0, .ref kT, .ref kU, .int 0, .int 0, .int 0])), (kN, .inl (cI, 2, .inl (fun _ => 0))), (kA, .inl (cI, 2, .inl (fun _ => 0)))] := hD
  refine lv_aload_n hx hb dX6_join_0 rfl (lv_at hl 0 rfl) ?_
  refine lv_iload_n hx hb dX6_join_1 rfl (lv_at hl 1 rfl) ?_
  refine lv_iload_n hx hb dX6_join_2 rfl (lv_at hl 2 rfl) ?_
  refine lv_iload_n hx hb dX6_join_3 rfl (lv_at hl 3 rfl) ?_
  have hPc := hP.sub (ws' := [(k0, .inr (9, [.ref kN, .ref kA, .ref kO, .ref kK, .ref kV, .ref kG, .ref kP, .ref kC, .ref kD, .ref kE, .ref kF, .ref kX, .ref kY, .int 0, .ref kT, .ref kU, .int 0, .int 0, .int 0])), (kA, .inl (cI, 2, .inl (fun _ => 0)))]) [0, 2] rfl
  have hDc := hD.sub (ws' := [(k0, .inr (9, [.ref kN, .ref kA, .ref kO, .ref kK, .ref kV, .ref kG, .ref kP, .ref kC, .ref kD, .ref kE, .ref kF, .ref kX, .ref kY, .int 0, .ref kT, .ref kU, .int 0, .int 0, .int 0])), (kA, .inl (cI, 2, .inl (fun _ => 0)))]) [0, 2] (by decide) rfl
  have hKc := hK.sub (tys' := [(cI, .int)]) [0] rfl
  have hFc := va_free (wc := [(k0, .inr (9, [.ref kN, .ref kA, .ref kO, .ref kK, .ref kV, .ref kG, .ref kP, .ref kC, .ref kD, .ref kE, .ref kF, .ref kX, .ref kY, .int 0, .ref kT, .ref kU, .int 0, .int 0, .int 0])), (kA, .inl (cI, 2, .inl (fun _ => 0)))]) hD hS hA [0, 2] rfl
  refine va_calli (va_runV (As := [.int p0, .int p1, .int p2]) (rest := []) ⟨hx, hb, hml, hown, hts⟩ (kX6_areAsked l dC dI k0 kN kA kO kK kV kG kP kC kD kE kF kX kY kT kU cI p0 p1 p2 s.heap.size) (cwV 3 hts gX6_join_X6_areAsked rfl rfl rfl (by decide +kernel) ⟨Nat.le_of_ble_eq_true rfl, Nat.le_of_ble_eq_true rfl⟩) (fPreV hN hZ hS (fun q h => hFc q h) hPc hKc hDc (ci := 9) (q0 := 0) rfl rfl) rfl rfl hl.1 rfl (lv_room (Nat.le_of_ble_eq_true rfl)) dX6_join_4 ⟨Nat.le_of_ble_eq_true rfl, Nat.le_of_ble_eq_true rfl⟩) hS (fun q _ h => hFc q h) hFc (fun r u t H1 locs ht hvm hw hB hz1 hk1 hS => ?_)
  obtain ⟨hP1, hK1, hD1⟩ := hB
  rw [ht] at hP1
  have hK1 := va_K.moved hvm.symm hK1
  obtain ⟨hP, hD⟩ := va_join (wr := [(kN, .inl (cI, 2, .inl (fun _ => 0)))]) (w1 := [(k0, .inr (9, [.ref kN, .ref kA, .ref kO, .ref kK, .ref kV, .ref kG, .ref kP, .ref kC, .ref kD, .ref kE, .ref kF, .ref kX, .ref kY, .int 0, .ref kT, .ref kU, .int u, .int 0, .int 0]))]) hP hD [0, 2] [1] rfl rfl (by decide) (by decide) hk1 hFc hP1 hD1
  generalize H1 = H at hP hS ⊢
  have hP : va_P (dC, dI) vwCl [(kN, .inl (cI, 2, .inl (fun _ => 0))), (k0, .inr (9, [.ref kN, .ref kA, .ref kO, .ref kK, .ref kV, .ref kG, .ref kP, .ref kC, .ref kD, .ref kE, .ref kF, .ref kX, .ref kY, .int 0, .ref kT, .ref kU, .int u, .int 0, .int 0]))] _ := hP
  have hD : va_D A [(kN, .inl (cI, 2, .inl (fun _ => 0))), (k0, .inr (9, [.ref kN, .ref kA, .ref kO, .ref kK, .ref kV, .ref kG, .ref kP, .ref kC, .ref kD, .ref kE, .ref kF, .ref kX, .ref kY, .int 0, .ref kT, .ref kU, .int u, .int 0, .int 0]))] := hD
  rcases hw with ⟨rfl, ⟨rfl, hq⟩ | ⟨rfl, hq⟩⟩
  · skip
    have hq1 := hq
    have hP : va_P (dC, dI) vwCl [(kN, .inl (cI, 2, .inl (fun _ => 0))), (k0, .inr (9, [.ref kN, .ref kA, .ref kO, .ref kK, .ref kV, .ref kG, .ref kP, .ref kC, .ref kD, .ref kE, .ref kF, .ref kX, .ref kY, .int 0, .ref kT, .ref kU, .int 1, .int 0, .int 0]))] _ := hP
    have hD : va_D A [(kN, .inl (cI, 2, .inl (fun _ => 0))), (k0, .inr (9, [.ref kN, .ref kA, .ref kO, .ref kK, .ref kV, .ref kG, .ref kP, .ref kC, .ref kD, .ref kE, .ref kF, .ref kX, .ref kY, .int 0, .ref kT, .ref kU, .int 1, .int 0, .int 0]))] := hD
    refine lv_if_ne (tgt := 12) hx hb dX6_join_7 (by decide) (fun h9 => absurd (by decide) h9) (fun _ => ?_)
    refine lv_iconst (v := (-1)) hx hb dX6_join_10 (by decide) ?_
    exact ret _ 1 _ _ _ _ _ _ (Or.inl (⟨rfl, hq1⟩)) (hP.sub [1] rfl) (hK.sub [] rfl) (hD.sub [1] (by decide) rfl) hS (Nat.le_of_ble_eq_true rfl) (Nat.le_of_ble_eq_true rfl) dX6_join_11
  · skip
    have hq2 := hq
    have hP : va_P (dC, dI) vwCl [(kN, .inl (cI, 2, .inl (fun _ => 0))), (k0, .inr (9, [.ref kN, .ref kA, .ref kO, .ref kK, .ref kV, .ref kG, .ref kP, .ref kC, .ref kD, .ref kE, .ref kF, .ref kX, .ref kY, .int 0, .ref kT, .ref kU, .int 2, .int 0, .int 0]))] _ := hP
    have hD : va_D A [(kN, .inl (cI, 2, .inl (fun _ => 0))), (k0, .inr (9, [.ref kN, .ref kA, .ref kO, .ref kK, .ref kV, .ref kG, .ref kP, .ref kC, .ref kD, .ref kE, .ref kF, .ref kX, .ref kY, .int 0, .ref kT, .ref kU, .int 2, .int 0, .int 0]))] := hD
    refine lv_if_ne (tgt := 12) hx hb dX6_join_7 (by decide) (fun h9 => absurd (by decide) h9) (fun _ => ?_)
    refine lv_iconst (v := (-1)) hx hb dX6_join_10 (by decide) ?_
    exact ret _ 2 _ _ _ _ _ _ (Or.inr (⟨rfl, (fun h9 => h9 (hq2))⟩)) (hP.sub [1] rfl) (hK.sub [] rfl) (hD.sub [1] (by decide) rfl) hS (Nat.le_of_ble_eq_true rfl) (Nat.le_of_ble_eq_true rfl) dX6_join_11

set_option maxHeartbeats 4000000 in
set_option maxRecDepth 100000 in
/-- the model: valueOf on a fresh one -/
theorem kX6_valueOf (l : Launch) (dC : Nat → ClassId) (dI : Nat → Nat → Nat) (k0 kN kA kO kK kV kG kP kC kD kE kF kX kY kT kU : Nat) (cI : ClassId) (p0 p1 : Int32) (sz : Nat) : fMi l yX6_valueOf wsX6_valueOf ({ frames := 3, cells := 0, slots := 0, locals := 69 } : Room) dC dI [.ref k0, .int p0, .int p1] [(k0, .inr (9, [.ref kN, .ref kA, .ref kO, .ref kK, .ref kV, .ref kG, .ref kP, .ref kC, .ref kD, .ref kE, .ref kF, .ref kX, .ref kY, .int 0, .ref kT, .ref kU, .int 0, .int 0, .int 0])), (kN, .inl (cI, 2, .inl (fun _ => 0))), (kA, .inl (cI, 2, .inl (fun _ => 0)))] [(cI, .int)] sz (fun (r : Int32) (u : Int32) => u = 1 ∧ (¬ ((p0 = 0) ∨ (p0 = 1))) ∨ u = 2 ∧ (¬ (¬ ((p0 = 0) ∨ (p0 = 1))))) (fun u => [(k0, .inr (9, [.ref kN, .ref kA, .ref kO, .ref kK, .ref kV, .ref kG, .ref kP, .ref kC, .ref kD, .ref kE, .ref kF, .ref kX, .ref kY, .int 0, .ref kT, .ref kU, .int u, .int 0, .int 0]))]) (fun u => []) := by
  refine oP_i (y := yX6_valueOf) (cc := cX6_valueOf) (maxL := 3) (by decide) rfl (Nat.le_of_ble_eq_true rfl) ?_
  intro p e s m args below meth c ls A Q hx hb hr hml hown hts hN hZ hA hin hlk hP hK hD hl ret
  have hS : va_S A s.heap s.heap [] := va_S.rf
  have hl : lv_has ls 3 [(0, .ref k0), (1, .int p0), (2, .int p1)] := hl
  have hP : va_P (dC, dI) vwCl [(k0, .inr (9, [.ref kN, .ref kA, .ref kO, .ref kK, .ref kV, .ref kG, .ref kP, .ref kC, .ref kD, .ref kE, .ref kF, .ref kX, .ref kY, .int 0, .ref kT, .ref kU, .int 0, .int 0, .int 0])), (kN, .inl (cI, 2, .inl (fun _ => 0))), (kA, .inl (cI, 2, .inl (fun _ => 0)))] _ := hP
  have hD : va_D A [(k0, .inr (9, [.ref kN, .ref kA, .ref kO, .ref kK, .ref kV, .ref kG, .ref kP, .ref kC, .ref kD, .ref kE, .ref kF, .ref kX, .ref kY, .int 0, .ref kT, .ref kU, .int 0, .int 0, .int 0])), (kN, .inl (cI, 2, .inl (fun _ => 0))), (kA, .inl (cI, 2, .inl (fun _ => 0)))] := hD
  refine lv_aload_n hx hb dX6_valueOf_0 rfl (lv_at hl 0 rfl) ?_
  refine lv_iload_n hx hb dX6_valueOf_1 rfl (lv_at hl 1 rfl) ?_
  refine lv_iload_n hx hb dX6_valueOf_2 rfl (lv_at hl 2 rfl) ?_
  have hPc := hP.sub (ws' := [(k0, .inr (9, [.ref kN, .ref kA, .ref kO, .ref kK, .ref kV, .ref kG, .ref kP, .ref kC, .ref kD, .ref kE, .ref kF, .ref kX, .ref kY, .int 0, .ref kT, .ref kU, .int 0, .int 0, .int 0])), (kA, .inl (cI, 2, .inl (fun _ => 0)))]) [0, 2] rfl
  have hDc := hD.sub (ws' := [(k0, .inr (9, [.ref kN, .ref kA, .ref kO, .ref kK, .ref kV, .ref kG, .ref kP, .ref kC, .ref kD, .ref kE, .ref kF, .ref kX, .ref kY, .int 0, .ref kT, .ref kU, .int 0, .int 0, .int 0])), (kA, .inl (cI, 2, .inl (fun _ => 0)))]) [0, 2] (by decide) rfl
  have hKc := hK.sub (tys' := [(cI, .int)]) [0] rfl
  have hFc := va_free (wc := [(k0, .inr (9, [.ref kN, .ref kA, .ref kO, .ref kK, .ref kV, .ref kG, .ref kP, .ref kC, .ref kD, .ref kE, .ref kF, .ref kX, .ref kY, .int 0, .ref kT, .ref kU, .int 0, .int 0, .int 0])), (kA, .inl (cI, 2, .inl (fun _ => 0)))]) hD hS hA [0, 2] rfl
  refine va_calli (va_runV (As := [.int p0, .int p1]) (rest := []) ⟨hx, hb, hml, hown, hts⟩ (kX6_isAsked l dC dI k0 kN kA kO kK kV kG kP kC kD kE kF kX kY kT kU cI p0 p1 s.heap.size) (cwV 2 hts gX6_valueOf_X6_isAsked rfl rfl rfl (by decide +kernel) ⟨Nat.le_of_ble_eq_true rfl, Nat.le_of_ble_eq_true rfl⟩) (fPreV hN hZ hS (fun q h => hFc q h) hPc hKc hDc (ci := 9) (q0 := 0) rfl rfl) rfl rfl hl.1 rfl (lv_room (Nat.le_of_ble_eq_true rfl)) dX6_valueOf_3 ⟨Nat.le_of_ble_eq_true rfl, Nat.le_of_ble_eq_true rfl⟩) hS (fun q _ h => hFc q h) hFc (fun r u t H1 locs ht hvm hw hB hz1 hk1 hS => ?_)
  obtain ⟨hP1, hK1, hD1⟩ := hB
  rw [ht] at hP1
  have hK1 := va_K.moved hvm.symm hK1
  obtain ⟨hP, hD⟩ := va_join (wr := [(kN, .inl (cI, 2, .inl (fun _ => 0)))]) (w1 := [(k0, .inr (9, [.ref kN, .ref kA, .ref kO, .ref kK, .ref kV, .ref kG, .ref kP, .ref kC, .ref kD, .ref kE, .ref kF, .ref kX, .ref kY, .int 0, .ref kT, .ref kU, .int u, .int 0, .int 0]))]) hP hD [0, 2] [1] rfl rfl (by decide) (by decide) hk1 hFc hP1 hD1
  generalize H1 = H at hP hS ⊢
  have hP : va_P (dC, dI) vwCl [(kN, .inl (cI, 2, .inl (fun _ => 0))), (k0, .inr (9, [.ref kN, .ref kA, .ref kO, .ref kK, .ref kV, .ref kG, .ref kP, .ref kC, .ref kD, .ref kE, .ref kF, .ref kX, .ref kY, .int 0, .ref kT, .ref kU, .int u, .int 0, .int 0]))] _ := hP
  have hD : va_D A [(kN, .inl (cI, 2, .inl (fun _ => 0))), (k0, .inr (9, [.ref kN, .ref kA, .ref kO, .ref kK, .ref kV, .ref kG, .ref kP, .ref kC, .ref kD, .ref kE, .ref kF, .ref kX, .ref kY, .int 0, .ref kT, .ref kU, .int u, .int 0, .int 0]))] := hD
  rcases hw with ⟨rfl, ⟨rfl, hq⟩ | ⟨rfl, hq⟩⟩
  · skip
    have hq1 := hq
    have hP : va_P (dC, dI) vwCl [(kN, .inl (cI, 2, .inl (fun _ => 0))), (k0, .inr (9, [.ref kN, .ref kA, .ref kO, .ref kK, .ref kV, .ref kG, .ref kP, .ref kC, .ref kD, .ref kE, .ref kF, .ref kX, .ref kY, .int 0, .ref kT, .ref kU, .int 1, .int 0, .int 0]))] _ := hP
    have hD : va_D A [(kN, .inl (cI, 2, .inl (fun _ => 0))), (k0, .inr (9, [.ref kN, .ref kA, .ref kO, .ref kK, .ref kV, .ref kG, .ref kP, .ref kC, .ref kD, .ref kE, .ref kF, .ref kX, .ref kY, .int 0, .ref kT, .ref kU, .int 1, .int 0, .int 0]))] := hD
    refine lv_if_eq (tgt := 18) hx hb dX6_valueOf_6 (by decide) (fun _ => ?_) (fun h9 => absurd (by decide) h9)
    refine lv_iconst (v := (-1)) hx hb dX6_valueOf_18 (by decide) ?_
    exact ret _ 1 _ _ _ _ _ _ (Or.inl (⟨rfl, hq1⟩)) (hP.sub [1] rfl) (hK.sub [] rfl) (hD.sub [1] (by decide) rfl) hS (Nat.le_of_ble_eq_true rfl) (Nat.le_of_ble_eq_true rfl) dX6_valueOf_19
  · skip
    have hq2 := hq
    have hP : va_P (dC, dI) vwCl [(kN, .inl (cI, 2, .inl (fun _ => 0))), (k0, .inr (9, [.ref kN, .ref kA, .ref kO, .ref kK, .ref kV, .ref kG, .ref kP, .ref kC, .ref kD, .ref kE, .ref kF, .ref kX, .ref kY, .int 0, .ref kT, .ref kU, .int 2, .int 0, .int 0]))] _ := hP
    have hD : va_D A [(kN, .inl (cI, 2, .inl (fun _ => 0))), (k0, .inr (9, [.ref kN, .ref kA, .ref kO, .ref kK, .ref kV, .ref kG, .ref kP, .ref kC, .ref kD, .ref kE, .ref kF, .ref kX, .ref kY, .int 0, .ref kT, .ref kU, .int 2, .int 0, .int 0]))] := hD
    refine lv_if_eq (tgt := 18) hx hb dX6_valueOf_6 (by decide) (fun _ => ?_) (fun h9 => absurd (by decide) h9)
    refine lv_iconst (v := (-1)) hx hb dX6_valueOf_18 (by decide) ?_
    exact ret _ 2 _ _ _ _ _ _ (Or.inr (⟨rfl, (fun h9 => h9 (hq2))⟩)) (hP.sub [1] rfl) (hK.sub [] rfl) (hD.sub [1] (by decide) rfl) hS (Nat.le_of_ble_eq_true rfl) (Nat.le_of_ble_eq_true rfl) dX6_valueOf_19

set_option maxHeartbeats 4000000 in
set_option maxRecDepth 100000 in
/-- the model: netOf on a fresh one -/
theorem kX6_netOf (l : Launch) (dC : Nat → ClassId) (dI : Nat → Nat → Nat) (k0 kN kA kO kK kV kG kP kC kD kE kF kX kY kT kU : Nat) (cI : ClassId) (p0 p1 p2 : Int32) (sz : Nat) : fMi l yX6_netOf wsX6_netOf ({ frames := 3, cells := 0, slots := 0, locals := 69 } : Room) dC dI [.ref k0, .int p0, .int p1, .int p2] [(k0, .inr (9, [.ref kN, .ref kA, .ref kO, .ref kK, .ref kV, .ref kG, .ref kP, .ref kC, .ref kD, .ref kE, .ref kF, .ref kX, .ref kY, .int 0, .ref kT, .ref kU, .int 0, .int 0, .int 0])), (kN, .inl (cI, 2, .inl (fun _ => 0))), (kA, .inl (cI, 2, .inl (fun _ => 0)))] [(cI, .int)] sz (fun (r : Int32) (u : Int32) => u = 1 ∧ (¬ ((p0 = 0) ∨ (p0 = 1))) ∨ u = 2 ∧ (¬ (¬ ((p0 = 0) ∨ (p0 = 1))))) (fun u => [(k0, .inr (9, [.ref kN, .ref kA, .ref kO, .ref kK, .ref kV, .ref kG, .ref kP, .ref kC, .ref kD, .ref kE, .ref kF, .ref kX, .ref kY, .int 0, .ref kT, .ref kU, .int u, .int 0, .int 0]))]) (fun u => []) := by
  refine oP_i (y := yX6_netOf) (cc := cX6_netOf) (maxL := 4) (by decide) rfl (Nat.le_of_ble_eq_true rfl) ?_
  intro p e s m args below meth c ls A Q hx hb hr hml hown hts hN hZ hA hin hlk hP hK hD hl ret
  have hS : va_S A s.heap s.heap [] := va_S.rf
  have hl : lv_has ls 4 [(0, .ref k0), (1, .int p0), (2, .int p1), (3, .int p2)] := hl
  have hP : va_P (dC, dI) vwCl [(k0, .inr (9, [.ref kN, .ref kA, .ref kO, .ref kK, .ref kV, .ref kG, .ref kP, .ref kC, .ref kD, .ref kE, .ref kF, .ref kX, .ref kY, .int 0, .ref kT, .ref kU, .int 0, .int 0, .int 0])), (kN, .inl (cI, 2, .inl (fun _ => 0))), (kA, .inl (cI, 2, .inl (fun _ => 0)))] _ := hP
  have hD : va_D A [(k0, .inr (9, [.ref kN, .ref kA, .ref kO, .ref kK, .ref kV, .ref kG, .ref kP, .ref kC, .ref kD, .ref kE, .ref kF, .ref kX, .ref kY, .int 0, .ref kT, .ref kU, .int 0, .int 0, .int 0])), (kN, .inl (cI, 2, .inl (fun _ => 0))), (kA, .inl (cI, 2, .inl (fun _ => 0)))] := hD
  refine lv_aload_n hx hb dX6_netOf_0 rfl (lv_at hl 0 rfl) ?_
  refine lv_iload_n hx hb dX6_netOf_1 rfl (lv_at hl 1 rfl) ?_
  refine lv_iload_n hx hb dX6_netOf_2 rfl (lv_at hl 2 rfl) ?_
  have hPc := hP.sub (ws' := [(k0, .inr (9, [.ref kN, .ref kA, .ref kO, .ref kK, .ref kV, .ref kG, .ref kP, .ref kC, .ref kD, .ref kE, .ref kF, .ref kX, .ref kY, .int 0, .ref kT, .ref kU, .int 0, .int 0, .int 0])), (kA, .inl (cI, 2, .inl (fun _ => 0)))]) [0, 2] rfl
  have hDc := hD.sub (ws' := [(k0, .inr (9, [.ref kN, .ref kA, .ref kO, .ref kK, .ref kV, .ref kG, .ref kP, .ref kC, .ref kD, .ref kE, .ref kF, .ref kX, .ref kY, .int 0, .ref kT, .ref kU, .int 0, .int 0, .int 0])), (kA, .inl (cI, 2, .inl (fun _ => 0)))]) [0, 2] (by decide) rfl
  have hKc := hK.sub (tys' := [(cI, .int)]) [0] rfl
  have hFc := va_free (wc := [(k0, .inr (9, [.ref kN, .ref kA, .ref kO, .ref kK, .ref kV, .ref kG, .ref kP, .ref kC, .ref kD, .ref kE, .ref kF, .ref kX, .ref kY, .int 0, .ref kT, .ref kU, .int 0, .int 0, .int 0])), (kA, .inl (cI, 2, .inl (fun _ => 0)))]) hD hS hA [0, 2] rfl
  refine va_calli (va_runV (As := [.int p0, .int p1]) (rest := []) ⟨hx, hb, hml, hown, hts⟩ (kX6_isAsked l dC dI k0 kN kA kO kK kV kG kP kC kD kE kF kX kY kT kU cI p0 p1 s.heap.size) (cwV 2 hts gX6_netOf_X6_isAsked rfl rfl rfl (by decide +kernel) ⟨Nat.le_of_ble_eq_true rfl, Nat.le_of_ble_eq_true rfl⟩) (fPreV hN hZ hS (fun q h => hFc q h) hPc hKc hDc (ci := 9) (q0 := 0) rfl rfl) rfl rfl hl.1 rfl (lv_room (Nat.le_of_ble_eq_true rfl)) dX6_netOf_3 ⟨Nat.le_of_ble_eq_true rfl, Nat.le_of_ble_eq_true rfl⟩) hS (fun q _ h => hFc q h) hFc (fun r u t H1 locs ht hvm hw hB hz1 hk1 hS => ?_)
  obtain ⟨hP1, hK1, hD1⟩ := hB
  rw [ht] at hP1
  have hK1 := va_K.moved hvm.symm hK1
  obtain ⟨hP, hD⟩ := va_join (wr := [(kN, .inl (cI, 2, .inl (fun _ => 0)))]) (w1 := [(k0, .inr (9, [.ref kN, .ref kA, .ref kO, .ref kK, .ref kV, .ref kG, .ref kP, .ref kC, .ref kD, .ref kE, .ref kF, .ref kX, .ref kY, .int 0, .ref kT, .ref kU, .int u, .int 0, .int 0]))]) hP hD [0, 2] [1] rfl rfl (by decide) (by decide) hk1 hFc hP1 hD1
  generalize H1 = H at hP hS ⊢
  have hP : va_P (dC, dI) vwCl [(kN, .inl (cI, 2, .inl (fun _ => 0))), (k0, .inr (9, [.ref kN, .ref kA, .ref kO, .ref kK, .ref kV, .ref kG, .ref kP, .ref kC, .ref kD, .ref kE, .ref kF, .ref kX, .ref kY, .int 0, .ref kT, .ref kU, .int u, .int 0, .int 0]))] _ := hP
  have hD : va_D A [(kN, .inl (cI, 2, .inl (fun _ => 0))), (k0, .inr (9, [.ref kN, .ref kA, .ref kO, .ref kK, .ref kV, .ref kG, .ref kP, .ref kC, .ref kD, .ref kE, .ref kF, .ref kX, .ref kY, .int 0, .ref kT, .ref kU, .int u, .int 0, .int 0]))] := hD
  rcases hw with ⟨rfl, ⟨rfl, hq⟩ | ⟨rfl, hq⟩⟩
  · skip
    have hq1 := hq
    have hP : va_P (dC, dI) vwCl [(kN, .inl (cI, 2, .inl (fun _ => 0))), (k0, .inr (9, [.ref kN, .ref kA, .ref kO, .ref kK, .ref kV, .ref kG, .ref kP, .ref kC, .ref kD, .ref kE, .ref kF, .ref kX, .ref kY, .int 0, .ref kT, .ref kU, .int 1, .int 0, .int 0]))] _ := hP
    have hD : va_D A [(kN, .inl (cI, 2, .inl (fun _ => 0))), (k0, .inr (9, [.ref kN, .ref kA, .ref kO, .ref kK, .ref kV, .ref kG, .ref kP, .ref kC, .ref kD, .ref kE, .ref kF, .ref kX, .ref kY, .int 0, .ref kT, .ref kU, .int 1, .int 0, .int 0]))] := hD
    refine lv_if_ne (tgt := 11) hx hb dX6_netOf_6 (by decide) (fun h9 => absurd (by decide) h9) (fun _ => ?_)
    refine lv_iconst (v := (-1)) hx hb dX6_netOf_9 (by decide) ?_
    exact ret _ 1 _ _ _ _ _ _ (Or.inl (⟨rfl, hq1⟩)) (hP.sub [1] rfl) (hK.sub [] rfl) (hD.sub [1] (by decide) rfl) hS (Nat.le_of_ble_eq_true rfl) (Nat.le_of_ble_eq_true rfl) dX6_netOf_10
  · skip
    have hq2 := hq
    have hP : va_P (dC, dI) vwCl [(kN, .inl (cI, 2, .inl (fun _ => 0))), (k0, .inr (9, [.ref kN, .ref kA, .ref kO, .ref kK, .ref kV, .ref kG, .ref kP, .ref kC, .ref kD, .ref kE, .ref kF, .ref kX, .ref kY, .int 0, .ref kT, .ref kU, .int 2, .int 0, .int 0]))] _ := hP
    have hD : va_D A [(kN, .inl (cI, 2, .inl (fun _ => 0))), (k0, .inr (9, [.ref kN, .ref kA, .ref kO, .ref kK, .ref kV, .ref kG, .ref kP, .ref kC, .ref kD, .ref kE, .ref kF, .ref kX, .ref kY, .int 0, .ref kT, .ref kU, .int 2, .int 0, .int 0]))] := hD
    refine lv_if_ne (tgt := 11) hx hb dX6_netOf_6 (by decide) (fun h9 => absurd (by decide) h9) (fun _ => ?_)
    refine lv_iconst (v := (-1)) hx hb dX6_netOf_9 (by decide) ?_
    exact ret _ 2 _ _ _ _ _ _ (Or.inr (⟨rfl, (fun h9 => h9 (hq2))⟩)) (hP.sub [1] rfl) (hK.sub [] rfl) (hD.sub [1] (by decide) rfl) hS (Nat.le_of_ble_eq_true rfl) (Nat.le_of_ble_eq_true rfl) dX6_netOf_10

set_option maxHeartbeats 4000000 in
set_option maxRecDepth 100000 in
/-- the model: pinsOn on a fresh one -/
theorem kX6_pinsOn (l : Launch) (dC : Nat → ClassId) (dI : Nat → Nat → Nat) (k0 kN kA kO kK kV kG kP kC kD kE kF kX kY kT kU : Nat) (cI : ClassId) (p0 p1 : Int32) (sz : Nat) : fMi l yX6_pinsOn wsX6_pinsOn ({ frames := 3, cells := 0, slots := 0, locals := 69 } : Room) dC dI [.ref k0, .int p0, .int p1] [(k0, .inr (9, [.ref kN, .ref kA, .ref kO, .ref kK, .ref kV, .ref kG, .ref kP, .ref kC, .ref kD, .ref kE, .ref kF, .ref kX, .ref kY, .int 0, .ref kT, .ref kU, .int 0, .int 0, .int 0])), (kN, .inl (cI, 2, .inl (fun _ => 0))), (kA, .inl (cI, 2, .inl (fun _ => 0)))] [(cI, .int)] sz (fun (r : Int32) (u : Int32) => u = 1 ∧ (¬ ((p0 = 0) ∨ (p0 = 1))) ∨ u = 2 ∧ (¬ (¬ ((p0 = 0) ∨ (p0 = 1))))) (fun u => [(k0, .inr (9, [.ref kN, .ref kA, .ref kO, .ref kK, .ref kV, .ref kG, .ref kP, .ref kC, .ref kD, .ref kE, .ref kF, .ref kX, .ref kY, .int 0, .ref kT, .ref kU, .int u, .int 0, .int 0]))]) (fun u => []) := by
  refine oP_i (y := yX6_pinsOn) (cc := cX6_pinsOn) (maxL := 3) (by decide) rfl (Nat.le_of_ble_eq_true rfl) ?_
  intro p e s m args below meth c ls A Q hx hb hr hml hown hts hN hZ hA hin hlk hP hK hD hl ret
  have hS : va_S A s.heap s.heap [] := va_S.rf
  have hl : lv_has ls 3 [(0, .ref k0), (1, .int p0), (2, .int p1)] := hl
  have hP : va_P (dC, dI) vwCl [(k0, .inr (9, [.ref kN, .ref kA, .ref kO, .ref kK, .ref kV, .ref kG, .ref kP, .ref kC, .ref kD, .ref kE, .ref kF, .ref kX, .ref kY, .int 0, .ref kT, .ref kU, .int 0, .int 0, .int 0])), (kN, .inl (cI, 2, .inl (fun _ => 0))), (kA, .inl (cI, 2, .inl (fun _ => 0)))] _ := hP
  have hD : va_D A [(k0, .inr (9, [.ref kN, .ref kA, .ref kO, .ref kK, .ref kV, .ref kG, .ref kP, .ref kC, .ref kD, .ref kE, .ref kF, .ref kX, .ref kY, .int 0, .ref kT, .ref kU, .int 0, .int 0, .int 0])), (kN, .inl (cI, 2, .inl (fun _ => 0))), (kA, .inl (cI, 2, .inl (fun _ => 0)))] := hD
  refine lv_aload_n hx hb dX6_pinsOn_0 rfl (lv_at hl 0 rfl) ?_
  refine lv_iload_n hx hb dX6_pinsOn_1 rfl (lv_at hl 1 rfl) ?_
  refine lv_iload_n hx hb dX6_pinsOn_2 rfl (lv_at hl 2 rfl) ?_
  have hPc := hP.sub (ws' := [(k0, .inr (9, [.ref kN, .ref kA, .ref kO, .ref kK, .ref kV, .ref kG, .ref kP, .ref kC, .ref kD, .ref kE, .ref kF, .ref kX, .ref kY, .int 0, .ref kT, .ref kU, .int 0, .int 0, .int 0])), (kN, .inl (cI, 2, .inl (fun _ => 0)))]) [0, 1] rfl
  have hDc := hD.sub (ws' := [(k0, .inr (9, [.ref kN, .ref kA, .ref kO, .ref kK, .ref kV, .ref kG, .ref kP, .ref kC, .ref kD, .ref kE, .ref kF, .ref kX, .ref kY, .int 0, .ref kT, .ref kU, .int 0, .int 0, .int 0])), (kN, .inl (cI, 2, .inl (fun _ => 0)))]) [0, 1] (by decide) rfl
  have hKc := hK.sub (tys' := [(cI, .int)]) [0] rfl
  have hFc := va_free (wc := [(k0, .inr (9, [.ref kN, .ref kA, .ref kO, .ref kK, .ref kV, .ref kG, .ref kP, .ref kC, .ref kD, .ref kE, .ref kF, .ref kX, .ref kY, .int 0, .ref kT, .ref kU, .int 0, .int 0, .int 0])), (kN, .inl (cI, 2, .inl (fun _ => 0)))]) hD hS hA [0, 1] rfl
  refine va_calli (va_runV (As := [.int p0, .int p1]) (rest := []) ⟨hx, hb, hml, hown, hts⟩ (kX6_isNetAsked l dC dI k0 kN kA kO kK kV kG kP kC kD kE kF kX kY kT kU cI p0 p1 s.heap.size) (cwV 2 hts gX6_pinsOn_X6_isNetAsked rfl rfl rfl (by decide +kernel) ⟨Nat.le_of_ble_eq_true rfl, Nat.le_of_ble_eq_true rfl⟩) (fPreV hN hZ hS (fun q h => hFc q h) hPc hKc hDc (ci := 9) (q0 := 0) rfl rfl) rfl rfl hl.1 rfl (lv_room (Nat.le_of_ble_eq_true rfl)) dX6_pinsOn_3 ⟨Nat.le_of_ble_eq_true rfl, Nat.le_of_ble_eq_true rfl⟩) hS (fun q _ h => hFc q h) hFc (fun r u t H1 locs ht hvm hw hB hz1 hk1 hS => ?_)
  obtain ⟨hP1, hK1, hD1⟩ := hB
  rw [ht] at hP1
  have hK1 := va_K.moved hvm.symm hK1
  obtain ⟨hP, hD⟩ := va_join (wr := [(kA, .inl (cI, 2, .inl (fun _ => 0)))]) (w1 := [(k0, .inr (9, [.ref kN, .ref kA, .ref kO, .ref kK, .ref kV, .ref kG, .ref kP, .ref kC, .ref kD, .ref kE, .ref kF, .ref kX, .ref kY, .int 0, .ref kT, .ref kU, .int u, .int 0, .int 0]))]) hP hD [0, 1] [2] rfl rfl (by decide) (by decide) hk1 hFc hP1 hD1
  generalize H1 = H at hP hS ⊢
  have hP : va_P (dC, dI) vwCl [(kA, .inl (cI, 2, .inl (fun _ => 0))), (k0, .inr (9, [.ref kN, .ref kA, .ref kO, .ref kK, .ref kV, .ref kG, .ref kP, .ref kC, .ref kD, .ref kE, .ref kF, .ref kX, .ref kY, .int 0, .ref kT, .ref kU, .int u, .int 0, .int 0]))] _ := hP
  have hD : va_D A [(kA, .inl (cI, 2, .inl (fun _ => 0))), (k0, .inr (9, [.ref kN, .ref kA, .ref kO, .ref kK, .ref kV, .ref kG, .ref kP, .ref kC, .ref kD, .ref kE, .ref kF, .ref kX, .ref kY, .int 0, .ref kT, .ref kU, .int u, .int 0, .int 0]))] := hD
  rcases hw with ⟨rfl, ⟨rfl, hq⟩ | ⟨rfl, hq⟩⟩
  · skip
    have hq1 := hq
    have hP : va_P (dC, dI) vwCl [(kA, .inl (cI, 2, .inl (fun _ => 0))), (k0, .inr (9, [.ref kN, .ref kA, .ref kO, .ref kK, .ref kV, .ref kG, .ref kP, .ref kC, .ref kD, .ref kE, .ref kF, .ref kX, .ref kY, .int 0, .ref kT, .ref kU, .int 1, .int 0, .int 0]))] _ := hP
    have hD : va_D A [(kA, .inl (cI, 2, .inl (fun _ => 0))), (k0, .inr (9, [.ref kN, .ref kA, .ref kO, .ref kK, .ref kV, .ref kG, .ref kP, .ref kC, .ref kD, .ref kE, .ref kF, .ref kX, .ref kY, .int 0, .ref kT, .ref kU, .int 1, .int 0, .int 0]))] := hD
    refine lv_if_eq (tgt := 18) hx hb dX6_pinsOn_6 (by decide) (fun _ => ?_) (fun h9 => absurd (by decide) h9)
    refine lv_iconst (v := (-1)) hx hb dX6_pinsOn_18 (by decide) ?_
    exact ret _ 1 _ _ _ _ _ _ (Or.inl (⟨rfl, hq1⟩)) (hP.sub [1] rfl) (hK.sub [] rfl) (hD.sub [1] (by decide) rfl) hS (Nat.le_of_ble_eq_true rfl) (Nat.le_of_ble_eq_true rfl) dX6_pinsOn_19
  · skip
    have hq2 := hq
    have hP : va_P (dC, dI) vwCl [(kA, .inl (cI, 2, .inl (fun _ => 0))), (k0, .inr (9, [.ref kN, .ref kA, .ref kO, .ref kK, .ref kV, .ref kG, .ref kP, .ref kC, .ref kD, .ref kE, .ref kF, .ref kX, .ref kY, .int 0, .ref kT, .ref kU, .int 2, .int 0, .int 0]))] _ := hP
    have hD : va_D A [(kA, .inl (cI, 2, .inl (fun _ => 0))), (k0, .inr (9, [.ref kN, .ref kA, .ref kO, .ref kK, .ref kV, .ref kG, .ref kP, .ref kC, .ref kD, .ref kE, .ref kF, .ref kX, .ref kY, .int 0, .ref kT, .ref kU, .int 2, .int 0, .int 0]))] := hD
    refine lv_if_eq (tgt := 18) hx hb dX6_pinsOn_6 (by decide) (fun _ => ?_) (fun h9 => absurd (by decide) h9)
    refine lv_iconst (v := (-1)) hx hb dX6_pinsOn_18 (by decide) ?_
    exact ret _ 2 _ _ _ _ _ _ (Or.inr (⟨rfl, (fun h9 => h9 (hq2))⟩)) (hP.sub [1] rfl) (hK.sub [] rfl) (hD.sub [1] (by decide) rfl) hS (Nat.le_of_ble_eq_true rfl) (Nat.le_of_ble_eq_true rfl) dX6_pinsOn_19

set_option maxHeartbeats 4000000 in
set_option maxRecDepth 100000 in
/-- the model: distance on a fresh one -/
theorem kX6_distance (l : Launch) (dC : Nat → ClassId) (dI : Nat → Nat → Nat) (k0 kN kA kO kK kV kG kP kC kD kE kF kX kY kT kU : Nat) (cI : ClassId) (p0 p1 : Int32) (sz : Nat) : fMi l yX6_distance wsX6_distance ({ frames := 3, cells := 0, slots := 0, locals := 69 } : Room) dC dI [.ref k0, .int p0, .int p1] [(k0, .inr (9, [.ref kN, .ref kA, .ref kO, .ref kK, .ref kV, .ref kG, .ref kP, .ref kC, .ref kD, .ref kE, .ref kF, .ref kX, .ref kY, .int 0, .ref kT, .ref kU, .int 0, .int 0, .int 0])), (kN, .inl (cI, 2, .inl (fun _ => 0))), (kA, .inl (cI, 2, .inl (fun _ => 0)))] [(cI, .int)] sz (fun (r : Int32) (u : Int32) => u = 1 ∧ (¬ ((p0 = 0) ∨ (p0 = 1))) ∨ u = 2 ∧ (¬ (¬ ((p0 = 0) ∨ (p0 = 1))))) (fun u => [(k0, .inr (9, [.ref kN, .ref kA, .ref kO, .ref kK, .ref kV, .ref kG, .ref kP, .ref kC, .ref kD, .ref kE, .ref kF, .ref kX, .ref kY, .int 0, .ref kT, .ref kU, .int u, .int 0, .int 0]))]) (fun u => []) := by
  refine oP_i (y := yX6_distance) (cc := cX6_distance) (maxL := 3) (by decide) rfl (Nat.le_of_ble_eq_true rfl) ?_
  intro p e s m args below meth c ls A Q hx hb hr hml hown hts hN hZ hA hin hlk hP hK hD hl ret
  have hS : va_S A s.heap s.heap [] := va_S.rf
  have hl : lv_has ls 3 [(0, .ref k0), (1, .int p0), (2, .int p1)] := hl
  have hP : va_P (dC, dI) vwCl [(k0, .inr (9, [.ref kN, .ref kA, .ref kO, .ref kK, .ref kV, .ref kG, .ref kP, .ref kC, .ref kD, .ref kE, .ref kF, .ref kX, .ref kY, .int 0, .ref kT, .ref kU, .int 0, .int 0, .int 0])), (kN, .inl (cI, 2, .inl (fun _ => 0))), (kA, .inl (cI, 2, .inl (fun _ => 0)))] _ := hP
  have hD : va_D A [(k0, .inr (9, [.ref kN, .ref kA, .ref kO, .ref kK, .ref kV, .ref kG, .ref kP, .ref kC, .ref kD, .ref kE, .ref kF, .ref kX, .ref kY, .int 0, .ref kT, .ref kU, .int 0, .int 0, .int 0])), (kN, .inl (cI, 2, .inl (fun _ => 0))), (kA, .inl (cI, 2, .inl (fun _ => 0)))] := hD
  refine lv_aload_n hx hb dX6_distance_0 rfl (lv_at hl 0 rfl) ?_
  refine lv_iload_n hx hb dX6_distance_1 rfl (lv_at hl 1 rfl) ?_
  refine lv_iload_n hx hb dX6_distance_2 rfl (lv_at hl 2 rfl) ?_
  have hPc := hP.sub (ws' := [(k0, .inr (9, [.ref kN, .ref kA, .ref kO, .ref kK, .ref kV, .ref kG, .ref kP, .ref kC, .ref kD, .ref kE, .ref kF, .ref kX, .ref kY, .int 0, .ref kT, .ref kU, .int 0, .int 0, .int 0])), (kN, .inl (cI, 2, .inl (fun _ => 0)))]) [0, 1] rfl
  have hDc := hD.sub (ws' := [(k0, .inr (9, [.ref kN, .ref kA, .ref kO, .ref kK, .ref kV, .ref kG, .ref kP, .ref kC, .ref kD, .ref kE, .ref kF, .ref kX, .ref kY, .int 0, .ref kT, .ref kU, .int 0, .int 0, .int 0])), (kN, .inl (cI, 2, .inl (fun _ => 0)))]) [0, 1] (by decide) rfl
  have hKc := hK.sub (tys' := [(cI, .int)]) [0] rfl
  have hFc := va_free (wc := [(k0, .inr (9, [.ref kN, .ref kA, .ref kO, .ref kK, .ref kV, .ref kG, .ref kP, .ref kC, .ref kD, .ref kE, .ref kF, .ref kX, .ref kY, .int 0, .ref kT, .ref kU, .int 0, .int 0, .int 0])), (kN, .inl (cI, 2, .inl (fun _ => 0)))]) hD hS hA [0, 1] rfl
  refine va_calli (va_runV (As := [.int p0, .int p1]) (rest := []) ⟨hx, hb, hml, hown, hts⟩ (kX6_isNetAsked l dC dI k0 kN kA kO kK kV kG kP kC kD kE kF kX kY kT kU cI p0 p1 s.heap.size) (cwV 2 hts gX6_distance_X6_isNetAsked rfl rfl rfl (by decide +kernel) ⟨Nat.le_of_ble_eq_true rfl, Nat.le_of_ble_eq_true rfl⟩) (fPreV hN hZ hS (fun q h => hFc q h) hPc hKc hDc (ci := 9) (q0 := 0) rfl rfl) rfl rfl hl.1 rfl (lv_room (Nat.le_of_ble_eq_true rfl)) dX6_distance_3 ⟨Nat.le_of_ble_eq_true rfl, Nat.le_of_ble_eq_true rfl⟩) hS (fun q _ h => hFc q h) hFc (fun r u t H1 locs ht hvm hw hB hz1 hk1 hS => ?_)
  obtain ⟨hP1, hK1, hD1⟩ := hB
  rw [ht] at hP1
  have hK1 := va_K.moved hvm.symm hK1
  obtain ⟨hP, hD⟩ := va_join (wr := [(kA, .inl (cI, 2, .inl (fun _ => 0)))]) (w1 := [(k0, .inr (9, [.ref kN, .ref kA, .ref kO, .ref kK, .ref kV, .ref kG, .ref kP, .ref kC, .ref kD, .ref kE, .ref kF, .ref kX, .ref kY, .int 0, .ref kT, .ref kU, .int u, .int 0, .int 0]))]) hP hD [0, 1] [2] rfl rfl (by decide) (by decide) hk1 hFc hP1 hD1
  generalize H1 = H at hP hS ⊢
  have hP : va_P (dC, dI) vwCl [(kA, .inl (cI, 2, .inl (fun _ => 0))), (k0, .inr (9, [.ref kN, .ref kA, .ref kO, .ref kK, .ref kV, .ref kG, .ref kP, .ref kC, .ref kD, .ref kE, .ref kF, .ref kX, .ref kY, .int 0, .ref kT, .ref kU, .int u, .int 0, .int 0]))] _ := hP
  have hD : va_D A [(kA, .inl (cI, 2, .inl (fun _ => 0))), (k0, .inr (9, [.ref kN, .ref kA, .ref kO, .ref kK, .ref kV, .ref kG, .ref kP, .ref kC, .ref kD, .ref kE, .ref kF, .ref kX, .ref kY, .int 0, .ref kT, .ref kU, .int u, .int 0, .int 0]))] := hD
  rcases hw with ⟨rfl, ⟨rfl, hq⟩ | ⟨rfl, hq⟩⟩
  · skip
    have hq1 := hq
    have hP : va_P (dC, dI) vwCl [(kA, .inl (cI, 2, .inl (fun _ => 0))), (k0, .inr (9, [.ref kN, .ref kA, .ref kO, .ref kK, .ref kV, .ref kG, .ref kP, .ref kC, .ref kD, .ref kE, .ref kF, .ref kX, .ref kY, .int 0, .ref kT, .ref kU, .int 1, .int 0, .int 0]))] _ := hP
    have hD : va_D A [(kA, .inl (cI, 2, .inl (fun _ => 0))), (k0, .inr (9, [.ref kN, .ref kA, .ref kO, .ref kK, .ref kV, .ref kG, .ref kP, .ref kC, .ref kD, .ref kE, .ref kF, .ref kX, .ref kY, .int 0, .ref kT, .ref kU, .int 1, .int 0, .int 0]))] := hD
    refine lv_if_eq (tgt := 18) hx hb dX6_distance_6 (by decide) (fun _ => ?_) (fun h9 => absurd (by decide) h9)
    refine lv_iconst (v := (-1)) hx hb dX6_distance_18 (by decide) ?_
    exact ret _ 1 _ _ _ _ _ _ (Or.inl (⟨rfl, hq1⟩)) (hP.sub [1] rfl) (hK.sub [] rfl) (hD.sub [1] (by decide) rfl) hS (Nat.le_of_ble_eq_true rfl) (Nat.le_of_ble_eq_true rfl) dX6_distance_19
  · skip
    have hq2 := hq
    have hP : va_P (dC, dI) vwCl [(kA, .inl (cI, 2, .inl (fun _ => 0))), (k0, .inr (9, [.ref kN, .ref kA, .ref kO, .ref kK, .ref kV, .ref kG, .ref kP, .ref kC, .ref kD, .ref kE, .ref kF, .ref kX, .ref kY, .int 0, .ref kT, .ref kU, .int 2, .int 0, .int 0]))] _ := hP
    have hD : va_D A [(kA, .inl (cI, 2, .inl (fun _ => 0))), (k0, .inr (9, [.ref kN, .ref kA, .ref kO, .ref kK, .ref kV, .ref kG, .ref kP, .ref kC, .ref kD, .ref kE, .ref kF, .ref kX, .ref kY, .int 0, .ref kT, .ref kU, .int 2, .int 0, .int 0]))] := hD
    refine lv_if_eq (tgt := 18) hx hb dX6_distance_6 (by decide) (fun _ => ?_) (fun h9 => absurd (by decide) h9)
    refine lv_iconst (v := (-1)) hx hb dX6_distance_18 (by decide) ?_
    exact ret _ 2 _ _ _ _ _ _ (Or.inr (⟨rfl, (fun h9 => h9 (hq2))⟩)) (hP.sub [1] rfl) (hK.sub [] rfl) (hD.sub [1] (by decide) rfl) hS (Nat.le_of_ble_eq_true rfl) (Nat.le_of_ble_eq_true rfl) dX6_distance_19

set_option maxHeartbeats 4000000 in
set_option maxRecDepth 100000 in
/-- the model: labelLength on a fresh one -/
theorem kX6_labelLength (l : Launch) (dC : Nat → ClassId) (dI : Nat → Nat → Nat) (k0 kN kA kO kK kV kG kP kC kD kE kF kX kY kT kU : Nat) (cI : ClassId) (p0 p1 : Int32) (sz : Nat) : fMi l yX6_labelLength wsX6_labelLength ({ frames := 3, cells := 0, slots := 0, locals := 69 } : Room) dC dI [.ref k0, .int p0, .int p1] [(k0, .inr (9, [.ref kN, .ref kA, .ref kO, .ref kK, .ref kV, .ref kG, .ref kP, .ref kC, .ref kD, .ref kE, .ref kF, .ref kX, .ref kY, .int 0, .ref kT, .ref kU, .int 0, .int 0, .int 0])), (kN, .inl (cI, 2, .inl (fun _ => 0))), (kA, .inl (cI, 2, .inl (fun _ => 0)))] [(cI, .int)] sz (fun (r : Int32) (u : Int32) => u = 1 ∧ (¬ ((p0 = 0) ∨ (p0 = 1))) ∨ u = 2 ∧ (¬ (¬ ((p0 = 0) ∨ (p0 = 1))))) (fun u => [(k0, .inr (9, [.ref kN, .ref kA, .ref kO, .ref kK, .ref kV, .ref kG, .ref kP, .ref kC, .ref kD, .ref kE, .ref kF, .ref kX, .ref kY, .int 0, .ref kT, .ref kU, .int u, .int 0, .int 0]))]) (fun u => []) := by
  refine oP_i (y := yX6_labelLength) (cc := cX6_labelLength) (maxL := 3) (by decide) rfl (Nat.le_of_ble_eq_true rfl) ?_
  intro p e s m args below meth c ls A Q hx hb hr hml hown hts hN hZ hA hin hlk hP hK hD hl ret
  have hS : va_S A s.heap s.heap [] := va_S.rf
  have hl : lv_has ls 3 [(0, .ref k0), (1, .int p0), (2, .int p1)] := hl
  have hP : va_P (dC, dI) vwCl [(k0, .inr (9, [.ref kN, .ref kA, .ref kO, .ref kK, .ref kV, .ref kG, .ref kP, .ref kC, .ref kD, .ref kE, .ref kF, .ref kX, .ref kY, .int 0, .ref kT, .ref kU, .int 0, .int 0, .int 0])), (kN, .inl (cI, 2, .inl (fun _ => 0))), (kA, .inl (cI, 2, .inl (fun _ => 0)))] _ := hP
  have hD : va_D A [(k0, .inr (9, [.ref kN, .ref kA, .ref kO, .ref kK, .ref kV, .ref kG, .ref kP, .ref kC, .ref kD, .ref kE, .ref kF, .ref kX, .ref kY, .int 0, .ref kT, .ref kU, .int 0, .int 0, .int 0])), (kN, .inl (cI, 2, .inl (fun _ => 0))), (kA, .inl (cI, 2, .inl (fun _ => 0)))] := hD
  refine lv_aload_n hx hb dX6_labelLength_0 rfl (lv_at hl 0 rfl) ?_
  refine lv_iload_n hx hb dX6_labelLength_1 rfl (lv_at hl 1 rfl) ?_
  refine lv_iload_n hx hb dX6_labelLength_2 rfl (lv_at hl 2 rfl) ?_
  have hPc := hP.sub (ws' := [(k0, .inr (9, [.ref kN, .ref kA, .ref kO, .ref kK, .ref kV, .ref kG, .ref kP, .ref kC, .ref kD, .ref kE, .ref kF, .ref kX, .ref kY, .int 0, .ref kT, .ref kU, .int 0, .int 0, .int 0])), (kA, .inl (cI, 2, .inl (fun _ => 0)))]) [0, 2] rfl
  have hDc := hD.sub (ws' := [(k0, .inr (9, [.ref kN, .ref kA, .ref kO, .ref kK, .ref kV, .ref kG, .ref kP, .ref kC, .ref kD, .ref kE, .ref kF, .ref kX, .ref kY, .int 0, .ref kT, .ref kU, .int 0, .int 0, .int 0])), (kA, .inl (cI, 2, .inl (fun _ => 0)))]) [0, 2] (by decide) rfl
  have hKc := hK.sub (tys' := [(cI, .int)]) [0] rfl
  have hFc := va_free (wc := [(k0, .inr (9, [.ref kN, .ref kA, .ref kO, .ref kK, .ref kV, .ref kG, .ref kP, .ref kC, .ref kD, .ref kE, .ref kF, .ref kX, .ref kY, .int 0, .ref kT, .ref kU, .int 0, .int 0, .int 0])), (kA, .inl (cI, 2, .inl (fun _ => 0)))]) hD hS hA [0, 2] rfl
  refine va_calli (va_runV (As := [.int p0, .int p1]) (rest := []) ⟨hx, hb, hml, hown, hts⟩ (kX6_isAsked l dC dI k0 kN kA kO kK kV kG kP kC kD kE kF kX kY kT kU cI p0 p1 s.heap.size) (cwV 2 hts gX6_labelLength_X6_isAsked rfl rfl rfl (by decide +kernel) ⟨Nat.le_of_ble_eq_true rfl, Nat.le_of_ble_eq_true rfl⟩) (fPreV hN hZ hS (fun q h => hFc q h) hPc hKc hDc (ci := 9) (q0 := 0) rfl rfl) rfl rfl hl.1 rfl (lv_room (Nat.le_of_ble_eq_true rfl)) dX6_labelLength_3 ⟨Nat.le_of_ble_eq_true rfl, Nat.le_of_ble_eq_true rfl⟩) hS (fun q _ h => hFc q h) hFc (fun r u t H1 locs ht hvm hw hB hz1 hk1 hS => ?_)
  obtain ⟨hP1, hK1, hD1⟩ := hB
  rw [ht] at hP1
  have hK1 := va_K.moved hvm.symm hK1
  obtain ⟨hP, hD⟩ := va_join (wr := [(kN, .inl (cI, 2, .inl (fun _ => 0)))]) (w1 := [(k0, .inr (9, [.ref kN, .ref kA, .ref kO, .ref kK, .ref kV, .ref kG, .ref kP, .ref kC, .ref kD, .ref kE, .ref kF, .ref kX, .ref kY, .int 0, .ref kT, .ref kU, .int u, .int 0, .int 0]))]) hP hD [0, 2] [1] rfl rfl (by decide) (by decide) hk1 hFc hP1 hD1
  generalize H1 = H at hP hS ⊢
  have hP : va_P (dC, dI) vwCl [(kN, .inl (cI, 2, .inl (fun _ => 0))), (k0, .inr (9, [.ref kN, .ref kA, .ref kO, .ref kK, .ref kV, .ref kG, .ref kP, .ref kC, .ref kD, .ref kE, .ref kF, .ref kX, .ref kY, .int 0, .ref kT, .ref kU, .int u, .int 0, .int 0]))] _ := hP
  have hD : va_D A [(kN, .inl (cI, 2, .inl (fun _ => 0))), (k0, .inr (9, [.ref kN, .ref kA, .ref kO, .ref kK, .ref kV, .ref kG, .ref kP, .ref kC, .ref kD, .ref kE, .ref kF, .ref kX, .ref kY, .int 0, .ref kT, .ref kU, .int u, .int 0, .int 0]))] := hD
  rcases hw with ⟨rfl, ⟨rfl, hq⟩ | ⟨rfl, hq⟩⟩
  · skip
    have hq1 := hq
    have hP : va_P (dC, dI) vwCl [(kN, .inl (cI, 2, .inl (fun _ => 0))), (k0, .inr (9, [.ref kN, .ref kA, .ref kO, .ref kK, .ref kV, .ref kG, .ref kP, .ref kC, .ref kD, .ref kE, .ref kF, .ref kX, .ref kY, .int 0, .ref kT, .ref kU, .int 1, .int 0, .int 0]))] _ := hP
    have hD : va_D A [(kN, .inl (cI, 2, .inl (fun _ => 0))), (k0, .inr (9, [.ref kN, .ref kA, .ref kO, .ref kK, .ref kV, .ref kG, .ref kP, .ref kC, .ref kD, .ref kE, .ref kF, .ref kX, .ref kY, .int 0, .ref kT, .ref kU, .int 1, .int 0, .int 0]))] := hD
    refine lv_if_eq (tgt := 21) hx hb dX6_labelLength_6 (by decide) (fun _ => ?_) (fun h9 => absurd (by decide) h9)
    refine lv_iconst (v := (-1)) hx hb dX6_labelLength_21 (by decide) ?_
    exact ret _ 1 _ _ _ _ _ _ (Or.inl (⟨rfl, hq1⟩)) (hP.sub [1] rfl) (hK.sub [] rfl) (hD.sub [1] (by decide) rfl) hS (Nat.le_of_ble_eq_true rfl) (Nat.le_of_ble_eq_true rfl) dX6_labelLength_22
  · skip
    have hq2 := hq
    have hP : va_P (dC, dI) vwCl [(kN, .inl (cI, 2, .inl (fun _ => 0))), (k0, .inr (9, [.ref kN, .ref kA, .ref kO, .ref kK, .ref kV, .ref kG, .ref kP, .ref kC, .ref kD, .ref kE, .ref kF, .ref kX, .ref kY, .int 0, .ref kT, .ref kU, .int 2, .int 0, .int 0]))] _ := hP
    have hD : va_D A [(kN, .inl (cI, 2, .inl (fun _ => 0))), (k0, .inr (9, [.ref kN, .ref kA, .ref kO, .ref kK, .ref kV, .ref kG, .ref kP, .ref kC, .ref kD, .ref kE, .ref kF, .ref kX, .ref kY, .int 0, .ref kT, .ref kU, .int 2, .int 0, .int 0]))] := hD
    refine lv_if_eq (tgt := 21) hx hb dX6_labelLength_6 (by decide) (fun _ => ?_) (fun h9 => absurd (by decide) h9)
    refine lv_iconst (v := (-1)) hx hb dX6_labelLength_21 (by decide) ?_
    exact ret _ 2 _ _ _ _ _ _ (Or.inr (⟨rfl, (fun h9 => h9 (hq2))⟩)) (hP.sub [1] rfl) (hK.sub [] rfl) (hD.sub [1] (by decide) rfl) hS (Nat.le_of_ble_eq_true rfl) (Nat.le_of_ble_eq_true rfl) dX6_labelLength_22

set_option maxHeartbeats 4000000 in
set_option maxRecDepth 100000 in
/-- the model: canJoin on a fresh one -/
theorem kX6_canJoin (l : Launch) (dC : Nat → ClassId) (dI : Nat → Nat → Nat) (k0 kN kA kO kK kV kG kP kC kD kE kF kX kY kT kU : Nat) (cI : ClassId) (p0 p1 p2 : Int32) (sz : Nat) : fMi l yX6_canJoin wsX6_canJoin ({ frames := 3, cells := 0, slots := 0, locals := 70 } : Room) dC dI [.ref k0, .int p0, .int p1, .int p2] [(k0, .inr (9, [.ref kN, .ref kA, .ref kO, .ref kK, .ref kV, .ref kG, .ref kP, .ref kC, .ref kD, .ref kE, .ref kF, .ref kX, .ref kY, .int 0, .ref kT, .ref kU, .int 0, .int 0, .int 0])), (kN, .inl (cI, 2, .inl (fun _ => 0))), (kA, .inl (cI, 2, .inl (fun _ => 0)))] [(cI, .int)] sz (fun (r : Int32) (u : Int32) => u = 1 ∧ (¬ ((p0 = 0) ∨ (p0 = 1))) ∨ u = 2 ∧ (¬ (¬ ((p0 = 0) ∨ (p0 = 1))))) (fun u => [(k0, .inr (9, [.ref kN, .ref kA, .ref kO, .ref kK, .ref kV, .ref kG, .ref kP, .ref kC, .ref kD, .ref kE, .ref kF, .ref kX, .ref kY, .int 0, .ref kT, .ref kU, .int u, .int 0, .int 0]))]) (fun u => []) := by
  refine oP_z (y := yX6_canJoin) (cc := cX6_canJoin) (maxL := 4) (by decide) rfl (Nat.le_of_ble_eq_true rfl) ?_
  intro p e s m args below meth c ls A Q hx hb hr hml hown hts hN hZ hA hin hlk hP hK hD hl ret
  have hS : va_S A s.heap s.heap [] := va_S.rf
  have hl : lv_has ls 4 [(0, .ref k0), (1, .int p0), (2, .int p1), (3, .int p2)] := hl
  have hP : va_P (dC, dI) vwCl [(k0, .inr (9, [.ref kN, .ref kA, .ref kO, .ref kK, .ref kV, .ref kG, .ref kP, .ref kC, .ref kD, .ref kE, .ref kF, .ref kX, .ref kY, .int 0, .ref kT, .ref kU, .int 0, .int 0, .int 0])), (kN, .inl (cI, 2, .inl (fun _ => 0))), (kA, .inl (cI, 2, .inl (fun _ => 0)))] _ := hP
  have hD : va_D A [(k0, .inr (9, [.ref kN, .ref kA, .ref kO, .ref kK, .ref kV, .ref kG, .ref kP, .ref kC, .ref kD, .ref kE, .ref kF, .ref kX, .ref kY, .int 0, .ref kT, .ref kU, .int 0, .int 0, .int 0])), (kN, .inl (cI, 2, .inl (fun _ => 0))), (kA, .inl (cI, 2, .inl (fun _ => 0)))] := hD
  refine lv_aload_n hx hb dX6_canJoin_0 rfl (lv_at hl 0 rfl) ?_
  refine lv_iload_n hx hb dX6_canJoin_1 rfl (lv_at hl 1 rfl) ?_
  refine lv_iload_n hx hb dX6_canJoin_2 rfl (lv_at hl 2 rfl) ?_
  refine lv_iload_n hx hb dX6_canJoin_3 rfl (lv_at hl 3 rfl) ?_
  have hPc := hP.sub (ws' := [(k0, .inr (9, [.ref kN, .ref kA, .ref kO, .ref kK, .ref kV, .ref kG, .ref kP, .ref kC, .ref kD, .ref kE, .ref kF, .ref kX, .ref kY, .int 0, .ref kT, .ref kU, .int 0, .int 0, .int 0])), (kA, .inl (cI, 2, .inl (fun _ => 0)))]) [0, 2] rfl
  have hDc := hD.sub (ws' := [(k0, .inr (9, [.ref kN, .ref kA, .ref kO, .ref kK, .ref kV, .ref kG, .ref kP, .ref kC, .ref kD, .ref kE, .ref kF, .ref kX, .ref kY, .int 0, .ref kT, .ref kU, .int 0, .int 0, .int 0])), (kA, .inl (cI, 2, .inl (fun _ => 0)))]) [0, 2] (by decide) rfl
  have hKc := hK.sub (tys' := [(cI, .int)]) [0] rfl
  have hFc := va_free (wc := [(k0, .inr (9, [.ref kN, .ref kA, .ref kO, .ref kK, .ref kV, .ref kG, .ref kP, .ref kC, .ref kD, .ref kE, .ref kF, .ref kX, .ref kY, .int 0, .ref kT, .ref kU, .int 0, .int 0, .int 0])), (kA, .inl (cI, 2, .inl (fun _ => 0)))]) hD hS hA [0, 2] rfl
  refine va_calli (va_runV (As := [.int p0, .int p1, .int p2]) (rest := []) ⟨hx, hb, hml, hown, hts⟩ (kX6_areAsked l dC dI k0 kN kA kO kK kV kG kP kC kD kE kF kX kY kT kU cI p0 p1 p2 s.heap.size) (cwV 3 hts gX6_canJoin_X6_areAsked rfl rfl rfl (by decide +kernel) ⟨Nat.le_of_ble_eq_true rfl, Nat.le_of_ble_eq_true rfl⟩) (fPreV hN hZ hS (fun q h => hFc q h) hPc hKc hDc (ci := 9) (q0 := 0) rfl rfl) rfl rfl hl.1 rfl (lv_room (Nat.le_of_ble_eq_true rfl)) dX6_canJoin_4 ⟨Nat.le_of_ble_eq_true rfl, Nat.le_of_ble_eq_true rfl⟩) hS (fun q _ h => hFc q h) hFc (fun r u t H1 locs ht hvm hw hB hz1 hk1 hS => ?_)
  obtain ⟨hP1, hK1, hD1⟩ := hB
  rw [ht] at hP1
  have hK1 := va_K.moved hvm.symm hK1
  obtain ⟨hP, hD⟩ := va_join (wr := [(kN, .inl (cI, 2, .inl (fun _ => 0)))]) (w1 := [(k0, .inr (9, [.ref kN, .ref kA, .ref kO, .ref kK, .ref kV, .ref kG, .ref kP, .ref kC, .ref kD, .ref kE, .ref kF, .ref kX, .ref kY, .int 0, .ref kT, .ref kU, .int u, .int 0, .int 0]))]) hP hD [0, 2] [1] rfl rfl (by decide) (by decide) hk1 hFc hP1 hD1
  generalize H1 = H at hP hS ⊢
  have hP : va_P (dC, dI) vwCl [(kN, .inl (cI, 2, .inl (fun _ => 0))), (k0, .inr (9, [.ref kN, .ref kA, .ref kO, .ref kK, .ref kV, .ref kG, .ref kP, .ref kC, .ref kD, .ref kE, .ref kF, .ref kX, .ref kY, .int 0, .ref kT, .ref kU, .int u, .int 0, .int 0]))] _ := hP
  have hD : va_D A [(kN, .inl (cI, 2, .inl (fun _ => 0))), (k0, .inr (9, [.ref kN, .ref kA, .ref kO, .ref kK, .ref kV, .ref kG, .ref kP, .ref kC, .ref kD, .ref kE, .ref kF, .ref kX, .ref kY, .int 0, .ref kT, .ref kU, .int u, .int 0, .int 0]))] := hD
  rcases hw with ⟨rfl, ⟨rfl, hq⟩ | ⟨rfl, hq⟩⟩
  · skip
    have hq1 := hq
    have hP : va_P (dC, dI) vwCl [(kN, .inl (cI, 2, .inl (fun _ => 0))), (k0, .inr (9, [.ref kN, .ref kA, .ref kO, .ref kK, .ref kV, .ref kG, .ref kP, .ref kC, .ref kD, .ref kE, .ref kF, .ref kX, .ref kY, .int 0, .ref kT, .ref kU, .int 1, .int 0, .int 0]))] _ := hP
    have hD : va_D A [(kN, .inl (cI, 2, .inl (fun _ => 0))), (k0, .inr (9, [.ref kN, .ref kA, .ref kO, .ref kK, .ref kV, .ref kG, .ref kP, .ref kC, .ref kD, .ref kE, .ref kF, .ref kX, .ref kY, .int 0, .ref kT, .ref kU, .int 1, .int 0, .int 0]))] := hD
    refine lv_if_eq (tgt := 20) hx hb dX6_canJoin_7 (by decide) (fun _ => ?_) (fun h9 => absurd (by decide) h9)
    refine lv_bipush (v := 32) hx hb dX6_canJoin_20 (by decide) ?_
    exact ret _ 1 _ _ _ _ _ _ (by decide) (Or.inl (⟨rfl, hq1⟩)) (hP.sub [1] rfl) (hK.sub [] rfl) (hD.sub [1] (by decide) rfl) hS (Nat.le_of_ble_eq_true rfl) (Nat.le_of_ble_eq_true rfl) dX6_canJoin_22
  · skip
    have hq2 := hq
    have hP : va_P (dC, dI) vwCl [(kN, .inl (cI, 2, .inl (fun _ => 0))), (k0, .inr (9, [.ref kN, .ref kA, .ref kO, .ref kK, .ref kV, .ref kG, .ref kP, .ref kC, .ref kD, .ref kE, .ref kF, .ref kX, .ref kY, .int 0, .ref kT, .ref kU, .int 2, .int 0, .int 0]))] _ := hP
    have hD : va_D A [(kN, .inl (cI, 2, .inl (fun _ => 0))), (k0, .inr (9, [.ref kN, .ref kA, .ref kO, .ref kK, .ref kV, .ref kG, .ref kP, .ref kC, .ref kD, .ref kE, .ref kF, .ref kX, .ref kY, .int 0, .ref kT, .ref kU, .int 2, .int 0, .int 0]))] := hD
    refine lv_if_eq (tgt := 20) hx hb dX6_canJoin_7 (by decide) (fun _ => ?_) (fun h9 => absurd (by decide) h9)
    refine lv_bipush (v := 32) hx hb dX6_canJoin_20 (by decide) ?_
    exact ret _ 2 _ _ _ _ _ _ (by decide) (Or.inr (⟨rfl, (fun h9 => h9 (hq2))⟩)) (hP.sub [1] rfl) (hK.sub [] rfl) (hD.sub [1] (by decide) rfl) hS (Nat.le_of_ble_eq_true rfl) (Nat.le_of_ble_eq_true rfl) dX6_canJoin_22

set_option maxHeartbeats 4000000 in
set_option maxRecDepth 100000 in
/-- the model: kindOf on a fresh one -/
theorem kX6_kindOf (l : Launch) (dC : Nat → ClassId) (dI : Nat → Nat → Nat) (k0 kN kA kO kK kV kG kP kC kD kE kF kX kY kT kU : Nat) (cI : ClassId) (p0 p1 : Int32) (sz : Nat) : fMi l yX6_kindOf wsX6_kindOf ({ frames := 3, cells := 0, slots := 0, locals := 69 } : Room) dC dI [.ref k0, .int p0, .int p1] [(k0, .inr (9, [.ref kN, .ref kA, .ref kO, .ref kK, .ref kV, .ref kG, .ref kP, .ref kC, .ref kD, .ref kE, .ref kF, .ref kX, .ref kY, .int 0, .ref kT, .ref kU, .int 0, .int 0, .int 0])), (kN, .inl (cI, 2, .inl (fun _ => 0))), (kA, .inl (cI, 2, .inl (fun _ => 0)))] [(cI, .int)] sz (fun (r : Int32) (u : Int32) => u = 1 ∧ (¬ ((p0 = 0) ∨ (p0 = 1))) ∨ u = 2 ∧ (¬ (¬ ((p0 = 0) ∨ (p0 = 1))))) (fun u => [(k0, .inr (9, [.ref kN, .ref kA, .ref kO, .ref kK, .ref kV, .ref kG, .ref kP, .ref kC, .ref kD, .ref kE, .ref kF, .ref kX, .ref kY, .int 0, .ref kT, .ref kU, .int u, .int 0, .int 0]))]) (fun u => []) := by
  refine oP_z (y := yX6_kindOf) (cc := cX6_kindOf) (maxL := 3) (by decide) rfl (Nat.le_of_ble_eq_true rfl) ?_
  intro p e s m args below meth c ls A Q hx hb hr hml hown hts hN hZ hA hin hlk hP hK hD hl ret
  have hS : va_S A s.heap s.heap [] := va_S.rf
  have hl : lv_has ls 3 [(0, .ref k0), (1, .int p0), (2, .int p1)] := hl
  have hP : va_P (dC, dI) vwCl [(k0, .inr (9, [.ref kN, .ref kA, .ref kO, .ref kK, .ref kV, .ref kG, .ref kP, .ref kC, .ref kD, .ref kE, .ref kF, .ref kX, .ref kY, .int 0, .ref kT, .ref kU, .int 0, .int 0, .int 0])), (kN, .inl (cI, 2, .inl (fun _ => 0))), (kA, .inl (cI, 2, .inl (fun _ => 0)))] _ := hP
  have hD : va_D A [(k0, .inr (9, [.ref kN, .ref kA, .ref kO, .ref kK, .ref kV, .ref kG, .ref kP, .ref kC, .ref kD, .ref kE, .ref kF, .ref kX, .ref kY, .int 0, .ref kT, .ref kU, .int 0, .int 0, .int 0])), (kN, .inl (cI, 2, .inl (fun _ => 0))), (kA, .inl (cI, 2, .inl (fun _ => 0)))] := hD
  refine lv_aload_n hx hb dX6_kindOf_0 rfl (lv_at hl 0 rfl) ?_
  refine lv_iload_n hx hb dX6_kindOf_1 rfl (lv_at hl 1 rfl) ?_
  refine lv_iload_n hx hb dX6_kindOf_2 rfl (lv_at hl 2 rfl) ?_
  have hPc := hP.sub (ws' := [(k0, .inr (9, [.ref kN, .ref kA, .ref kO, .ref kK, .ref kV, .ref kG, .ref kP, .ref kC, .ref kD, .ref kE, .ref kF, .ref kX, .ref kY, .int 0, .ref kT, .ref kU, .int 0, .int 0, .int 0])), (kA, .inl (cI, 2, .inl (fun _ => 0)))]) [0, 2] rfl
  have hDc := hD.sub (ws' := [(k0, .inr (9, [.ref kN, .ref kA, .ref kO, .ref kK, .ref kV, .ref kG, .ref kP, .ref kC, .ref kD, .ref kE, .ref kF, .ref kX, .ref kY, .int 0, .ref kT, .ref kU, .int 0, .int 0, .int 0])), (kA, .inl (cI, 2, .inl (fun _ => 0)))]) [0, 2] (by decide) rfl
  have hKc := hK.sub (tys' := [(cI, .int)]) [0] rfl
  have hFc := va_free (wc := [(k0, .inr (9, [.ref kN, .ref kA, .ref kO, .ref kK, .ref kV, .ref kG, .ref kP, .ref kC, .ref kD, .ref kE, .ref kF, .ref kX, .ref kY, .int 0, .ref kT, .ref kU, .int 0, .int 0, .int 0])), (kA, .inl (cI, 2, .inl (fun _ => 0)))]) hD hS hA [0, 2] rfl
  refine va_calli (va_runV (As := [.int p0, .int p1]) (rest := []) ⟨hx, hb, hml, hown, hts⟩ (kX6_isAsked l dC dI k0 kN kA kO kK kV kG kP kC kD kE kF kX kY kT kU cI p0 p1 s.heap.size) (cwV 2 hts gX6_kindOf_X6_isAsked rfl rfl rfl (by decide +kernel) ⟨Nat.le_of_ble_eq_true rfl, Nat.le_of_ble_eq_true rfl⟩) (fPreV hN hZ hS (fun q h => hFc q h) hPc hKc hDc (ci := 9) (q0 := 0) rfl rfl) rfl rfl hl.1 rfl (lv_room (Nat.le_of_ble_eq_true rfl)) dX6_kindOf_3 ⟨Nat.le_of_ble_eq_true rfl, Nat.le_of_ble_eq_true rfl⟩) hS (fun q _ h => hFc q h) hFc (fun r u t H1 locs ht hvm hw hB hz1 hk1 hS => ?_)
  obtain ⟨hP1, hK1, hD1⟩ := hB
  rw [ht] at hP1
  have hK1 := va_K.moved hvm.symm hK1
  obtain ⟨hP, hD⟩ := va_join (wr := [(kN, .inl (cI, 2, .inl (fun _ => 0)))]) (w1 := [(k0, .inr (9, [.ref kN, .ref kA, .ref kO, .ref kK, .ref kV, .ref kG, .ref kP, .ref kC, .ref kD, .ref kE, .ref kF, .ref kX, .ref kY, .int 0, .ref kT, .ref kU, .int u, .int 0, .int 0]))]) hP hD [0, 2] [1] rfl rfl (by decide) (by decide) hk1 hFc hP1 hD1
  generalize H1 = H at hP hS ⊢
  have hP : va_P (dC, dI) vwCl [(kN, .inl (cI, 2, .inl (fun _ => 0))), (k0, .inr (9, [.ref kN, .ref kA, .ref kO, .ref kK, .ref kV, .ref kG, .ref kP, .ref kC, .ref kD, .ref kE, .ref kF, .ref kX, .ref kY, .int 0, .ref kT, .ref kU, .int u, .int 0, .int 0]))] _ := hP
  have hD : va_D A [(kN, .inl (cI, 2, .inl (fun _ => 0))), (k0, .inr (9, [.ref kN, .ref kA, .ref kO, .ref kK, .ref kV, .ref kG, .ref kP, .ref kC, .ref kD, .ref kE, .ref kF, .ref kX, .ref kY, .int 0, .ref kT, .ref kU, .int u, .int 0, .int 0]))] := hD
  rcases hw with ⟨rfl, ⟨rfl, hq⟩ | ⟨rfl, hq⟩⟩
  · skip
    have hq1 := hq
    have hP : va_P (dC, dI) vwCl [(kN, .inl (cI, 2, .inl (fun _ => 0))), (k0, .inr (9, [.ref kN, .ref kA, .ref kO, .ref kK, .ref kV, .ref kG, .ref kP, .ref kC, .ref kD, .ref kE, .ref kF, .ref kX, .ref kY, .int 0, .ref kT, .ref kU, .int 1, .int 0, .int 0]))] _ := hP
    have hD : va_D A [(kN, .inl (cI, 2, .inl (fun _ => 0))), (k0, .inr (9, [.ref kN, .ref kA, .ref kO, .ref kK, .ref kV, .ref kG, .ref kP, .ref kC, .ref kD, .ref kE, .ref kF, .ref kX, .ref kY, .int 0, .ref kT, .ref kU, .int 1, .int 0, .int 0]))] := hD
    refine lv_if_eq (tgt := 18) hx hb dX6_kindOf_6 (by decide) (fun _ => ?_) (fun h9 => absurd (by decide) h9)
    refine lv_bipush (v := 32) hx hb dX6_kindOf_18 (by decide) ?_
    exact ret _ 1 _ _ _ _ _ _ (by decide) (Or.inl (⟨rfl, hq1⟩)) (hP.sub [1] rfl) (hK.sub [] rfl) (hD.sub [1] (by decide) rfl) hS (Nat.le_of_ble_eq_true rfl) (Nat.le_of_ble_eq_true rfl) dX6_kindOf_20
  · skip
    have hq2 := hq
    have hP : va_P (dC, dI) vwCl [(kN, .inl (cI, 2, .inl (fun _ => 0))), (k0, .inr (9, [.ref kN, .ref kA, .ref kO, .ref kK, .ref kV, .ref kG, .ref kP, .ref kC, .ref kD, .ref kE, .ref kF, .ref kX, .ref kY, .int 0, .ref kT, .ref kU, .int 2, .int 0, .int 0]))] _ := hP
    have hD : va_D A [(kN, .inl (cI, 2, .inl (fun _ => 0))), (k0, .inr (9, [.ref kN, .ref kA, .ref kO, .ref kK, .ref kV, .ref kG, .ref kP, .ref kC, .ref kD, .ref kE, .ref kF, .ref kX, .ref kY, .int 0, .ref kT, .ref kU, .int 2, .int 0, .int 0]))] := hD
    refine lv_if_eq (tgt := 18) hx hb dX6_kindOf_6 (by decide) (fun _ => ?_) (fun h9 => absurd (by decide) h9)
    refine lv_bipush (v := 32) hx hb dX6_kindOf_18 (by decide) ?_
    exact ret _ 2 _ _ _ _ _ _ (by decide) (Or.inr (⟨rfl, (fun h9 => h9 (hq2))⟩)) (hP.sub [1] rfl) (hK.sub [] rfl) (hD.sub [1] (by decide) rfl) hS (Nat.le_of_ble_eq_true rfl) (Nat.le_of_ble_eq_true rfl) dX6_kindOf_20

set_option maxHeartbeats 4000000 in
set_option maxRecDepth 100000 in
/-- the model: portOf on a fresh one -/
theorem kX6_portOf (l : Launch) (dC : Nat → ClassId) (dI : Nat → Nat → Nat) (k0 kN kA kO kK kV kG kP kC kD kE kF kX kY kT kU : Nat) (cI : ClassId) (p0 p1 : Int32) (sz : Nat) : fMi l yX6_portOf wsX6_portOf ({ frames := 3, cells := 0, slots := 0, locals := 69 } : Room) dC dI [.ref k0, .int p0, .int p1] [(k0, .inr (9, [.ref kN, .ref kA, .ref kO, .ref kK, .ref kV, .ref kG, .ref kP, .ref kC, .ref kD, .ref kE, .ref kF, .ref kX, .ref kY, .int 0, .ref kT, .ref kU, .int 0, .int 0, .int 0])), (kN, .inl (cI, 2, .inl (fun _ => 0))), (kA, .inl (cI, 2, .inl (fun _ => 0)))] [(cI, .int)] sz (fun (r : Int32) (u : Int32) => u = 1 ∧ (¬ ((p0 = 0) ∨ (p0 = 1))) ∨ u = 2 ∧ (¬ (¬ ((p0 = 0) ∨ (p0 = 1))))) (fun u => [(k0, .inr (9, [.ref kN, .ref kA, .ref kO, .ref kK, .ref kV, .ref kG, .ref kP, .ref kC, .ref kD, .ref kE, .ref kF, .ref kX, .ref kY, .int 0, .ref kT, .ref kU, .int u, .int 0, .int 0]))]) (fun u => []) := by
  refine oP_z (y := yX6_portOf) (cc := cX6_portOf) (maxL := 3) (by decide) rfl (Nat.le_of_ble_eq_true rfl) ?_
  intro p e s m args below meth c ls A Q hx hb hr hml hown hts hN hZ hA hin hlk hP hK hD hl ret
  have hS : va_S A s.heap s.heap [] := va_S.rf
  have hl : lv_has ls 3 [(0, .ref k0), (1, .int p0), (2, .int p1)] := hl
  have hP : va_P (dC, dI) vwCl [(k0, .inr (9, [.ref kN, .ref kA, .ref kO, .ref kK, .ref kV, .ref kG, .ref kP, .ref kC, .ref kD, .ref kE, .ref kF, .ref kX, .ref kY, .int 0, .ref kT, .ref kU, .int 0, .int 0, .int 0])), (kN, .inl (cI, 2, .inl (fun _ => 0))), (kA, .inl (cI, 2, .inl (fun _ => 0)))] _ := hP
  have hD : va_D A [(k0, .inr (9, [.ref kN, .ref kA, .ref kO, .ref kK, .ref kV, .ref kG, .ref kP, .ref kC, .ref kD, .ref kE, .ref kF, .ref kX, .ref kY, .int 0, .ref kT, .ref kU, .int 0, .int 0, .int 0])), (kN, .inl (cI, 2, .inl (fun _ => 0))), (kA, .inl (cI, 2, .inl (fun _ => 0)))] := hD
  refine lv_aload_n hx hb dX6_portOf_0 rfl (lv_at hl 0 rfl) ?_
  refine lv_iload_n hx hb dX6_portOf_1 rfl (lv_at hl 1 rfl) ?_
  refine lv_iload_n hx hb dX6_portOf_2 rfl (lv_at hl 2 rfl) ?_
  have hPc := hP.sub (ws' := [(k0, .inr (9, [.ref kN, .ref kA, .ref kO, .ref kK, .ref kV, .ref kG, .ref kP, .ref kC, .ref kD, .ref kE, .ref kF, .ref kX, .ref kY, .int 0, .ref kT, .ref kU, .int 0, .int 0, .int 0])), (kN, .inl (cI, 2, .inl (fun _ => 0)))]) [0, 1] rfl
  have hDc := hD.sub (ws' := [(k0, .inr (9, [.ref kN, .ref kA, .ref kO, .ref kK, .ref kV, .ref kG, .ref kP, .ref kC, .ref kD, .ref kE, .ref kF, .ref kX, .ref kY, .int 0, .ref kT, .ref kU, .int 0, .int 0, .int 0])), (kN, .inl (cI, 2, .inl (fun _ => 0)))]) [0, 1] (by decide) rfl
  have hKc := hK.sub (tys' := [(cI, .int)]) [0] rfl
  have hFc := va_free (wc := [(k0, .inr (9, [.ref kN, .ref kA, .ref kO, .ref kK, .ref kV, .ref kG, .ref kP, .ref kC, .ref kD, .ref kE, .ref kF, .ref kX, .ref kY, .int 0, .ref kT, .ref kU, .int 0, .int 0, .int 0])), (kN, .inl (cI, 2, .inl (fun _ => 0)))]) hD hS hA [0, 1] rfl
  refine va_calli (va_runV (As := [.int p0, .int p1]) (rest := []) ⟨hx, hb, hml, hown, hts⟩ (kX6_isNetAsked l dC dI k0 kN kA kO kK kV kG kP kC kD kE kF kX kY kT kU cI p0 p1 s.heap.size) (cwV 2 hts gX6_portOf_X6_isNetAsked rfl rfl rfl (by decide +kernel) ⟨Nat.le_of_ble_eq_true rfl, Nat.le_of_ble_eq_true rfl⟩) (fPreV hN hZ hS (fun q h => hFc q h) hPc hKc hDc (ci := 9) (q0 := 0) rfl rfl) rfl rfl hl.1 rfl (lv_room (Nat.le_of_ble_eq_true rfl)) dX6_portOf_3 ⟨Nat.le_of_ble_eq_true rfl, Nat.le_of_ble_eq_true rfl⟩) hS (fun q _ h => hFc q h) hFc (fun r u t H1 locs ht hvm hw hB hz1 hk1 hS => ?_)
  obtain ⟨hP1, hK1, hD1⟩ := hB
  rw [ht] at hP1
  have hK1 := va_K.moved hvm.symm hK1
  obtain ⟨hP, hD⟩ := va_join (wr := [(kA, .inl (cI, 2, .inl (fun _ => 0)))]) (w1 := [(k0, .inr (9, [.ref kN, .ref kA, .ref kO, .ref kK, .ref kV, .ref kG, .ref kP, .ref kC, .ref kD, .ref kE, .ref kF, .ref kX, .ref kY, .int 0, .ref kT, .ref kU, .int u, .int 0, .int 0]))]) hP hD [0, 1] [2] rfl rfl (by decide) (by decide) hk1 hFc hP1 hD1
  generalize H1 = H at hP hS ⊢
  have hP : va_P (dC, dI) vwCl [(kA, .inl (cI, 2, .inl (fun _ => 0))), (k0, .inr (9, [.ref kN, .ref kA, .ref kO, .ref kK, .ref kV, .ref kG, .ref kP, .ref kC, .ref kD, .ref kE, .ref kF, .ref kX, .ref kY, .int 0, .ref kT, .ref kU, .int u, .int 0, .int 0]))] _ := hP
  have hD : va_D A [(kA, .inl (cI, 2, .inl (fun _ => 0))), (k0, .inr (9, [.ref kN, .ref kA, .ref kO, .ref kK, .ref kV, .ref kG, .ref kP, .ref kC, .ref kD, .ref kE, .ref kF, .ref kX, .ref kY, .int 0, .ref kT, .ref kU, .int u, .int 0, .int 0]))] := hD
  rcases hw with ⟨rfl, ⟨rfl, hq⟩ | ⟨rfl, hq⟩⟩
  · skip
    have hq1 := hq
    have hP : va_P (dC, dI) vwCl [(kA, .inl (cI, 2, .inl (fun _ => 0))), (k0, .inr (9, [.ref kN, .ref kA, .ref kO, .ref kK, .ref kV, .ref kG, .ref kP, .ref kC, .ref kD, .ref kE, .ref kF, .ref kX, .ref kY, .int 0, .ref kT, .ref kU, .int 1, .int 0, .int 0]))] _ := hP
    have hD : va_D A [(kA, .inl (cI, 2, .inl (fun _ => 0))), (k0, .inr (9, [.ref kN, .ref kA, .ref kO, .ref kK, .ref kV, .ref kG, .ref kP, .ref kC, .ref kD, .ref kE, .ref kF, .ref kX, .ref kY, .int 0, .ref kT, .ref kU, .int 1, .int 0, .int 0]))] := hD
    refine lv_if_eq (tgt := 23) hx hb dX6_portOf_6 (by decide) (fun _ => ?_) (fun h9 => absurd (by decide) h9)
    refine lv_bipush (v := 32) hx hb dX6_portOf_23 (by decide) ?_
    exact ret _ 1 _ _ _ _ _ _ (by decide) (Or.inl (⟨rfl, hq1⟩)) (hP.sub [1] rfl) (hK.sub [] rfl) (hD.sub [1] (by decide) rfl) hS (Nat.le_of_ble_eq_true rfl) (Nat.le_of_ble_eq_true rfl) dX6_portOf_25
  · skip
    have hq2 := hq
    have hP : va_P (dC, dI) vwCl [(kA, .inl (cI, 2, .inl (fun _ => 0))), (k0, .inr (9, [.ref kN, .ref kA, .ref kO, .ref kK, .ref kV, .ref kG, .ref kP, .ref kC, .ref kD, .ref kE, .ref kF, .ref kX, .ref kY, .int 0, .ref kT, .ref kU, .int 2, .int 0, .int 0]))] _ := hP
    have hD : va_D A [(kA, .inl (cI, 2, .inl (fun _ => 0))), (k0, .inr (9, [.ref kN, .ref kA, .ref kO, .ref kK, .ref kV, .ref kG, .ref kP, .ref kC, .ref kD, .ref kE, .ref kF, .ref kX, .ref kY, .int 0, .ref kT, .ref kU, .int 2, .int 0, .int 0]))] := hD
    refine lv_if_eq (tgt := 23) hx hb dX6_portOf_6 (by decide) (fun _ => ?_) (fun h9 => absurd (by decide) h9)
    refine lv_bipush (v := 32) hx hb dX6_portOf_23 (by decide) ?_
    exact ret _ 2 _ _ _ _ _ _ (by decide) (Or.inr (⟨rfl, (fun h9 => h9 (hq2))⟩)) (hP.sub [1] rfl) (hK.sub [] rfl) (hD.sub [1] (by decide) rfl) hS (Nat.le_of_ble_eq_true rfl) (Nat.le_of_ble_eq_true rfl) dX6_portOf_25

set_option maxHeartbeats 4000000 in
set_option maxRecDepth 100000 in
/-- the model: labelAt on a fresh one -/
theorem kX6_labelAt (l : Launch) (dC : Nat → ClassId) (dI : Nat → Nat → Nat) (k0 kN kA kO kK kV kG kP kC kD kE kF kX kY kT kU : Nat) (cI : ClassId) (p0 p1 p2 : Int32) (sz : Nat) : fMi l yX6_labelAt wsX6_labelAt ({ frames := 3, cells := 0, slots := 0, locals := 69 } : Room) dC dI [.ref k0, .int p0, .int p1, .int p2] [(k0, .inr (9, [.ref kN, .ref kA, .ref kO, .ref kK, .ref kV, .ref kG, .ref kP, .ref kC, .ref kD, .ref kE, .ref kF, .ref kX, .ref kY, .int 0, .ref kT, .ref kU, .int 0, .int 0, .int 0])), (kN, .inl (cI, 2, .inl (fun _ => 0))), (kA, .inl (cI, 2, .inl (fun _ => 0)))] [(cI, .int)] sz (fun (r : Int32) (u : Int32) => u = 1 ∧ (¬ ((p0 = 0) ∨ (p0 = 1))) ∨ u = 2 ∧ (¬ (¬ ((p0 = 0) ∨ (p0 = 1))))) (fun u => [(k0, .inr (9, [.ref kN, .ref kA, .ref kO, .ref kK, .ref kV, .ref kG, .ref kP, .ref kC, .ref kD, .ref kE, .ref kF, .ref kX, .ref kY, .int 0, .ref kT, .ref kU, .int u, .int 0, .int 0]))]) (fun u => []) := by
  refine oP_z (y := yX6_labelAt) (cc := cX6_labelAt) (maxL := 5) (by decide) rfl (Nat.le_of_ble_eq_true rfl) ?_
  intro p e s m args below meth c ls A Q hx hb hr hml hown hts hN hZ hA hin hlk hP hK hD hl ret
  have hS : va_S A s.heap s.heap [] := va_S.rf
  have hl : lv_has ls 5 [(0, .ref k0), (1, .int p0), (2, .int p1), (3, .int p2)] := hl
  have hP : va_P (dC, dI) vwCl [(k0, .inr (9, [.ref kN, .ref kA, .ref kO, .ref kK, .ref kV, .ref kG, .ref kP, .ref kC, .ref kD, .ref kE, .ref kF, .ref kX, .ref kY, .int 0, .ref kT, .ref kU, .int 0, .int 0, .int 0])), (kN, .inl (cI, 2, .inl (fun _ => 0))), (kA, .inl (cI, 2, .inl (fun _ => 0)))] _ := hP
  have hD : va_D A [(k0, .inr (9, [.ref kN, .ref kA, .ref kO, .ref kK, .ref kV, .ref kG, .ref kP, .ref kC, .ref kD, .ref kE, .ref kF, .ref kX, .ref kY, .int 0, .ref kT, .ref kU, .int 0, .int 0, .int 0])), (kN, .inl (cI, 2, .inl (fun _ => 0))), (kA, .inl (cI, 2, .inl (fun _ => 0)))] := hD
  refine lv_aload_n hx hb dX6_labelAt_0 rfl (lv_at hl 0 rfl) ?_
  refine lv_iload_n hx hb dX6_labelAt_1 rfl (lv_at hl 1 rfl) ?_
  refine lv_iload_n hx hb dX6_labelAt_2 rfl (lv_at hl 2 rfl) ?_
  have hPc := hP.sub (ws' := [(k0, .inr (9, [.ref kN, .ref kA, .ref kO, .ref kK, .ref kV, .ref kG, .ref kP, .ref kC, .ref kD, .ref kE, .ref kF, .ref kX, .ref kY, .int 0, .ref kT, .ref kU, .int 0, .int 0, .int 0])), (kA, .inl (cI, 2, .inl (fun _ => 0)))]) [0, 2] rfl
  have hDc := hD.sub (ws' := [(k0, .inr (9, [.ref kN, .ref kA, .ref kO, .ref kK, .ref kV, .ref kG, .ref kP, .ref kC, .ref kD, .ref kE, .ref kF, .ref kX, .ref kY, .int 0, .ref kT, .ref kU, .int 0, .int 0, .int 0])), (kA, .inl (cI, 2, .inl (fun _ => 0)))]) [0, 2] (by decide) rfl
  have hKc := hK.sub (tys' := [(cI, .int)]) [0] rfl
  have hFc := va_free (wc := [(k0, .inr (9, [.ref kN, .ref kA, .ref kO, .ref kK, .ref kV, .ref kG, .ref kP, .ref kC, .ref kD, .ref kE, .ref kF, .ref kX, .ref kY, .int 0, .ref kT, .ref kU, .int 0, .int 0, .int 0])), (kA, .inl (cI, 2, .inl (fun _ => 0)))]) hD hS hA [0, 2] rfl
  refine va_calli (va_runV (As := [.int p0, .int p1]) (rest := []) ⟨hx, hb, hml, hown, hts⟩ (kX6_isAsked l dC dI k0 kN kA kO kK kV kG kP kC kD kE kF kX kY kT kU cI p0 p1 s.heap.size) (cwV 2 hts gX6_labelAt_X6_isAsked rfl rfl rfl (by decide +kernel) ⟨Nat.le_of_ble_eq_true rfl, Nat.le_of_ble_eq_true rfl⟩) (fPreV hN hZ hS (fun q h => hFc q h) hPc hKc hDc (ci := 9) (q0 := 0) rfl rfl) rfl rfl hl.1 rfl (lv_room (Nat.le_of_ble_eq_true rfl)) dX6_labelAt_3 ⟨Nat.le_of_ble_eq_true rfl, Nat.le_of_ble_eq_true rfl⟩) hS (fun q _ h => hFc q h) hFc (fun r u t H1 locs ht hvm hw hB hz1 hk1 hS => ?_)
  obtain ⟨hP1, hK1, hD1⟩ := hB
  rw [ht] at hP1
  have hK1 := va_K.moved hvm.symm hK1
  obtain ⟨hP, hD⟩ := va_join (wr := [(kN, .inl (cI, 2, .inl (fun _ => 0)))]) (w1 := [(k0, .inr (9, [.ref kN, .ref kA, .ref kO, .ref kK, .ref kV, .ref kG, .ref kP, .ref kC, .ref kD, .ref kE, .ref kF, .ref kX, .ref kY, .int 0, .ref kT, .ref kU, .int u, .int 0, .int 0]))]) hP hD [0, 2] [1] rfl rfl (by decide) (by decide) hk1 hFc hP1 hD1
  generalize H1 = H at hP hS ⊢
  have hP : va_P (dC, dI) vwCl [(kN, .inl (cI, 2, .inl (fun _ => 0))), (k0, .inr (9, [.ref kN, .ref kA, .ref kO, .ref kK, .ref kV, .ref kG, .ref kP, .ref kC, .ref kD, .ref kE, .ref kF, .ref kX, .ref kY, .int 0, .ref kT, .ref kU, .int u, .int 0, .int 0]))] _ := hP
  have hD : va_D A [(kN, .inl (cI, 2, .inl (fun _ => 0))), (k0, .inr (9, [.ref kN, .ref kA, .ref kO, .ref kK, .ref kV, .ref kG, .ref kP, .ref kC, .ref kD, .ref kE, .ref kF, .ref kX, .ref kY, .int 0, .ref kT, .ref kU, .int u, .int 0, .int 0]))] := hD
  rcases hw with ⟨rfl, ⟨rfl, hq⟩ | ⟨rfl, hq⟩⟩
  · skip
    have hq1 := hq
    have hP : va_P (dC, dI) vwCl [(kN, .inl (cI, 2, .inl (fun _ => 0))), (k0, .inr (9, [.ref kN, .ref kA, .ref kO, .ref kK, .ref kV, .ref kG, .ref kP, .ref kC, .ref kD, .ref kE, .ref kF, .ref kX, .ref kY, .int 0, .ref kT, .ref kU, .int 1, .int 0, .int 0]))] _ := hP
    have hD : va_D A [(kN, .inl (cI, 2, .inl (fun _ => 0))), (k0, .inr (9, [.ref kN, .ref kA, .ref kO, .ref kK, .ref kV, .ref kG, .ref kP, .ref kC, .ref kD, .ref kE, .ref kF, .ref kX, .ref kY, .int 0, .ref kT, .ref kU, .int 1, .int 0, .int 0]))] := hD
    refine lv_if_ne (tgt := 12) hx hb dX6_labelAt_6 (by decide) (fun h9 => absurd (by decide) h9) (fun _ => ?_)
    refine lv_bipush (v := 32) hx hb dX6_labelAt_9 (by decide) ?_
    exact ret _ 1 _ _ _ _ _ _ (by decide) (Or.inl (⟨rfl, hq1⟩)) (hP.sub [1] rfl) (hK.sub [] rfl) (hD.sub [1] (by decide) rfl) hS (Nat.le_of_ble_eq_true rfl) (Nat.le_of_ble_eq_true rfl) dX6_labelAt_11
  · skip
    have hq2 := hq
    have hP : va_P (dC, dI) vwCl [(kN, .inl (cI, 2, .inl (fun _ => 0))), (k0, .inr (9, [.ref kN, .ref kA, .ref kO, .ref kK, .ref kV, .ref kG, .ref kP, .ref kC, .ref kD, .ref kE, .ref kF, .ref kX, .ref kY, .int 0, .ref kT, .ref kU, .int 2, .int 0, .int 0]))] _ := hP
    have hD : va_D A [(kN, .inl (cI, 2, .inl (fun _ => 0))), (k0, .inr (9, [.ref kN, .ref kA, .ref kO, .ref kK, .ref kV, .ref kG, .ref kP, .ref kC, .ref kD, .ref kE, .ref kF, .ref kX, .ref kY, .int 0, .ref kT, .ref kU, .int 2, .int 0, .int 0]))] := hD
    refine lv_if_ne (tgt := 12) hx hb dX6_labelAt_6 (by decide) (fun h9 => absurd (by decide) h9) (fun _ => ?_)
    refine lv_bipush (v := 32) hx hb dX6_labelAt_9 (by decide) ?_
    exact ret _ 2 _ _ _ _ _ _ (by decide) (Or.inr (⟨rfl, (fun h9 => h9 (hq2))⟩)) (hP.sub [1] rfl) (hK.sub [] rfl) (hD.sub [1] (by decide) rfl) hS (Nat.le_of_ble_eq_true rfl) (Nat.le_of_ble_eq_true rfl) dX6_labelAt_11

set_option maxHeartbeats 4000000 in
set_option maxRecDepth 100000 in
/-- the model: setValue on a fresh one -/
theorem kX6_setValue (l : Launch) (dC : Nat → ClassId) (dI : Nat → Nat → Nat) (k0 kN kA kO kK kV kG kP kC kD kE kF kX kY kT kU : Nat) (cI : ClassId) (p0 p1 p2 : Int32) (sz : Nat) : fMi l yX6_setValue wsX6_setValue ({ frames := 2, cells := 0, slots := 0, locals := 47 } : Room) dC dI [.ref k0, .int p0, .int p1, .int p2] [(k0, .inr (9, [.ref kN, .ref kA, .ref kO, .ref kK, .ref kV, .ref kG, .ref kP, .ref kC, .ref kD, .ref kE, .ref kF, .ref kX, .ref kY, .int 0, .ref kT, .ref kU, .int 0, .int 0, .int 0])), (kN, .inl (cI, 2, .inl (fun _ => 0))), (kA, .inl (cI, 2, .inl (fun _ => 0)))] [(cI, .int)] sz (fun (r : Int32) (u : Int32) => u = 1 ∧ ((¬ ((p0 = 0) ∨ (p0 = 1))) ∨ (¬ ((¬ (p2 < 1)) ∧ (¬ (999 < p2))))) ∨ u = 2 ∧ (¬ ((¬ ((p0 = 0) ∨ (p0 = 1))) ∨ (¬ ((¬ (p2 < 1)) ∧ (¬ (999 < p2))))))) (fun u => [(k0, .inr (9, [.ref kN, .ref kA, .ref kO, .ref kK, .ref kV, .ref kG, .ref kP, .ref kC, .ref kD, .ref kE, .ref kF, .ref kX, .ref kY, .int 0, .ref kT, .ref kU, .int u, .int 0, .int 0]))]) (fun u => []) := by
  refine oP_i (y := yX6_setValue) (cc := cX6_setValue) (maxL := 5) (by decide) rfl (Nat.le_of_ble_eq_true rfl) ?_
  intro p e s m args below meth c ls A Q hx hb hr hml hown hts hN hZ hA hin hlk hP hK hD hl ret
  have hS : va_S A s.heap s.heap [] := va_S.rf
  have hl : lv_has ls 5 [(0, .ref k0), (1, .int p0), (2, .int p1), (3, .int p2)] := hl
  have hP : va_P (dC, dI) vwCl [(k0, .inr (9, [.ref kN, .ref kA, .ref kO, .ref kK, .ref kV, .ref kG, .ref kP, .ref kC, .ref kD, .ref kE, .ref kF, .ref kX, .ref kY, .int 0, .ref kT, .ref kU, .int 0, .int 0, .int 0])), (kN, .inl (cI, 2, .inl (fun _ => 0))), (kA, .inl (cI, 2, .inl (fun _ => 0)))] _ := hP
  have hD : va_D A [(k0, .inr (9, [.ref kN, .ref kA, .ref kO, .ref kK, .ref kV, .ref kG, .ref kP, .ref kC, .ref kD, .ref kE, .ref kF, .ref kX, .ref kY, .int 0, .ref kT, .ref kU, .int 0, .int 0, .int 0])), (kN, .inl (cI, 2, .inl (fun _ => 0))), (kA, .inl (cI, 2, .inl (fun _ => 0)))] := hD
  refine lv_aload_n hx hb dX6_setValue_0 rfl (lv_at hl 0 rfl) ?_
  refine lv_iload_n hx hb dX6_setValue_1 rfl (lv_at hl 1 rfl) ?_
  have hPc := hP.sub (ws' := []) [] rfl
  have hDc := hD.sub (ws' := []) [] (by decide) rfl
  have hKc := hK.sub (tys' := []) [] rfl
  have hFc := va_free (wc := []) hD hS hA [] rfl
  refine va_calli (va_runS (As := [.int p0]) (rest := [.ref k0]) ⟨hx, hb, hml, hown, hts⟩ (kX6_isCircuit l dC dI p0 s.heap.size) (va_cwS 1 hts gX6_setValue_X6_isCircuit rfl rfl rfl (by decide +kernel) ⟨Nat.le_of_ble_eq_true rfl, Nat.le_of_ble_eq_true rfl⟩) (fPreS hN hZ hS (fun q h => hFc q h) hPc hKc hDc) rfl rfl hl.1 rfl (lv_room (Nat.le_of_ble_eq_true rfl)) dX6_setValue_2 ⟨Nat.le_of_ble_eq_true rfl, Nat.le_of_ble_eq_true rfl⟩) hS (fun q _ h => hFc q h) hFc (fun r u t H1 locs ht hvm hw hB hz1 hk1 hS => ?_)
  obtain ⟨hP1, hK1, hD1⟩ := hB
  rw [ht] at hP1
  have hK1 := va_K.moved hvm.symm hK1
  obtain ⟨hP, hD⟩ := va_join (wr := [(k0, .inr (9, [.ref kN, .ref kA, .ref kO, .ref kK, .ref kV, .ref kG, .ref kP, .ref kC, .ref kD, .ref kE, .ref kF, .ref kX, .ref kY, .int 0, .ref kT, .ref kU, .int 0, .int 0, .int 0])), (kN, .inl (cI, 2, .inl (fun _ => 0))), (kA, .inl (cI, 2, .inl (fun _ => 0)))]) (w1 := []) hP hD [] [0, 1, 2] rfl rfl (by decide) (by decide) hk1 hFc hP1 hD1
  generalize H1 = H at hP hS ⊢
  have hP : va_P (dC, dI) vwCl [(k0, .inr (9, [.ref kN, .ref kA, .ref kO, .ref kK, .ref kV, .ref kG, .ref kP, .ref kC, .ref kD, .ref kE, .ref kF, .ref kX, .ref kY, .int 0, .ref kT, .ref kU, .int 0, .int 0, .int 0])), (kN, .inl (cI, 2, .inl (fun _ => 0))), (kA, .inl (cI, 2, .inl (fun _ => 0)))] _ := hP
  have hD : va_D A [(k0, .inr (9, [.ref kN, .ref kA, .ref kO, .ref kK, .ref kV, .ref kG, .ref kP, .ref kC, .ref kD, .ref kE, .ref kF, .ref kX, .ref kY, .int 0, .ref kT, .ref kU, .int 0, .int 0, .int 0])), (kN, .inl (cI, 2, .inl (fun _ => 0))), (kA, .inl (cI, 2, .inl (fun _ => 0)))] := hD
  rcases hw with ⟨rfl, hc | hc⟩ | ⟨rfl, hc⟩
  · skip
    subst hc
    have hP : va_P (dC, dI) vwCl [(k0, .inr (9, [.ref kN, .ref kA, .ref kO, .ref kK, .ref kV, .ref kG, .ref kP, .ref kC, .ref kD, .ref kE, .ref kF, .ref kX, .ref kY, .int 0, .ref kT, .ref kU, .int 0, .int 0, .int 0])), (kN, .inl (cI, 2, .inl (fun _ => 0))), (kA, .inl (cI, 2, .inl (fun _ => 0)))] _ := hP
    have hD : va_D A [(k0, .inr (9, [.ref kN, .ref kA, .ref kO, .ref kK, .ref kV, .ref kG, .ref kP, .ref kC, .ref kD, .ref kE, .ref kF, .ref kX, .ref kY, .int 0, .ref kT, .ref kU, .int 0, .int 0, .int 0])), (kN, .inl (cI, 2, .inl (fun _ => 0))), (kA, .inl (cI, 2, .inl (fun _ => 0)))] := hD
    refine lv_if_eq (tgt := 20) hx hb dX6_setValue_5 (by decide) (fun h9 => absurd h9 (by decide)) (fun _ => ?_)
    refine lv_iload_n hx hb dX6_setValue_8 rfl (lv_at hl 3 rfl) ?_
    refine lv_i2l (v := p2.toInt64) hx hb dX6_setValue_9 rfl ?_
    refine lv_lconst (v := 1) hx hb dX6_setValue_10 (by decide) ?_
    refine lv_ldc2 (v := 999) hx hb hown (hts (.constantLong RX6 92 (999)) (List.mem_cons_of_mem _ (List.mem_append_left _ (List.mem_append_left _ (List.mem_of_getElem? (i := 0) rfl))))) dX6_setValue_11 ?_
    have hPc := hP.sub (ws' := []) [] rfl
    have hDc := hD.sub (ws' := []) [] (by decide) rfl
    have hKc := hK.sub (tys' := []) [] rfl
    have hFc := va_free (wc := []) hD hS hA [] rfl
    refine va_calli (va_runS (As := [.long p2.toInt64, .long 1, .long 999]) (rest := [.ref k0]) ⟨hx, hb, hml, hown, hts⟩ (kX6_in l dC dI p2.toInt64 1 999 H.size) (va_cwS 3 hts gX6_setValue_X6_in rfl rfl rfl (by decide +kernel) ⟨Nat.le_of_ble_eq_true rfl, Nat.le_of_ble_eq_true rfl⟩) (fPreS hN hZ hS (fun q h => hFc q h) hPc hKc hDc) rfl rfl hl.1 rfl (lv_room (Nat.le_of_ble_eq_true rfl)) dX6_setValue_14 ⟨Nat.le_of_ble_eq_true rfl, Nat.le_of_ble_eq_true rfl⟩) hS (fun q _ h => hFc q h) hFc (fun r u t H1 locs ht hvm hw hB hz1 hk1 hS => ?_)
    obtain ⟨hP1, hK1, hD1⟩ := hB
    rw [ht] at hP1
    have hK1 := va_K.moved hvm.symm hK1
    obtain ⟨hP, hD⟩ := va_join (wr := [(k0, .inr (9, [.ref kN, .ref kA, .ref kO, .ref kK, .ref kV, .ref kG, .ref kP, .ref kC, .ref kD, .ref kE, .ref kF, .ref kX, .ref kY, .int 0, .ref kT, .ref kU, .int 0, .int 0, .int 0])), (kN, .inl (cI, 2, .inl (fun _ => 0))), (kA, .inl (cI, 2, .inl (fun _ => 0)))]) (w1 := []) hP hD [] [0, 1, 2] rfl rfl (by decide) (by decide) hk1 hFc hP1 hD1
    generalize H1 = H at hP hS ⊢
    have hP : va_P (dC, dI) vwCl [(k0, .inr (9, [.ref kN, .ref kA, .ref kO, .ref kK, .ref kV, .ref kG, .ref kP, .ref kC, .ref kD, .ref kE, .ref kF, .ref kX, .ref kY, .int 0, .ref kT, .ref kU, .int 0, .int 0, .int 0])), (kN, .inl (cI, 2, .inl (fun _ => 0))), (kA, .inl (cI, 2, .inl (fun _ => 0)))] _ := hP
    have hD : va_D A [(k0, .inr (9, [.ref kN, .ref kA, .ref kO, .ref kK, .ref kV, .ref kG, .ref kP, .ref kC, .ref kD, .ref kE, .ref kF, .ref kX, .ref kY, .int 0, .ref kT, .ref kU, .int 0, .int 0, .int 0])), (kN, .inl (cI, 2, .inl (fun _ => 0))), (kA, .inl (cI, 2, .inl (fun _ => 0)))] := hD
    rcases hw with ⟨rfl, hi9⟩ | ⟨rfl, hi9⟩
    · skip
      have hi1 : ((¬ (p2 < 1)) ∧ (¬ (999 < p2))) := (fIn p2 1 999 1 999 (by decide) (by decide)).mp hi9
      refine lv_if_ne (tgt := 24) hx hb dX6_setValue_17 (by decide) (fun _ => ?_) (fun h9 => absurd h9 (by decide))
      refine lv_aload_n hx hb dX6_setValue_24 rfl (lv_at hl 0 rfl) ?_
      refine lv_iload_n hx hb dX6_setValue_25 rfl (lv_at hl 1 rfl) ?_
      refine lv_iload_n hx hb dX6_setValue_26 rfl (lv_at hl 2 rfl) ?_
      have hPc := hP.sub (ws' := [(k0, .inr (9, [.ref kN, .ref kA, .ref kO, .ref kK, .ref kV, .ref kG, .ref kP, .ref kC, .ref kD, .ref kE, .ref kF, .ref kX, .ref kY, .int 0, .ref kT, .ref kU, .int 0, .int 0, .int 0])), (kA, .inl (cI, 2, .inl (fun _ => 0)))]) [0, 2] rfl
      have hDc := hD.sub (ws' := [(k0, .inr (9, [.ref kN, .ref kA, .ref kO, .ref kK, .ref kV, .ref kG, .ref kP, .ref kC, .ref kD, .ref kE, .ref kF, .ref kX, .ref kY, .int 0, .ref kT, .ref kU, .int 0, .int 0, .int 0])), (kA, .inl (cI, 2, .inl (fun _ => 0)))]) [0, 2] (by decide) rfl
      have hKc := hK.sub (tys' := [(cI, .int)]) [0] rfl
      have hFc := va_free (wc := [(k0, .inr (9, [.ref kN, .ref kA, .ref kO, .ref kK, .ref kV, .ref kG, .ref kP, .ref kC, .ref kD, .ref kE, .ref kF, .ref kX, .ref kY, .int 0, .ref kT, .ref kU, .int 0, .int 0, .int 0])), (kA, .inl (cI, 2, .inl (fun _ => 0)))]) hD hS hA [0, 2] rfl
      refine va_calli (va_runV (As := [.int 0, .int p1]) (rest := [.ref k0]) ⟨hx, hb, hml, hown, hts⟩ (kX6_isPart0 l dC dI k0 kN kA kO kK kV kG kP kC kD kE kF kX kY kT kU cI p1 H.size) (cwV 2 hts gX6_setValue_X6_isPart rfl rfl rfl (by decide +kernel) ⟨Nat.le_of_ble_eq_true rfl, Nat.le_of_ble_eq_true rfl⟩) (fPreV hN hZ hS (fun q h => hFc q h) hPc hKc hDc (ci := 9) (q0 := 0) rfl rfl) rfl rfl hl.1 rfl (lv_room (Nat.le_of_ble_eq_true rfl)) dX6_setValue_27 ⟨Nat.le_of_ble_eq_true rfl, Nat.le_of_ble_eq_true rfl⟩) hS (fun q _ h => hFc q h) hFc (fun r u t H1 locs ht hvm hw hB hz1 hk1 hS => ?_)
      obtain ⟨hP1, hK1, hD1⟩ := hB
      rw [ht] at hP1
      have hK1 := va_K.moved hvm.symm hK1
      obtain ⟨hP, hD⟩ := va_join (wr := [(kN, .inl (cI, 2, .inl (fun _ => 0)))]) (w1 := [(k0, .inr (9, [.ref kN, .ref kA, .ref kO, .ref kK, .ref kV, .ref kG, .ref kP, .ref kC, .ref kD, .ref kE, .ref kF, .ref kX, .ref kY, .int 0, .ref kT, .ref kU, .int 0, .int 0, .int 0])), (kA, .inl (cI, 2, .inl (fun _ => 0)))]) hP hD [0, 2] [1] rfl rfl (by decide) (by decide) hk1 hFc hP1 hD1
      generalize H1 = H at hP hS ⊢
      have hP : va_P (dC, dI) vwCl [(kN, .inl (cI, 2, .inl (fun _ => 0))), (k0, .inr (9, [.ref kN, .ref kA, .ref kO, .ref kK, .ref kV, .ref kG, .ref kP, .ref kC, .ref kD, .ref kE, .ref kF, .ref kX, .ref kY, .int 0, .ref kT, .ref kU, .int 0, .int 0, .int 0])), (kA, .inl (cI, 2, .inl (fun _ => 0)))] _ := hP
      have hD : va_D A [(kN, .inl (cI, 2, .inl (fun _ => 0))), (k0, .inr (9, [.ref kN, .ref kA, .ref kO, .ref kK, .ref kV, .ref kG, .ref kP, .ref kC, .ref kD, .ref kE, .ref kF, .ref kX, .ref kY, .int 0, .ref kT, .ref kU, .int 0, .int 0, .int 0])), (kA, .inl (cI, 2, .inl (fun _ => 0)))] := hD
      subst hw
      refine lv_if_ne (tgt := 37) hx hb dX6_setValue_30 (by decide) (fun h9 => absurd (by decide) h9) (fun _ => ?_)
      refine lv_iconst (v := 2) hx hb dX6_setValue_33 (by decide) ?_
      refine lv_goto (tgt := 38) hx hb dX6_setValue_34 (by decide) ?_
      refine va_put (D := (dC, dI)) (ci := 9) (v := .int 2) (ty := .int) (C := RX6) (T := TX6) (N := 19) hx hb hts (fun w h => List.mem_cons_of_mem _ (List.mem_append_left _ (List.mem_append_right _ (h)))) tyX6 tyX6_ok nmX6 hown hK hP hD hS 1 rfl rfl 16 (by decide) (hts (.fieldLink RX6 57 "NetcompareModel" "thrown" "I") (List.mem_cons_of_mem _ (List.mem_append_left _ (List.mem_append_left _ (List.mem_of_getElem? (i := 1) rfl))))) (fun _ h9 => h9) rfl (by decide +kernel) rfl rfl (Nat.le_of_ble_eq_true rfl) dX6_setValue_38 (fun H locs hP hD hS => ?_)
      have hP : va_P (dC, dI) vwCl [(kN, .inl (cI, 2, .inl (fun _ => 0))), (k0, .inr (9, [.ref kN, .ref kA, .ref kO, .ref kK, .ref kV, .ref kG, .ref kP, .ref kC, .ref kD, .ref kE, .ref kF, .ref kX, .ref kY, .int 0, .ref kT, .ref kU, .int 2, .int 0, .int 0])), (kA, .inl (cI, 2, .inl (fun _ => 0)))] _ := hP
      have hD : va_D A [(kN, .inl (cI, 2, .inl (fun _ => 0))), (k0, .inr (9, [.ref kN, .ref kA, .ref kO, .ref kK, .ref kV, .ref kG, .ref kP, .ref kC, .ref kD, .ref kE, .ref kF, .ref kX, .ref kY, .int 0, .ref kT, .ref kU, .int 2, .int 0, .int 0])), (kA, .inl (cI, 2, .inl (fun _ => 0)))] := hD
      refine lv_aload_n hx hb dX6_setValue_41 rfl (lv_at hl 0 rfl) ?_
      refine va_get (D := (dC, dI)) (ci := 9) (v := .int 2) (C := RX6) (T := TX6) (N := 19) hx hb hts (fun w h => List.mem_cons_of_mem _ (List.mem_append_left _ (List.mem_append_right _ (h)))) hown hK hP 1 rfl rfl 16 (by decide) (hts (.fieldLink RX6 57 "NetcompareModel" "thrown" "I") (List.mem_cons_of_mem _ (List.mem_append_left _ (List.mem_append_left _ (List.mem_of_getElem? (i := 1) rfl))))) (fun _ h9 => h9) rfl dX6_setValue_42 ?_
      refine lv_if_le (tgt := 50) hx hb dX6_setValue_45 (by decide) (fun h9 => absurd h9 (by decide)) (fun _ => ?_)
      refine lv_iconst (v := (-1)) hx hb dX6_setValue_48 (by decide) ?_
      exact ret _ 2 _ _ _ _ _ _ (Or.inr (⟨rfl, (fun h9 => h9.elim ((fun h9 => h9 (Or.inl (rfl)))) ((fun h9 => h9 (hi1))))⟩)) (hP.sub [1] rfl) (hK.sub [] rfl) (hD.sub [1] (by decide) rfl) hS (Nat.le_of_ble_eq_true rfl) (Nat.le_of_ble_eq_true rfl) dX6_setValue_49
    · skip
      have hi2 : ¬ ((¬ (p2 < 1)) ∧ (¬ (999 < p2))) := fun q => hi9 ((fIn p2 1 999 1 999 (by decide) (by decide)).mpr q)
      refine lv_if_ne (tgt := 24) hx hb dX6_setValue_17 (by decide) (fun h9 => absurd (by decide) h9) (fun _ => ?_)
      refine lv_iconst (v := 1) hx hb dX6_setValue_20 (by decide) ?_
      refine lv_goto (tgt := 38) hx hb dX6_setValue_21 (by decide) ?_
      refine va_put (D := (dC, dI)) (ci := 9) (v := .int 1) (ty := .int) (C := RX6) (T := TX6) (N := 19) hx hb hts (fun w h => List.mem_cons_of_mem _ (List.mem_append_left _ (List.mem_append_right _ (h)))) tyX6 tyX6_ok nmX6 hown hK hP hD hS 0 rfl rfl 16 (by decide) (hts (.fieldLink RX6 57 "NetcompareModel" "thrown" "I") (List.mem_cons_of_mem _ (List.mem_append_left _ (List.mem_append_left _ (List.mem_of_getElem? (i := 1) rfl))))) (fun _ h9 => h9) rfl (by decide +kernel) rfl rfl (Nat.le_of_ble_eq_true rfl) dX6_setValue_38 (fun H locs hP hD hS => ?_)
      have hP : va_P (dC, dI) vwCl [(k0, .inr (9, [.ref kN, .ref kA, .ref kO, .ref kK, .ref kV, .ref kG, .ref kP, .ref kC, .ref kD, .ref kE, .ref kF, .ref kX, .ref kY, .int 0, .ref kT, .ref kU, .int 1, .int 0, .int 0])), (kN, .inl (cI, 2, .inl (fun _ => 0))), (kA, .inl (cI, 2, .inl (fun _ => 0)))] _ := hP
      have hD : va_D A [(k0, .inr (9, [.ref kN, .ref kA, .ref kO, .ref kK, .ref kV, .ref kG, .ref kP, .ref kC, .ref kD, .ref kE, .ref kF, .ref kX, .ref kY, .int 0, .ref kT, .ref kU, .int 1, .int 0, .int 0])), (kN, .inl (cI, 2, .inl (fun _ => 0))), (kA, .inl (cI, 2, .inl (fun _ => 0)))] := hD
      refine lv_aload_n hx hb dX6_setValue_41 rfl (lv_at hl 0 rfl) ?_
      refine va_get (D := (dC, dI)) (ci := 9) (v := .int 1) (C := RX6) (T := TX6) (N := 19) hx hb hts (fun w h => List.mem_cons_of_mem _ (List.mem_append_left _ (List.mem_append_right _ (h)))) hown hK hP 0 rfl rfl 16 (by decide) (hts (.fieldLink RX6 57 "NetcompareModel" "thrown" "I") (List.mem_cons_of_mem _ (List.mem_append_left _ (List.mem_append_left _ (List.mem_of_getElem? (i := 1) rfl))))) (fun _ h9 => h9) rfl dX6_setValue_42 ?_
      refine lv_if_le (tgt := 50) hx hb dX6_setValue_45 (by decide) (fun h9 => absurd h9 (by decide)) (fun _ => ?_)
      refine lv_iconst (v := (-1)) hx hb dX6_setValue_48 (by decide) ?_
      exact ret _ 1 _ _ _ _ _ _ (Or.inl (⟨rfl, Or.inr (hi2)⟩)) (hP.sub [0] rfl) (hK.sub [] rfl) (hD.sub [0] (by decide) rfl) hS (Nat.le_of_ble_eq_true rfl) (Nat.le_of_ble_eq_true rfl) dX6_setValue_49
  · skip
    subst hc
    have hP : va_P (dC, dI) vwCl [(k0, .inr (9, [.ref kN, .ref kA, .ref kO, .ref kK, .ref kV, .ref kG, .ref kP, .ref kC, .ref kD, .ref kE, .ref kF, .ref kX, .ref kY, .int 0, .ref kT, .ref kU, .int 0, .int 0, .int 0])), (kN, .inl (cI, 2, .inl (fun _ => 0))), (kA, .inl (cI, 2, .inl (fun _ => 0)))] _ := hP
    have hD : va_D A [(k0, .inr (9, [.ref kN, .ref kA, .ref kO, .ref kK, .ref kV, .ref kG, .ref kP, .ref kC, .ref kD, .ref kE, .ref kF, .ref kX, .ref kY, .int 0, .ref kT, .ref kU, .int 0, .int 0, .int 0])), (kN, .inl (cI, 2, .inl (fun _ => 0))), (kA, .inl (cI, 2, .inl (fun _ => 0)))] := hD
    refine lv_if_eq (tgt := 20) hx hb dX6_setValue_5 (by decide) (fun h9 => absurd h9 (by decide)) (fun _ => ?_)
    refine lv_iload_n hx hb dX6_setValue_8 rfl (lv_at hl 3 rfl) ?_
    refine lv_i2l (v := p2.toInt64) hx hb dX6_setValue_9 rfl ?_
    refine lv_lconst (v := 1) hx hb dX6_setValue_10 (by decide) ?_
    refine lv_ldc2 (v := 999) hx hb hown (hts (.constantLong RX6 92 (999)) (List.mem_cons_of_mem _ (List.mem_append_left _ (List.mem_append_left _ (List.mem_of_getElem? (i := 0) rfl))))) dX6_setValue_11 ?_
    have hPc := hP.sub (ws' := []) [] rfl
    have hDc := hD.sub (ws' := []) [] (by decide) rfl
    have hKc := hK.sub (tys' := []) [] rfl
    have hFc := va_free (wc := []) hD hS hA [] rfl
    refine va_calli (va_runS (As := [.long p2.toInt64, .long 1, .long 999]) (rest := [.ref k0]) ⟨hx, hb, hml, hown, hts⟩ (kX6_in l dC dI p2.toInt64 1 999 H.size) (va_cwS 3 hts gX6_setValue_X6_in rfl rfl rfl (by decide +kernel) ⟨Nat.le_of_ble_eq_true rfl, Nat.le_of_ble_eq_true rfl⟩) (fPreS hN hZ hS (fun q h => hFc q h) hPc hKc hDc) rfl rfl hl.1 rfl (lv_room (Nat.le_of_ble_eq_true rfl)) dX6_setValue_14 ⟨Nat.le_of_ble_eq_true rfl, Nat.le_of_ble_eq_true rfl⟩) hS (fun q _ h => hFc q h) hFc (fun r u t H1 locs ht hvm hw hB hz1 hk1 hS => ?_)
    obtain ⟨hP1, hK1, hD1⟩ := hB
    rw [ht] at hP1
    have hK1 := va_K.moved hvm.symm hK1
    obtain ⟨hP, hD⟩ := va_join (wr := [(k0, .inr (9, [.ref kN, .ref kA, .ref kO, .ref kK, .ref kV, .ref kG, .ref kP, .ref kC, .ref kD, .ref kE, .ref kF, .ref kX, .ref kY, .int 0, .ref kT, .ref kU, .int 0, .int 0, .int 0])), (kN, .inl (cI, 2, .inl (fun _ => 0))), (kA, .inl (cI, 2, .inl (fun _ => 0)))]) (w1 := []) hP hD [] [0, 1, 2] rfl rfl (by decide) (by decide) hk1 hFc hP1 hD1
    generalize H1 = H at hP hS ⊢
    have hP : va_P (dC, dI) vwCl [(k0, .inr (9, [.ref kN, .ref kA, .ref kO, .ref kK, .ref kV, .ref kG, .ref kP, .ref kC, .ref kD, .ref kE, .ref kF, .ref kX, .ref kY, .int 0, .ref kT, .ref kU, .int 0, .int 0, .int 0])), (kN, .inl (cI, 2, .inl (fun _ => 0))), (kA, .inl (cI, 2, .inl (fun _ => 0)))] _ := hP
    have hD : va_D A [(k0, .inr (9, [.ref kN, .ref kA, .ref kO, .ref kK, .ref kV, .ref kG, .ref kP, .ref kC, .ref kD, .ref kE, .ref kF, .ref kX, .ref kY, .int 0, .ref kT, .ref kU, .int 0, .int 0, .int 0])), (kN, .inl (cI, 2, .inl (fun _ => 0))), (kA, .inl (cI, 2, .inl (fun _ => 0)))] := hD
    rcases hw with ⟨rfl, hi9⟩ | ⟨rfl, hi9⟩
    · skip
      have hi3 : ((¬ (p2 < 1)) ∧ (¬ (999 < p2))) := (fIn p2 1 999 1 999 (by decide) (by decide)).mp hi9
      refine lv_if_ne (tgt := 24) hx hb dX6_setValue_17 (by decide) (fun _ => ?_) (fun h9 => absurd h9 (by decide))
      refine lv_aload_n hx hb dX6_setValue_24 rfl (lv_at hl 0 rfl) ?_
      refine lv_iload_n hx hb dX6_setValue_25 rfl (lv_at hl 1 rfl) ?_
      refine lv_iload_n hx hb dX6_setValue_26 rfl (lv_at hl 2 rfl) ?_
      have hPc := hP.sub (ws' := [(k0, .inr (9, [.ref kN, .ref kA, .ref kO, .ref kK, .ref kV, .ref kG, .ref kP, .ref kC, .ref kD, .ref kE, .ref kF, .ref kX, .ref kY, .int 0, .ref kT, .ref kU, .int 0, .int 0, .int 0])), (kA, .inl (cI, 2, .inl (fun _ => 0)))]) [0, 2] rfl
      have hDc := hD.sub (ws' := [(k0, .inr (9, [.ref kN, .ref kA, .ref kO, .ref kK, .ref kV, .ref kG, .ref kP, .ref kC, .ref kD, .ref kE, .ref kF, .ref kX, .ref kY, .int 0, .ref kT, .ref kU, .int 0, .int 0, .int 0])), (kA, .inl (cI, 2, .inl (fun _ => 0)))]) [0, 2] (by decide) rfl
      have hKc := hK.sub (tys' := [(cI, .int)]) [0] rfl
      have hFc := va_free (wc := [(k0, .inr (9, [.ref kN, .ref kA, .ref kO, .ref kK, .ref kV, .ref kG, .ref kP, .ref kC, .ref kD, .ref kE, .ref kF, .ref kX, .ref kY, .int 0, .ref kT, .ref kU, .int 0, .int 0, .int 0])), (kA, .inl (cI, 2, .inl (fun _ => 0)))]) hD hS hA [0, 2] rfl
      refine va_calli (va_runV (As := [.int 1, .int p1]) (rest := [.ref k0]) ⟨hx, hb, hml, hown, hts⟩ (kX6_isPart1 l dC dI k0 kN kA kO kK kV kG kP kC kD kE kF kX kY kT kU cI p1 H.size) (cwV 2 hts gX6_setValue_X6_isPart rfl rfl rfl (by decide +kernel) ⟨Nat.le_of_ble_eq_true rfl, Nat.le_of_ble_eq_true rfl⟩) (fPreV hN hZ hS (fun q h => hFc q h) hPc hKc hDc (ci := 9) (q0 := 0) rfl rfl) rfl rfl hl.1 rfl (lv_room (Nat.le_of_ble_eq_true rfl)) dX6_setValue_27 ⟨Nat.le_of_ble_eq_true rfl, Nat.le_of_ble_eq_true rfl⟩) hS (fun q _ h => hFc q h) hFc (fun r u t H1 locs ht hvm hw hB hz1 hk1 hS => ?_)
      obtain ⟨hP1, hK1, hD1⟩ := hB
      rw [ht] at hP1
      have hK1 := va_K.moved hvm.symm hK1
      obtain ⟨hP, hD⟩ := va_join (wr := [(kN, .inl (cI, 2, .inl (fun _ => 0)))]) (w1 := [(k0, .inr (9, [.ref kN, .ref kA, .ref kO, .ref kK, .ref kV, .ref kG, .ref kP, .ref kC, .ref kD, .ref kE, .ref kF, .ref kX, .ref kY, .int 0, .ref kT, .ref kU, .int 0, .int 0, .int 0])), (kA, .inl (cI, 2, .inl (fun _ => 0)))]) hP hD [0, 2] [1] rfl rfl (by decide) (by decide) hk1 hFc hP1 hD1
      generalize H1 = H at hP hS ⊢
      have hP : va_P (dC, dI) vwCl [(kN, .inl (cI, 2, .inl (fun _ => 0))), (k0, .inr (9, [.ref kN, .ref kA, .ref kO, .ref kK, .ref kV, .ref kG, .ref kP, .ref kC, .ref kD, .ref kE, .ref kF, .ref kX, .ref kY, .int 0, .ref kT, .ref kU, .int 0, .int 0, .int 0])), (kA, .inl (cI, 2, .inl (fun _ => 0)))] _ := hP
      have hD : va_D A [(kN, .inl (cI, 2, .inl (fun _ => 0))), (k0, .inr (9, [.ref kN, .ref kA, .ref kO, .ref kK, .ref kV, .ref kG, .ref kP, .ref kC, .ref kD, .ref kE, .ref kF, .ref kX, .ref kY, .int 0, .ref kT, .ref kU, .int 0, .int 0, .int 0])), (kA, .inl (cI, 2, .inl (fun _ => 0)))] := hD
      subst hw
      refine lv_if_ne (tgt := 37) hx hb dX6_setValue_30 (by decide) (fun h9 => absurd (by decide) h9) (fun _ => ?_)
      refine lv_iconst (v := 2) hx hb dX6_setValue_33 (by decide) ?_
      refine lv_goto (tgt := 38) hx hb dX6_setValue_34 (by decide) ?_
      refine va_put (D := (dC, dI)) (ci := 9) (v := .int 2) (ty := .int) (C := RX6) (T := TX6) (N := 19) hx hb hts (fun w h => List.mem_cons_of_mem _ (List.mem_append_left _ (List.mem_append_right _ (h)))) tyX6 tyX6_ok nmX6 hown hK hP hD hS 1 rfl rfl 16 (by decide) (hts (.fieldLink RX6 57 "NetcompareModel" "thrown" "I") (List.mem_cons_of_mem _ (List.mem_append_left _ (List.mem_append_left _ (List.mem_of_getElem? (i := 1) rfl))))) (fun _ h9 => h9) rfl (by decide +kernel) rfl rfl (Nat.le_of_ble_eq_true rfl) dX6_setValue_38 (fun H locs hP hD hS => ?_)
      have hP : va_P (dC, dI) vwCl [(kN, .inl (cI, 2, .inl (fun _ => 0))), (k0, .inr (9, [.ref kN, .ref kA, .ref kO, .ref kK, .ref kV, .ref kG, .ref kP, .ref kC, .ref kD, .ref kE, .ref kF, .ref kX, .ref kY, .int 0, .ref kT, .ref kU, .int 2, .int 0, .int 0])), (kA, .inl (cI, 2, .inl (fun _ => 0)))] _ := hP
      have hD : va_D A [(kN, .inl (cI, 2, .inl (fun _ => 0))), (k0, .inr (9, [.ref kN, .ref kA, .ref kO, .ref kK, .ref kV, .ref kG, .ref kP, .ref kC, .ref kD, .ref kE, .ref kF, .ref kX, .ref kY, .int 0, .ref kT, .ref kU, .int 2, .int 0, .int 0])), (kA, .inl (cI, 2, .inl (fun _ => 0)))] := hD
      refine lv_aload_n hx hb dX6_setValue_41 rfl (lv_at hl 0 rfl) ?_
      refine va_get (D := (dC, dI)) (ci := 9) (v := .int 2) (C := RX6) (T := TX6) (N := 19) hx hb hts (fun w h => List.mem_cons_of_mem _ (List.mem_append_left _ (List.mem_append_right _ (h)))) hown hK hP 1 rfl rfl 16 (by decide) (hts (.fieldLink RX6 57 "NetcompareModel" "thrown" "I") (List.mem_cons_of_mem _ (List.mem_append_left _ (List.mem_append_left _ (List.mem_of_getElem? (i := 1) rfl))))) (fun _ h9 => h9) rfl dX6_setValue_42 ?_
      refine lv_if_le (tgt := 50) hx hb dX6_setValue_45 (by decide) (fun h9 => absurd h9 (by decide)) (fun _ => ?_)
      refine lv_iconst (v := (-1)) hx hb dX6_setValue_48 (by decide) ?_
      exact ret _ 2 _ _ _ _ _ _ (Or.inr (⟨rfl, (fun h9 => h9.elim ((fun h9 => h9 (Or.inr (rfl)))) ((fun h9 => h9 (hi3))))⟩)) (hP.sub [1] rfl) (hK.sub [] rfl) (hD.sub [1] (by decide) rfl) hS (Nat.le_of_ble_eq_true rfl) (Nat.le_of_ble_eq_true rfl) dX6_setValue_49
    · skip
      have hi4 : ¬ ((¬ (p2 < 1)) ∧ (¬ (999 < p2))) := fun q => hi9 ((fIn p2 1 999 1 999 (by decide) (by decide)).mpr q)
      refine lv_if_ne (tgt := 24) hx hb dX6_setValue_17 (by decide) (fun h9 => absurd (by decide) h9) (fun _ => ?_)
      refine lv_iconst (v := 1) hx hb dX6_setValue_20 (by decide) ?_
      refine lv_goto (tgt := 38) hx hb dX6_setValue_21 (by decide) ?_
      refine va_put (D := (dC, dI)) (ci := 9) (v := .int 1) (ty := .int) (C := RX6) (T := TX6) (N := 19) hx hb hts (fun w h => List.mem_cons_of_mem _ (List.mem_append_left _ (List.mem_append_right _ (h)))) tyX6 tyX6_ok nmX6 hown hK hP hD hS 0 rfl rfl 16 (by decide) (hts (.fieldLink RX6 57 "NetcompareModel" "thrown" "I") (List.mem_cons_of_mem _ (List.mem_append_left _ (List.mem_append_left _ (List.mem_of_getElem? (i := 1) rfl))))) (fun _ h9 => h9) rfl (by decide +kernel) rfl rfl (Nat.le_of_ble_eq_true rfl) dX6_setValue_38 (fun H locs hP hD hS => ?_)
      have hP : va_P (dC, dI) vwCl [(k0, .inr (9, [.ref kN, .ref kA, .ref kO, .ref kK, .ref kV, .ref kG, .ref kP, .ref kC, .ref kD, .ref kE, .ref kF, .ref kX, .ref kY, .int 0, .ref kT, .ref kU, .int 1, .int 0, .int 0])), (kN, .inl (cI, 2, .inl (fun _ => 0))), (kA, .inl (cI, 2, .inl (fun _ => 0)))] _ := hP
      have hD : va_D A [(k0, .inr (9, [.ref kN, .ref kA, .ref kO, .ref kK, .ref kV, .ref kG, .ref kP, .ref kC, .ref kD, .ref kE, .ref kF, .ref kX, .ref kY, .int 0, .ref kT, .ref kU, .int 1, .int 0, .int 0])), (kN, .inl (cI, 2, .inl (fun _ => 0))), (kA, .inl (cI, 2, .inl (fun _ => 0)))] := hD
      refine lv_aload_n hx hb dX6_setValue_41 rfl (lv_at hl 0 rfl) ?_
      refine va_get (D := (dC, dI)) (ci := 9) (v := .int 1) (C := RX6) (T := TX6) (N := 19) hx hb hts (fun w h => List.mem_cons_of_mem _ (List.mem_append_left _ (List.mem_append_right _ (h)))) hown hK hP 0 rfl rfl 16 (by decide) (hts (.fieldLink RX6 57 "NetcompareModel" "thrown" "I") (List.mem_cons_of_mem _ (List.mem_append_left _ (List.mem_append_left _ (List.mem_of_getElem? (i := 1) rfl))))) (fun _ h9 => h9) rfl dX6_setValue_42 ?_
      refine lv_if_le (tgt := 50) hx hb dX6_setValue_45 (by decide) (fun h9 => absurd h9 (by decide)) (fun _ => ?_)
      refine lv_iconst (v := (-1)) hx hb dX6_setValue_48 (by decide) ?_
      exact ret _ 1 _ _ _ _ _ _ (Or.inl (⟨rfl, Or.inr (hi4)⟩)) (hP.sub [0] rfl) (hK.sub [] rfl) (hD.sub [0] (by decide) rfl) hS (Nat.le_of_ble_eq_true rfl) (Nat.le_of_ble_eq_true rfl) dX6_setValue_49
  · skip
    have hc5 := hc
    refine lv_if_eq (tgt := 20) hx hb dX6_setValue_5 (by decide) (fun _ => ?_) (fun h9 => absurd (by decide) h9)
    refine lv_iconst (v := 1) hx hb dX6_setValue_20 (by decide) ?_
    refine lv_goto (tgt := 38) hx hb dX6_setValue_21 (by decide) ?_
    refine va_put (D := (dC, dI)) (ci := 9) (v := .int 1) (ty := .int) (C := RX6) (T := TX6) (N := 19) hx hb hts (fun w h => List.mem_cons_of_mem _ (List.mem_append_left _ (List.mem_append_right _ (h)))) tyX6 tyX6_ok nmX6 hown hK hP hD hS 0 rfl rfl 16 (by decide) (hts (.fieldLink RX6 57 "NetcompareModel" "thrown" "I") (List.mem_cons_of_mem _ (List.mem_append_left _ (List.mem_append_left _ (List.mem_of_getElem? (i := 1) rfl))))) (fun _ h9 => h9) rfl (by decide +kernel) rfl rfl (Nat.le_of_ble_eq_true rfl) dX6_setValue_38 (fun H locs hP hD hS => ?_)
    have hP : va_P (dC, dI) vwCl [(k0, .inr (9, [.ref kN, .ref kA, .ref kO, .ref kK, .ref kV, .ref kG, .ref kP, .ref kC, .ref kD, .ref kE, .ref kF, .ref kX, .ref kY, .int 0, .ref kT, .ref kU, .int 1, .int 0, .int 0])), (kN, .inl (cI, 2, .inl (fun _ => 0))), (kA, .inl (cI, 2, .inl (fun _ => 0)))] _ := hP
    have hD : va_D A [(k0, .inr (9, [.ref kN, .ref kA, .ref kO, .ref kK, .ref kV, .ref kG, .ref kP, .ref kC, .ref kD, .ref kE, .ref kF, .ref kX, .ref kY, .int 0, .ref kT, .ref kU, .int 1, .int 0, .int 0])), (kN, .inl (cI, 2, .inl (fun _ => 0))), (kA, .inl (cI, 2, .inl (fun _ => 0)))] := hD
    refine lv_aload_n hx hb dX6_setValue_41 rfl (lv_at hl 0 rfl) ?_
    refine va_get (D := (dC, dI)) (ci := 9) (v := .int 1) (C := RX6) (T := TX6) (N := 19) hx hb hts (fun w h => List.mem_cons_of_mem _ (List.mem_append_left _ (List.mem_append_right _ (h)))) hown hK hP 0 rfl rfl 16 (by decide) (hts (.fieldLink RX6 57 "NetcompareModel" "thrown" "I") (List.mem_cons_of_mem _ (List.mem_append_left _ (List.mem_append_left _ (List.mem_of_getElem? (i := 1) rfl))))) (fun _ h9 => h9) rfl dX6_setValue_42 ?_
    refine lv_if_le (tgt := 50) hx hb dX6_setValue_45 (by decide) (fun h9 => absurd h9 (by decide)) (fun _ => ?_)
    refine lv_iconst (v := (-1)) hx hb dX6_setValue_48 (by decide) ?_
    exact ret _ 1 _ _ _ _ _ _ (Or.inl (⟨rfl, Or.inl (hc5)⟩)) (hP.sub [0] rfl) (hK.sub [] rfl) (hD.sub [0] (by decide) rfl) hS (Nat.le_of_ble_eq_true rfl) (Nat.le_of_ble_eq_true rfl) dX6_setValue_49

set_option maxHeartbeats 4000000 in
set_option maxRecDepth 100000 in
/-- the model: copyWished on a fresh one -/
theorem kX6_copyWished (l : Launch) (dC : Nat → ClassId) (dI : Nat → Nat → Nat) (k0 kN kA kO kK kV kG kP kC kD kE kF kX kY kT kU : Nat) (cI cC cZ : ClassId) (sz : Nat) : fMi l yX6_copyWished wsX6_copyWished ({ frames := 1, cells := 0, slots := 0, locals := 23 } : Room) dC dI [.ref k0] [(k0, .inr (9, [.ref kN, .ref kA, .ref kO, .ref kK, .ref kV, .ref kG, .ref kP, .ref kC, .ref kD, .ref kE, .ref kF, .ref kX, .ref kY, .int 0, .ref kT, .ref kU, .int 0, .int 0, .int 0])), (kN, .inl (cI, 2, .inl (fun _ => 0))), (kA, .inl (cI, 2, .inl (fun _ => 0))), (kO, .inl (cC, 20, .inl (fun _ => 0))), (kK, .inl (cC, 20, .inl (fun _ => 0))), (kV, .inl (cI, 20, .inl (fun _ => 0))), (kG, .inl (cZ, 20, .inl (fun _ => 0))), (kP, .inl (cI, 60, .inl (fun _ => 0)))] [(cI, .int), (cC, .char), (cZ, .boolean)] sz (fun (r : Int32) (u : Int32) => u = 0 ∧ r = 0) (fun u => [(k0, .inr (9, [.ref kN, .ref kA, .ref kO, .ref kK, .ref kV, .ref kG, .ref kP, .ref kC, .ref kD, .ref kE, .ref kF, .ref kX, .ref kY, .int 0, .ref kT, .ref kU, .int u, .int 0, .int 0]))]) (fun u => []) := by
  refine oP_i (y := yX6_copyWished) (cc := cX6_copyWished) (maxL := 2) (by decide) rfl (Nat.le_of_ble_eq_true rfl) ?_
  intro p e s m args below meth c ls A Q hx hb hr hml hown hts hN hZ hA hin hlk hP hK hD hl ret
  have hS : va_S A s.heap s.heap [] := va_S.rf
  have hl : lv_has ls 2 [(0, .ref k0)] := hl
  have hP : va_P (dC, dI) vwCl [(k0, .inr (9, [.ref kN, .ref kA, .ref kO, .ref kK, .ref kV, .ref kG, .ref kP, .ref kC, .ref kD, .ref kE, .ref kF, .ref kX, .ref kY, .int 0, .ref kT, .ref kU, .int 0, .int 0, .int 0])), (kN, .inl (cI, 2, .inl (fun _ => 0))), (kA, .inl (cI, 2, .inl (fun _ => 0))), (kO, .inl (cC, 20, .inl (fun _ => 0))), (kK, .inl (cC, 20, .inl (fun _ => 0))), (kV, .inl (cI, 20, .inl (fun _ => 0))), (kG, .inl (cZ, 20, .inl (fun _ => 0))), (kP, .inl (cI, 60, .inl (fun _ => 0)))] _ := hP
  have hD : va_D A [(k0, .inr (9, [.ref kN, .ref kA, .ref kO, .ref kK, .ref kV, .ref kG, .ref kP, .ref kC, .ref kD, .ref kE, .ref kF, .ref kX, .ref kY, .int 0, .ref kT, .ref kU, .int 0, .int 0, .int 0])), (kN, .inl (cI, 2, .inl (fun _ => 0))), (kA, .inl (cI, 2, .inl (fun _ => 0))), (kO, .inl (cC, 20, .inl (fun _ => 0))), (kK, .inl (cC, 20, .inl (fun _ => 0))), (kV, .inl (cI, 20, .inl (fun _ => 0))), (kG, .inl (cZ, 20, .inl (fun _ => 0))), (kP, .inl (cI, 60, .inl (fun _ => 0)))] := hD
  refine lv_aload_n hx hb dX6_copyWished_0 rfl (lv_at hl 0 rfl) ?_
  refine lv_iconst (v := 0) hx hb dX6_copyWished_1 (by decide) ?_
  refine va_put (D := (dC, dI)) (ci := 9) (v := .int 0) (ty := .int) (C := RX6) (T := TX6) (N := 19) hx hb hts (fun w h => List.mem_cons_of_mem _ (List.mem_append_left _ (List.mem_append_right _ (h)))) tyX6 tyX6_ok nmX6 hown hK hP hD hS 0 rfl rfl 16 (by decide) (hts (.fieldLink RX6 57 "NetcompareModel" "thrown" "I") (List.mem_cons_of_mem _ (List.mem_append_left _ (List.mem_append_left _ (List.mem_of_getElem? (i := 0) rfl))))) (fun _ h9 => h9) rfl (by decide +kernel) rfl rfl (Nat.le_of_ble_eq_true rfl) dX6_copyWished_2 (fun H locs hP hD hS => ?_)
  have hP : va_P (dC, dI) vwCl [(k0, .inr (9, [.ref kN, .ref kA, .ref kO, .ref kK, .ref kV, .ref kG, .ref kP, .ref kC, .ref kD, .ref kE, .ref kF, .ref kX, .ref kY, .int 0, .ref kT, .ref kU, .int 0, .int 0, .int 0])), (kN, .inl (cI, 2, .inl (fun _ => 0))), (kA, .inl (cI, 2, .inl (fun _ => 0))), (kO, .inl (cC, 20, .inl (fun _ => 0))), (kK, .inl (cC, 20, .inl (fun _ => 0))), (kV, .inl (cI, 20, .inl (fun _ => 0))), (kG, .inl (cZ, 20, .inl (fun _ => 0))), (kP, .inl (cI, 60, .inl (fun _ => 0)))] _ := hP
  have hD : va_D A [(k0, .inr (9, [.ref kN, .ref kA, .ref kO, .ref kK, .ref kV, .ref kG, .ref kP, .ref kC, .ref kD, .ref kE, .ref kF, .ref kX, .ref kY, .int 0, .ref kT, .ref kU, .int 0, .int 0, .int 0])), (kN, .inl (cI, 2, .inl (fun _ => 0))), (kA, .inl (cI, 2, .inl (fun _ => 0))), (kO, .inl (cC, 20, .inl (fun _ => 0))), (kK, .inl (cC, 20, .inl (fun _ => 0))), (kV, .inl (cI, 20, .inl (fun _ => 0))), (kG, .inl (cZ, 20, .inl (fun _ => 0))), (kP, .inl (cI, 60, .inl (fun _ => 0)))] := hD
  refine lv_aload_n hx hb dX6_copyWished_5 rfl (lv_at hl 0 rfl) ?_
  refine va_get (D := (dC, dI)) (ci := 9) (v := .ref kN) (C := RX6) (T := TX6) (N := 19) hx hb hts (fun w h => List.mem_cons_of_mem _ (List.mem_append_left _ (List.mem_append_right _ (h)))) hown hK hP 0 rfl rfl 0 (by decide) (hts (.fieldLink RX6 7 "NetcompareModel" "nets" "[I") (List.mem_cons_of_mem _ (List.mem_append_left _ (List.mem_append_left _ (List.mem_of_getElem? (i := 1) rfl))))) (fun _ h9 => h9) rfl dX6_copyWished_6 ?_
  refine lv_iconst (v := 1) hx hb dX6_copyWished_9 (by decide) ?_
  refine lv_aload_n hx hb dX6_copyWished_10 rfl (lv_at hl 0 rfl) ?_
  refine va_get (D := (dC, dI)) (ci := 9) (v := .ref kN) (C := RX6) (T := TX6) (N := 19) hx hb hts (fun w h => List.mem_cons_of_mem _ (List.mem_append_left _ (List.mem_append_right _ (h)))) hown hK hP 0 rfl rfl 0 (by decide) (hts (.fieldLink RX6 7 "NetcompareModel" "nets" "[I") (List.mem_cons_of_mem _ (List.mem_append_left _ (List.mem_append_left _ (List.mem_of_getElem? (i := 1) rfl))))) (fun _ h9 => h9) rfl dX6_copyWished_11 ?_
  refine lv_iconst (v := 0) hx hb dX6_copyWished_14 (by decide) ?_
  refine va_iald hx hb hK hP 1 0 rfl rfl (show ¬ (_ ∨ _) by decide) dX6_copyWished_15 ?_
  refine W.eq (g2 := F0 m 16 ls [.int 0, .int 1, .ref kN]) rfl ?_
  refine va_iast hx hb hK hP hD hS 1 0 rfl rfl (show ¬ (_ ∨ _) by decide) dX6_copyWished_16 (fun H locs hP hD hS => ?_)
  have hP : va_P (dC, dI) vwCl [(k0, .inr (9, [.ref kN, .ref kA, .ref kO, .ref kK, .ref kV, .ref kG, .ref kP, .ref kC, .ref kD, .ref kE, .ref kF, .ref kX, .ref kY, .int 0, .ref kT, .ref kU, .int 0, .int 0, .int 0])), (kN, .inl (cI, 2, .inl (upd (fun _ => 0) 1 0))), (kA, .inl (cI, 2, .inl (fun _ => 0))), (kO, .inl (cC, 20, .inl (fun _ => 0))), (kK, .inl (cC, 20, .inl (fun _ => 0))), (kV, .inl (cI, 20, .inl (fun _ => 0))), (kG, .inl (cZ, 20, .inl (fun _ => 0))), (kP, .inl (cI, 60, .inl (fun _ => 0)))] _ := hP
  have hD : va_D A [(k0, .inr (9, [.ref kN, .ref kA, .ref kO, .ref kK, .ref kV, .ref kG, .ref kP, .ref kC, .ref kD, .ref kE, .ref kF, .ref kX, .ref kY, .int 0, .ref kT, .ref kU, .int 0, .int 0, .int 0])), (kN, .inl (cI, 2, .inl (upd (fun _ => 0) 1 0))), (kA, .inl (cI, 2, .inl (fun _ => 0))), (kO, .inl (cC, 20, .inl (fun _ => 0))), (kK, .inl (cC, 20, .inl (fun _ => 0))), (kV, .inl (cI, 20, .inl (fun _ => 0))), (kG, .inl (cZ, 20, .inl (fun _ => 0))), (kP, .inl (cI, 60, .inl (fun _ => 0)))] := hD
  rw [fU_c] at hP hD
  have hP : va_P (dC, dI) vwCl [(k0, .inr (9, [.ref kN, .ref kA, .ref kO, .ref kK, .ref kV, .ref kG, .ref kP, .ref kC, .ref kD, .ref kE, .ref kF, .ref kX, .ref kY, .int 0, .ref kT, .ref kU, .int 0, .int 0, .int 0])), (kN, .inl (cI, 2, .inl (fun _ => 0))), (kA, .inl (cI, 2, .inl (fun _ => 0))), (kO, .inl (cC, 20, .inl (fun _ => 0))), (kK, .inl (cC, 20, .inl (fun _ => 0))), (kV, .inl (cI, 20, .inl (fun _ => 0))), (kG, .inl (cZ, 20, .inl (fun _ => 0))), (kP, .inl (cI, 60, .inl (fun _ => 0)))] _ := hP
  have hD : va_D A [(k0, .inr (9, [.ref kN, .ref kA, .ref kO, .ref kK, .ref kV, .ref kG, .ref kP, .ref kC, .ref kD, .ref kE, .ref kF, .ref kX, .ref kY, .int 0, .ref kT, .ref kU, .int 0, .int 0, .int 0])), (kN, .inl (cI, 2, .inl (fun _ => 0))), (kA, .inl (cI, 2, .inl (fun _ => 0))), (kO, .inl (cC, 20, .inl (fun _ => 0))), (kK, .inl (cC, 20, .inl (fun _ => 0))), (kV, .inl (cI, 20, .inl (fun _ => 0))), (kG, .inl (cZ, 20, .inl (fun _ => 0))), (kP, .inl (cI, 60, .inl (fun _ => 0)))] := hD
  refine lv_aload_n hx hb dX6_copyWished_17 rfl (lv_at hl 0 rfl) ?_
  refine va_get (D := (dC, dI)) (ci := 9) (v := .ref kA) (C := RX6) (T := TX6) (N := 19) hx hb hts (fun w h => List.mem_cons_of_mem _ (List.mem_append_left _ (List.mem_append_right _ (h)))) hown hK hP 0 rfl rfl 1 (by decide) (hts (.fieldLink RX6 13 "NetcompareModel" "added" "[I") (List.mem_cons_of_mem _ (List.mem_append_left _ (List.mem_append_left _ (List.mem_of_getElem? (i := 2) rfl))))) (fun _ h9 => h9) rfl dX6_copyWished_18 ?_
  refine lv_iconst (v := 1) hx hb dX6_copyWished_21 (by decide) ?_
  refine lv_aload_n hx hb dX6_copyWished_22 rfl (lv_at hl 0 rfl) ?_
  refine va_get (D := (dC, dI)) (ci := 9) (v := .ref kA) (C := RX6) (T := TX6) (N := 19) hx hb hts (fun w h => List.mem_cons_of_mem _ (List.mem_append_left _ (List.mem_append_right _ (h)))) hown hK hP 0 rfl rfl 1 (by decide) (hts (.fieldLink RX6 13 "NetcompareModel" "added" "[I") (List.mem_cons_of_mem _ (List.mem_append_left _ (List.mem_append_left _ (List.mem_of_getElem? (i := 2) rfl))))) (fun _ h9 => h9) rfl dX6_copyWished_23 ?_
  refine lv_iconst (v := 0) hx hb dX6_copyWished_26 (by decide) ?_
  refine va_iald hx hb hK hP 2 0 rfl rfl (show ¬ (_ ∨ _) by decide) dX6_copyWished_27 ?_
  refine W.eq (g2 := F0 m 28 ls [.int 0, .int 1, .ref kA]) rfl ?_
  refine va_iast hx hb hK hP hD hS 2 0 rfl rfl (show ¬ (_ ∨ _) by decide) dX6_copyWished_28 (fun H locs hP hD hS => ?_)
  have hP : va_P (dC, dI) vwCl [(k0, .inr (9, [.ref kN, .ref kA, .ref kO, .ref kK, .ref kV, .ref kG, .ref kP, .ref kC, .ref kD, .ref kE, .ref kF, .ref kX, .ref kY, .int 0, .ref kT, .ref kU, .int 0, .int 0, .int 0])), (kN, .inl (cI, 2, .inl (fun _ => 0))), (kA, .inl (cI, 2, .inl (upd (fun _ => 0) 1 0))), (kO, .inl (cC, 20, .inl (fun _ => 0))), (kK, .inl (cC, 20, .inl (fun _ => 0))), (kV, .inl (cI, 20, .inl (fun _ => 0))), (kG, .inl (cZ, 20, .inl (fun _ => 0))), (kP, .inl (cI, 60, .inl (fun _ => 0)))] _ := hP
  have hD : va_D A [(k0, .inr (9, [.ref kN, .ref kA, .ref kO, .ref kK, .ref kV, .ref kG, .ref kP, .ref kC, .ref kD, .ref kE, .ref kF, .ref kX, .ref kY, .int 0, .ref kT, .ref kU, .int 0, .int 0, .int 0])), (kN, .inl (cI, 2, .inl (fun _ => 0))), (kA, .inl (cI, 2, .inl (upd (fun _ => 0) 1 0))), (kO, .inl (cC, 20, .inl (fun _ => 0))), (kK, .inl (cC, 20, .inl (fun _ => 0))), (kV, .inl (cI, 20, .inl (fun _ => 0))), (kG, .inl (cZ, 20, .inl (fun _ => 0))), (kP, .inl (cI, 60, .inl (fun _ => 0)))] := hD
  rw [fU_c] at hP hD
  have hP : va_P (dC, dI) vwCl [(k0, .inr (9, [.ref kN, .ref kA, .ref kO, .ref kK, .ref kV, .ref kG, .ref kP, .ref kC, .ref kD, .ref kE, .ref kF, .ref kX, .ref kY, .int 0, .ref kT, .ref kU, .int 0, .int 0, .int 0])), (kN, .inl (cI, 2, .inl (fun _ => 0))), (kA, .inl (cI, 2, .inl (fun _ => 0))), (kO, .inl (cC, 20, .inl (fun _ => 0))), (kK, .inl (cC, 20, .inl (fun _ => 0))), (kV, .inl (cI, 20, .inl (fun _ => 0))), (kG, .inl (cZ, 20, .inl (fun _ => 0))), (kP, .inl (cI, 60, .inl (fun _ => 0)))] _ := hP
  have hD : va_D A [(k0, .inr (9, [.ref kN, .ref kA, .ref kO, .ref kK, .ref kV, .ref kG, .ref kP, .ref kC, .ref kD, .ref kE, .ref kF, .ref kX, .ref kY, .int 0, .ref kT, .ref kU, .int 0, .int 0, .int 0])), (kN, .inl (cI, 2, .inl (fun _ => 0))), (kA, .inl (cI, 2, .inl (fun _ => 0))), (kO, .inl (cC, 20, .inl (fun _ => 0))), (kK, .inl (cC, 20, .inl (fun _ => 0))), (kV, .inl (cI, 20, .inl (fun _ => 0))), (kG, .inl (cZ, 20, .inl (fun _ => 0))), (kP, .inl (cI, 60, .inl (fun _ => 0)))] := hD
  refine lv_iconst (v := 0) hx hb dX6_copyWished_29 (by decide) ?_
  refine lv_istore_n (lv' := [(1, .int 0), (0, .ref k0)]) hx hb dX6_copyWished_30 rfl hl (Nat.le_of_ble_eq_true rfl) rfl (fun ls hl => ?_)
  have lp31 : ∀ (n i : Nat), i ≤ 10 → 10 - i < n → ∀  (ls : Array Slot) (H : Heap) (locs : List Loc), lv_has ls 2 [(1, .int (nI i)), (0, .ref k0)] → va_P (dC, dI) vwCl [(k0, .inr (9, [.ref kN, .ref kA, .ref kO, .ref kK, .ref kV, .ref kG, .ref kP, .ref kC, .ref kD, .ref kE, .ref kF, .ref kX, .ref kY, .int 0, .ref kT, .ref kU, .int 0, .int 0, .int 0])), (kN, .inl (cI, 2, .inl (fun _ => 0))), (kA, .inl (cI, 2, .inl (fun _ => 0))), (kO, .inl (cC, 20, .inl (fun _ => 0))), (kK, .inl (cC, 20, .inl (fun _ => 0))), (kV, .inl (cI, 20, .inl (fun _ => 0))), (kG, .inl (cZ, 20, .inl (fun _ => 0))), (kP, .inl (cI, 60, .inl (fun _ => 0)))] H → va_D A [(k0, .inr (9, [.ref kN, .ref kA, .ref kO, .ref kK, .ref kV, .ref kG, .ref kP, .ref kC, .ref kD, .ref kE, .ref kF, .ref kX, .ref kY, .int 0, .ref kT, .ref kU, .int 0, .int 0, .int 0])), (kN, .inl (cI, 2, .inl (fun _ => 0))), (kA, .inl (cI, 2, .inl (fun _ => 0))), (kO, .inl (cC, 20, .inl (fun _ => 0))), (kK, .inl (cC, 20, .inl (fun _ => 0))), (kV, .inl (cI, 20, .inl (fun _ => 0))), (kG, .inl (cZ, 20, .inl (fun _ => 0))), (kP, .inl (cI, 60, .inl (fun _ => 0)))] → va_S A s.heap H locs → W p l e ({ frames := 1, cells := 0, slots := 0, locals := 23 } : Room) s m args below meth c H locs 0 0 Q (F0 m 31 ls []) := by
    intro n
    induction n with
    | zero => intro i _ h9; exact absurd h9 (Nat.not_lt_zero _)
    | succ n ih =>
      intro i hi ni  ls H locs hl hP hD hS
      rcases Nat.lt_or_ge i 10 with hlt | hge
      · skip
        refine lv_iload_n hx hb dX6_copyWished_31 rfl (lv_at hl 0 rfl) ?_
        refine lv_bipush (v := 10) hx hb dX6_copyWished_32 (by decide) ?_
        refine lv_icmp_ge (tgt := 103) hx hb dX6_copyWished_34 (by decide) (fun h9 => absurd h9 (show ¬ nI 10 ≤ nI i from nI_ge hlt (by decide))) (fun _ => ?_)
        refine lv_aload_n hx hb dX6_copyWished_37 rfl (lv_at hl 1 rfl) ?_
        refine va_get (D := (dC, dI)) (ci := 9) (v := .ref kO) (C := RX6) (T := TX6) (N := 19) hx hb hts (fun w h => List.mem_cons_of_mem _ (List.mem_append_left _ (List.mem_append_right _ (h)))) hown hK hP 0 rfl rfl 2 (by decide) (hts (.fieldLink RX6 16 "NetcompareModel" "ports" "[C") (List.mem_cons_of_mem _ (List.mem_append_left _ (List.mem_append_left _ (List.mem_of_getElem? (i := 3) rfl))))) (fun _ h9 => h9) rfl dX6_copyWished_38 ?_
        refine lv_bipush (v := 10) hx hb dX6_copyWished_41 (by decide) ?_
        refine lv_iload_n hx hb dX6_copyWished_43 rfl (lv_at hl 0 rfl) ?_
        refine lv_iadd hx hb dX6_copyWished_44 ?_
        refine lv_topi (fun y1 ey1 => ?_)
        obtain rfl : y1 = nI (10 + i) := ey1.trans (nI_add 10 i)
        refine lv_aload_n hx hb dX6_copyWished_45 rfl (lv_at hl 1 rfl) ?_
        refine va_get (D := (dC, dI)) (ci := 9) (v := .ref kO) (C := RX6) (T := TX6) (N := 19) hx hb hts (fun w h => List.mem_cons_of_mem _ (List.mem_append_left _ (List.mem_append_right _ (h)))) hown hK hP 0 rfl rfl 2 (by decide) (hts (.fieldLink RX6 16 "NetcompareModel" "ports" "[C") (List.mem_cons_of_mem _ (List.mem_append_left _ (List.mem_append_left _ (List.mem_of_getElem? (i := 3) rfl))))) (fun _ h9 => h9) rfl dX6_copyWished_46 ?_
        refine lv_iload_n hx hb dX6_copyWished_49 rfl (lv_at hl 0 rfl) ?_
        refine va_cald hx hb hK hP 3 1 rfl rfl (vp_in_nI (Nat.lt_of_lt_of_le hlt (by decide)) (by decide)) dX6_copyWished_50 ?_
        refine W.eq (g2 := F0 m 51 ls [.int 0, .int (nI (10 + i)), .ref kO]) rfl ?_
        refine va_cast hx hb hK hP hD hS 3 1 rfl rfl (vp_in_nI (show (10 + i) < 20 by omega) (by decide)) dX6_copyWished_51 (fun H locs hP hD hS => ?_)
        rw [nI_clamp (show (10 + i) < 2 ^ 31 by omega)] at hP hD
        have hP : va_P (dC, dI) vwCl [(k0, .inr (9, [.ref kN, .ref kA, .ref kO, .ref kK, .ref kV, .ref kG, .ref kP, .ref kC, .ref kD, .ref kE, .ref kF, .ref kX, .ref kY, .int 0, .ref kT, .ref kU, .int 0, .int 0, .int 0])), (kN, .inl (cI, 2, .inl (fun _ => 0))), (kA, .inl (cI, 2, .inl (fun _ => 0))), (kO, .inl (cC, 20, .inl (upd (fun _ => 0) (10 + i) (vp_nar .char 0)))), (kK, .inl (cC, 20, .inl (fun _ => 0))), (kV, .inl (cI, 20, .inl (fun _ => 0))), (kG, .inl (cZ, 20, .inl (fun _ => 0))), (kP, .inl (cI, 60, .inl (fun _ => 0)))] _ := hP
        have hD : va_D A [(k0, .inr (9, [.ref kN, .ref kA, .ref kO, .ref kK, .ref kV, .ref kG, .ref kP, .ref kC, .ref kD, .ref kE, .ref kF, .ref kX, .ref kY, .int 0, .ref kT, .ref kU, .int 0, .int 0, .int 0])), (kN, .inl (cI, 2, .inl (fun _ => 0))), (kA, .inl (cI, 2, .inl (fun _ => 0))), (kO, .inl (cC, 20, .inl (upd (fun _ => 0) (10 + i) (vp_nar .char 0)))), (kK, .inl (cC, 20, .inl (fun _ => 0))), (kV, .inl (cI, 20, .inl (fun _ => 0))), (kG, .inl (cZ, 20, .inl (fun _ => 0))), (kP, .inl (cI, 60, .inl (fun _ => 0)))] := hD
        rw [show vp_nar .char 0 = 0 from rfl] at hP hD
        have hP : va_P (dC, dI) vwCl [(k0, .inr (9, [.ref kN, .ref kA, .ref kO, .ref kK, .ref kV, .ref kG, .ref kP, .ref kC, .ref kD, .ref kE, .ref kF, .ref kX, .ref kY, .int 0, .ref kT, .ref kU, .int 0, .int 0, .int 0])), (kN, .inl (cI, 2, .inl (fun _ => 0))), (kA, .inl (cI, 2, .inl (fun _ => 0))), (kO, .inl (cC, 20, .inl (upd (fun _ => 0) (10 + i) 0))), (kK, .inl (cC, 20, .inl (fun _ => 0))), (kV, .inl (cI, 20, .inl (fun _ => 0))), (kG, .inl (cZ, 20, .inl (fun _ => 0))), (kP, .inl (cI, 60, .inl (fun _ => 0)))] _ := hP
        have hD : va_D A [(k0, .inr (9, [.ref kN, .ref kA, .ref kO, .ref kK, .ref kV, .ref kG, .ref kP, .ref kC, .ref kD, .ref kE, .ref kF, .ref kX, .ref kY, .int 0, .ref kT, .ref kU, .int 0, .int 0, .int 0])), (kN, .inl (cI, 2, .inl (fun _ => 0))), (kA, .inl (cI, 2, .inl (fun _ => 0))), (kO, .inl (cC, 20, .inl (upd (fun _ => 0) (10 + i) 0))), (kK, .inl (cC, 20, .inl (fun _ => 0))), (kV, .inl (cI, 20, .inl (fun _ => 0))), (kG, .inl (cZ, 20, .inl (fun _ => 0))), (kP, .inl (cI, 60, .inl (fun _ => 0)))] := hD
        rw [fU_c] at hP hD
        have hP : va_P (dC, dI) vwCl [(k0, .inr (9, [.ref kN, .ref kA, .ref kO, .ref kK, .ref kV, .ref kG, .ref kP, .ref kC, .ref kD, .ref kE, .ref kF, .ref kX, .ref kY, .int 0, .ref kT, .ref kU, .int 0, .int 0, .int 0])), (kN, .inl (cI, 2, .inl (fun _ => 0))), (kA, .inl (cI, 2, .inl (fun _ => 0))), (kO, .inl (cC, 20, .inl (fun _ => 0))), (kK, .inl (cC, 20, .inl (fun _ => 0))), (kV, .inl (cI, 20, .inl (fun _ => 0))), (kG, .inl (cZ, 20, .inl (fun _ => 0))), (kP, .inl (cI, 60, .inl (fun _ => 0)))] _ := hP
        have hD : va_D A [(k0, .inr (9, [.ref kN, .ref kA, .ref kO, .ref kK, .ref kV, .ref kG, .ref kP, .ref kC, .ref kD, .ref kE, .ref kF, .ref kX, .ref kY, .int 0, .ref kT, .ref kU, .int 0, .int 0, .int 0])), (kN, .inl (cI, 2, .inl (fun _ => 0))), (kA, .inl (cI, 2, .inl (fun _ => 0))), (kO, .inl (cC, 20, .inl (fun _ => 0))), (kK, .inl (cC, 20, .inl (fun _ => 0))), (kV, .inl (cI, 20, .inl (fun _ => 0))), (kG, .inl (cZ, 20, .inl (fun _ => 0))), (kP, .inl (cI, 60, .inl (fun _ => 0)))] := hD
        refine lv_aload_n hx hb dX6_copyWished_52 rfl (lv_at hl 1 rfl) ?_
        refine va_get (D := (dC, dI)) (ci := 9) (v := .ref kK) (C := RX6) (T := TX6) (N := 19) hx hb hts (fun w h => List.mem_cons_of_mem _ (List.mem_append_left _ (List.mem_append_right _ (h)))) hown hK hP 0 rfl rfl 3 (by decide) (hts (.fieldLink RX6 20 "NetcompareModel" "kinds" "[C") (List.mem_cons_of_mem _ (List.mem_append_left _ (List.mem_append_left _ (List.mem_of_getElem? (i := 4) rfl))))) (fun _ h9 => h9) rfl dX6_copyWished_53 ?_
        refine lv_bipush (v := 10) hx hb dX6_copyWished_56 (by decide) ?_
        refine lv_iload_n hx hb dX6_copyWished_58 rfl (lv_at hl 0 rfl) ?_
        refine lv_iadd hx hb dX6_copyWished_59 ?_
        refine lv_topi (fun y2 ey2 => ?_)
        obtain rfl : y2 = nI (10 + i) := ey2.trans (nI_add 10 i)
        refine lv_aload_n hx hb dX6_copyWished_60 rfl (lv_at hl 1 rfl) ?_
        refine va_get (D := (dC, dI)) (ci := 9) (v := .ref kK) (C := RX6) (T := TX6) (N := 19) hx hb hts (fun w h => List.mem_cons_of_mem _ (List.mem_append_left _ (List.mem_append_right _ (h)))) hown hK hP 0 rfl rfl 3 (by decide) (hts (.fieldLink RX6 20 "NetcompareModel" "kinds" "[C") (List.mem_cons_of_mem _ (List.mem_append_left _ (List.mem_append_left _ (List.mem_of_getElem? (i := 4) rfl))))) (fun _ h9 => h9) rfl dX6_copyWished_61 ?_
        refine lv_iload_n hx hb dX6_copyWished_64 rfl (lv_at hl 0 rfl) ?_
        refine va_cald hx hb hK hP 4 1 rfl rfl (vp_in_nI (Nat.lt_of_lt_of_le hlt (by decide)) (by decide)) dX6_copyWished_65 ?_
        refine W.eq (g2 := F0 m 66 ls [.int 0, .int (nI (10 + i)), .ref kK]) rfl ?_
        refine va_cast hx hb hK hP hD hS 4 1 rfl rfl (vp_in_nI (show (10 + i) < 20 by omega) (by decide)) dX6_copyWished_66 (fun H locs hP hD hS => ?_)
        rw [nI_clamp (show (10 + i) < 2 ^ 31 by omega)] at hP hD
        have hP : va_P (dC, dI) vwCl [(k0, .inr (9, [.ref kN, .ref kA, .ref kO, .ref kK, .ref kV, .ref kG, .ref kP, .ref kC, .ref kD, .ref kE, .ref kF, .ref kX, .ref kY, .int 0, .ref kT, .ref kU, .int 0, .int 0, .int 0])), (kN, .inl (cI, 2, .inl (fun _ => 0))), (kA, .inl (cI, 2, .inl (fun _ => 0))), (kO, .inl (cC, 20, .inl (fun _ => 0))), (kK, .inl (cC, 20, .inl (upd (fun _ => 0) (10 + i) (vp_nar .char 0)))), (kV, .inl (cI, 20, .inl (fun _ => 0))), (kG, .inl (cZ, 20, .inl (fun _ => 0))), (kP, .inl (cI, 60, .inl (fun _ => 0)))] _ := hP
        have hD : va_D A [(k0, .inr (9, [.ref kN, .ref kA, .ref kO, .ref kK, .ref kV, .ref kG, .ref kP, .ref kC, .ref kD, .ref kE, .ref kF, .ref kX, .ref kY, .int 0, .ref kT, .ref kU, .int 0, .int 0, .int 0])), (kN, .inl (cI, 2, .inl (fun _ => 0))), (kA, .inl (cI, 2, .inl (fun _ => 0))), (kO, .inl (cC, 20, .inl (fun _ => 0))), (kK, .inl (cC, 20, .inl (upd (fun _ => 0) (10 + i) (vp_nar .char 0)))), (kV, .inl (cI, 20, .inl (fun _ => 0))), (kG, .inl (cZ, 20, .inl (fun _ => 0))), (kP, .inl (cI, 60, .inl (fun _ => 0)))] := hD
        rw [show vp_nar .char 0 = 0 from rfl] at hP hD
        have hP : va_P (dC, dI) vwCl [(k0, .inr (9, [.ref kN, .ref kA, .ref kO, .ref kK, .ref kV, .ref kG, .ref kP, .ref kC, .ref kD, .ref kE, .ref kF, .ref kX, .ref kY, .int 0, .ref kT, .ref kU, .int 0, .int 0, .int 0])), (kN, .inl (cI, 2, .inl (fun _ => 0))), (kA, .inl (cI, 2, .inl (fun _ => 0))), (kO, .inl (cC, 20, .inl (fun _ => 0))), (kK, .inl (cC, 20, .inl (upd (fun _ => 0) (10 + i) 0))), (kV, .inl (cI, 20, .inl (fun _ => 0))), (kG, .inl (cZ, 20, .inl (fun _ => 0))), (kP, .inl (cI, 60, .inl (fun _ => 0)))] _ := hP
        have hD : va_D A [(k0, .inr (9, [.ref kN, .ref kA, .ref kO, .ref kK, .ref kV, .ref kG, .ref kP, .ref kC, .ref kD, .ref kE, .ref kF, .ref kX, .ref kY, .int 0, .ref kT, .ref kU, .int 0, .int 0, .int 0])), (kN, .inl (cI, 2, .inl (fun _ => 0))), (kA, .inl (cI, 2, .inl (fun _ => 0))), (kO, .inl (cC, 20, .inl (fun _ => 0))), (kK, .inl (cC, 20, .inl (upd (fun _ => 0) (10 + i) 0))), (kV, .inl (cI, 20, .inl (fun _ => 0))), (kG, .inl (cZ, 20, .inl (fun _ => 0))), (kP, .inl (cI, 60, .inl (fun _ => 0)))] := hD
        rw [fU_c] at hP hD
        have hP : va_P (dC, dI) vwCl [(k0, .inr (9, [.ref kN, .ref kA, .ref kO, .ref kK, .ref kV, .ref kG, .ref kP, .ref kC, .ref kD, .ref kE, .ref kF, .ref kX, .ref kY, .int 0, .ref kT, .ref kU, .int 0, .int 0, .int 0])), (kN, .inl (cI, 2, .inl (fun _ => 0))), (kA, .inl (cI, 2, .inl (fun _ => 0))), (kO, .inl (cC, 20, .inl (fun _ => 0))), (kK, .inl (cC, 20, .inl (fun _ => 0))), (kV, .inl (cI, 20, .inl (fun _ => 0))), (kG, .inl (cZ, 20, .inl (fun _ => 0))), (kP, .inl (cI, 60, .inl (fun _ => 0)))] _ := hP
        have hD : va_D A [(k0, .inr (9, [.ref kN, .ref kA, .ref kO, .ref kK, .ref kV, .ref kG, .ref kP, .ref kC, .ref kD, .ref kE, .ref kF, .ref kX, .ref kY, .int 0, .ref kT, .ref kU, .int 0, .int 0, .int 0])), (kN, .inl (cI, 2, .inl (fun _ => 0))), (kA, .inl (cI, 2, .inl (fun _ => 0))), (kO, .inl (cC, 20, .inl (fun _ => 0))), (kK, .inl (cC, 20, .inl (fun _ => 0))), (kV, .inl (cI, 20, .inl (fun _ => 0))), (kG, .inl (cZ, 20, .inl (fun _ => 0))), (kP, .inl (cI, 60, .inl (fun _ => 0)))] := hD
        refine lv_aload_n hx hb dX6_copyWished_67 rfl (lv_at hl 1 rfl) ?_
        refine va_get (D := (dC, dI)) (ci := 9) (v := .ref kV) (C := RX6) (T := TX6) (N := 19) hx hb hts (fun w h => List.mem_cons_of_mem _ (List.mem_append_left _ (List.mem_append_right _ (h)))) hown hK hP 0 rfl rfl 4 (by decide) (hts (.fieldLink RX6 23 "NetcompareModel" "values" "[I") (List.mem_cons_of_mem _ (List.mem_append_left _ (List.mem_append_left _ (List.mem_of_getElem? (i := 5) rfl))))) (fun _ h9 => h9) rfl dX6_copyWished_68 ?_
        refine lv_bipush (v := 10) hx hb dX6_copyWished_71 (by decide) ?_
        refine lv_iload_n hx hb dX6_copyWished_73 rfl (lv_at hl 0 rfl) ?_
        refine lv_iadd hx hb dX6_copyWished_74 ?_
        refine lv_topi (fun y3 ey3 => ?_)
        obtain rfl : y3 = nI (10 + i) := ey3.trans (nI_add 10 i)
        refine lv_aload_n hx hb dX6_copyWished_75 rfl (lv_at hl 1 rfl) ?_
        refine va_get (D := (dC, dI)) (ci := 9) (v := .ref kV) (C := RX6) (T := TX6) (N := 19) hx hb hts (fun w h => List.mem_cons_of_mem _ (List.mem_append_left _ (List.mem_append_right _ (h)))) hown hK hP 0 rfl rfl 4 (by decide) (hts (.fieldLink RX6 23 "NetcompareModel" "values" "[I") (List.mem_cons_of_mem _ (List.mem_append_left _ (List.mem_append_left _ (List.mem_of_getElem? (i := 5) rfl))))) (fun _ h9 => h9) rfl dX6_copyWished_76 ?_
        refine lv_iload_n hx hb dX6_copyWished_79 rfl (lv_at hl 0 rfl) ?_
        refine va_iald hx hb hK hP 5 0 rfl rfl (vp_in_nI (Nat.lt_of_lt_of_le hlt (by decide)) (by decide)) dX6_copyWished_80 ?_
        refine W.eq (g2 := F0 m 81 ls [.int 0, .int (nI (10 + i)), .ref kV]) rfl ?_
        refine va_iast hx hb hK hP hD hS 5 0 rfl rfl (vp_in_nI (show (10 + i) < 20 by omega) (by decide)) dX6_copyWished_81 (fun H locs hP hD hS => ?_)
        rw [nI_clamp (show (10 + i) < 2 ^ 31 by omega)] at hP hD
        have hP : va_P (dC, dI) vwCl [(k0, .inr (9, [.ref kN, .ref kA, .ref kO, .ref kK, .ref kV, .ref kG, .ref kP, .ref kC, .ref kD, .ref kE, .ref kF, .ref kX, .ref kY, .int 0, .ref kT, .ref kU, .int 0, .int 0, .int 0])), (kN, .inl (cI, 2, .inl (fun _ => 0))), (kA, .inl (cI, 2, .inl (fun _ => 0))), (kO, .inl (cC, 20, .inl (fun _ => 0))), (kK, .inl (cC, 20, .inl (fun _ => 0))), (kV, .inl (cI, 20, .inl (upd (fun _ => 0) (10 + i) 0))), (kG, .inl (cZ, 20, .inl (fun _ => 0))), (kP, .inl (cI, 60, .inl (fun _ => 0)))] _ := hP
        have hD : va_D A [(k0, .inr (9, [.ref kN, .ref kA, .ref kO, .ref kK, .ref kV, .ref kG, .ref kP, .ref kC, .ref kD, .ref kE, .ref kF, .ref kX, .ref kY, .int 0, .ref kT, .ref kU, .int 0, .int 0, .int 0])), (kN, .inl (cI, 2, .inl (fun _ => 0))), (kA, .inl (cI, 2, .inl (fun _ => 0))), (kO, .inl (cC, 20, .inl (fun _ => 0))), (kK, .inl (cC, 20, .inl (fun _ => 0))), (kV, .inl (cI, 20, .inl (upd (fun _ => 0) (10 + i) 0))), (kG, .inl (cZ, 20, .inl (fun _ => 0))), (kP, .inl (cI, 60, .inl (fun _ => 0)))] := hD
        rw [fU_c] at hP hD
        have hP : va_P (dC, dI) vwCl [(k0, .inr (9, [.ref kN, .ref kA, .ref kO, .ref kK, .ref kV, .ref kG, .ref kP, .ref kC, .ref kD, .ref kE, .ref kF, .ref kX, .ref kY, .int 0, .ref kT, .ref kU, .int 0, .int 0, .int 0])), (kN, .inl (cI, 2, .inl (fun _ => 0))), (kA, .inl (cI, 2, .inl (fun _ => 0))), (kO, .inl (cC, 20, .inl (fun _ => 0))), (kK, .inl (cC, 20, .inl (fun _ => 0))), (kV, .inl (cI, 20, .inl (fun _ => 0))), (kG, .inl (cZ, 20, .inl (fun _ => 0))), (kP, .inl (cI, 60, .inl (fun _ => 0)))] _ := hP
        have hD : va_D A [(k0, .inr (9, [.ref kN, .ref kA, .ref kO, .ref kK, .ref kV, .ref kG, .ref kP, .ref kC, .ref kD, .ref kE, .ref kF, .ref kX, .ref kY, .int 0, .ref kT, .ref kU, .int 0, .int 0, .int 0])), (kN, .inl (cI, 2, .inl (fun _ => 0))), (kA, .inl (cI, 2, .inl (fun _ => 0))), (kO, .inl (cC, 20, .inl (fun _ => 0))), (kK, .inl (cC, 20, .inl (fun _ => 0))), (kV, .inl (cI, 20, .inl (fun _ => 0))), (kG, .inl (cZ, 20, .inl (fun _ => 0))), (kP, .inl (cI, 60, .inl (fun _ => 0)))] := hD
        refine lv_aload_n hx hb dX6_copyWished_82 rfl (lv_at hl 1 rfl) ?_
        refine va_get (D := (dC, dI)) (ci := 9) (v := .ref kG) (C := RX6) (T := TX6) (N := 19) hx hb hts (fun w h => List.mem_cons_of_mem _ (List.mem_append_left _ (List.mem_append_right _ (h)))) hown hK hP 0 rfl rfl 5 (by decide) (hts (.fieldLink RX6 26 "NetcompareModel" "isGone" "[Z") (List.mem_cons_of_mem _ (List.mem_append_left _ (List.mem_append_left _ (List.mem_of_getElem? (i := 6) rfl))))) (fun _ h9 => h9) rfl dX6_copyWished_83 ?_
        refine lv_bipush (v := 10) hx hb dX6_copyWished_86 (by decide) ?_
        refine lv_iload_n hx hb dX6_copyWished_88 rfl (lv_at hl 0 rfl) ?_
        refine lv_iadd hx hb dX6_copyWished_89 ?_
        refine lv_topi (fun y4 ey4 => ?_)
        obtain rfl : y4 = nI (10 + i) := ey4.trans (nI_add 10 i)
        refine lv_aload_n hx hb dX6_copyWished_90 rfl (lv_at hl 1 rfl) ?_
        refine va_get (D := (dC, dI)) (ci := 9) (v := .ref kG) (C := RX6) (T := TX6) (N := 19) hx hb hts (fun w h => List.mem_cons_of_mem _ (List.mem_append_left _ (List.mem_append_right _ (h)))) hown hK hP 0 rfl rfl 5 (by decide) (hts (.fieldLink RX6 26 "NetcompareModel" "isGone" "[Z") (List.mem_cons_of_mem _ (List.mem_append_left _ (List.mem_append_left _ (List.mem_of_getElem? (i := 6) rfl))))) (fun _ h9 => h9) rfl dX6_copyWished_91 ?_
        refine lv_iload_n hx hb dX6_copyWished_94 rfl (lv_at hl 0 rfl) ?_
        refine va_zald hx hb hK hP 6 2 rfl rfl (vp_in_nI (Nat.lt_of_lt_of_le hlt (by decide)) (by decide)) dX6_copyWished_95 ?_
        refine W.eq (g2 := F0 m 96 ls [.int 0, .int (nI (10 + i)), .ref kG]) rfl ?_
        refine va_zast hx hb hK hP hD hS 6 2 rfl rfl (vp_in_nI (show (10 + i) < 20 by omega) (by decide)) dX6_copyWished_96 (fun H locs hP hD hS => ?_)
        rw [nI_clamp (show (10 + i) < 2 ^ 31 by omega)] at hP hD
        have hP : va_P (dC, dI) vwCl [(k0, .inr (9, [.ref kN, .ref kA, .ref kO, .ref kK, .ref kV, .ref kG, .ref kP, .ref kC, .ref kD, .ref kE, .ref kF, .ref kX, .ref kY, .int 0, .ref kT, .ref kU, .int 0, .int 0, .int 0])), (kN, .inl (cI, 2, .inl (fun _ => 0))), (kA, .inl (cI, 2, .inl (fun _ => 0))), (kO, .inl (cC, 20, .inl (fun _ => 0))), (kK, .inl (cC, 20, .inl (fun _ => 0))), (kV, .inl (cI, 20, .inl (fun _ => 0))), (kG, .inl (cZ, 20, .inl (upd (fun _ => 0) (10 + i) (vp_nar .boolean 0)))), (kP, .inl (cI, 60, .inl (fun _ => 0)))] _ := hP
        have hD : va_D A [(k0, .inr (9, [.ref kN, .ref kA, .ref kO, .ref kK, .ref kV, .ref kG, .ref kP, .ref kC, .ref kD, .ref kE, .ref kF, .ref kX, .ref kY, .int 0, .ref kT, .ref kU, .int 0, .int 0, .int 0])), (kN, .inl (cI, 2, .inl (fun _ => 0))), (kA, .inl (cI, 2, .inl (fun _ => 0))), (kO, .inl (cC, 20, .inl (fun _ => 0))), (kK, .inl (cC, 20, .inl (fun _ => 0))), (kV, .inl (cI, 20, .inl (fun _ => 0))), (kG, .inl (cZ, 20, .inl (upd (fun _ => 0) (10 + i) (vp_nar .boolean 0)))), (kP, .inl (cI, 60, .inl (fun _ => 0)))] := hD
        rw [show vp_nar .boolean 0 = 0 from rfl] at hP hD
        have hP : va_P (dC, dI) vwCl [(k0, .inr (9, [.ref kN, .ref kA, .ref kO, .ref kK, .ref kV, .ref kG, .ref kP, .ref kC, .ref kD, .ref kE, .ref kF, .ref kX, .ref kY, .int 0, .ref kT, .ref kU, .int 0, .int 0, .int 0])), (kN, .inl (cI, 2, .inl (fun _ => 0))), (kA, .inl (cI, 2, .inl (fun _ => 0))), (kO, .inl (cC, 20, .inl (fun _ => 0))), (kK, .inl (cC, 20, .inl (fun _ => 0))), (kV, .inl (cI, 20, .inl (fun _ => 0))), (kG, .inl (cZ, 20, .inl (upd (fun _ => 0) (10 + i) 0))), (kP, .inl (cI, 60, .inl (fun _ => 0)))] _ := hP
        have hD : va_D A [(k0, .inr (9, [.ref kN, .ref kA, .ref kO, .ref kK, .ref kV, .ref kG, .ref kP, .ref kC, .ref kD, .ref kE, .ref kF, .ref kX, .ref kY, .int 0, .ref kT, .ref kU, .int 0, .int 0, .int 0])), (kN, .inl (cI, 2, .inl (fun _ => 0))), (kA, .inl (cI, 2, .inl (fun _ => 0))), (kO, .inl (cC, 20, .inl (fun _ => 0))), (kK, .inl (cC, 20, .inl (fun _ => 0))), (kV, .inl (cI, 20, .inl (fun _ => 0))), (kG, .inl (cZ, 20, .inl (upd (fun _ => 0) (10 + i) 0))), (kP, .inl (cI, 60, .inl (fun _ => 0)))] := hD
        rw [fU_c] at hP hD
        have hP : va_P (dC, dI) vwCl [(k0, .inr (9, [.ref kN, .ref kA, .ref kO, .ref kK, .ref kV, .ref kG, .ref kP, .ref kC, .ref kD, .ref kE, .ref kF, .ref kX, .ref kY, .int 0, .ref kT, .ref kU, .int 0, .int 0, .int 0])), (kN, .inl (cI, 2, .inl (fun _ => 0))), (kA, .inl (cI, 2, .inl (fun _ => 0))), (kO, .inl (cC, 20, .inl (fun _ => 0))), (kK, .inl (cC, 20, .inl (fun _ => 0))), (kV, .inl (cI, 20, .inl (fun _ => 0))), (kG, .inl (cZ, 20, .inl (fun _ => 0))), (kP, .inl (cI, 60, .inl (fun _ => 0)))] _ := hP
        have hD : va_D A [(k0, .inr (9, [.ref kN, .ref kA, .ref kO, .ref kK, .ref kV, .ref kG, .ref kP, .ref kC, .ref kD, .ref kE, .ref kF, .ref kX, .ref kY, .int 0, .ref kT, .ref kU, .int 0, .int 0, .int 0])), (kN, .inl (cI, 2, .inl (fun _ => 0))), (kA, .inl (cI, 2, .inl (fun _ => 0))), (kO, .inl (cC, 20, .inl (fun _ => 0))), (kK, .inl (cC, 20, .inl (fun _ => 0))), (kV, .inl (cI, 20, .inl (fun _ => 0))), (kG, .inl (cZ, 20, .inl (fun _ => 0))), (kP, .inl (cI, 60, .inl (fun _ => 0)))] := hD
        refine lv_iinc (v := (nI (i + 1))) (lv' := [(1, .int (nI (i + 1))), (0, .ref k0)]) hx hb dX6_copyWished_97 hl (k := 0) rfl (nI_1 _) (Nat.le_of_ble_eq_true rfl) rfl (fun ls hl => ?_)
        refine lv_goto (tgt := 31) hx hb dX6_copyWished_100 (by decide) ?_
        exact ih (i + 1) hlt (by omega) _ _ _ (lv_sub hl [0, 1] rfl) (hP.sub [0, 1, 2, 3, 4, 5, 6, 7] rfl) (hD.sub [0, 1, 2, 3, 4, 5, 6, 7] (by decide) rfl) hS
      · skip
        refine lv_iload_n hx hb dX6_copyWished_31 rfl (lv_at hl 0 rfl) ?_
        refine lv_bipush (v := 10) hx hb dX6_copyWished_32 (by decide) ?_
        refine lv_icmp_ge (tgt := 103) hx hb dX6_copyWished_34 (by decide) (fun _ => ?_) (fun h9 => absurd (show nI 10 ≤ nI i from nI_le hge (Nat.lt_of_le_of_lt hi (by decide))) h9)
        refine lv_iconst (v := 0) hx hb dX6_copyWished_103 (by decide) ?_
        refine lv_istore_n (lv' := [(1, .int 0), (0, .ref k0)]) hx hb dX6_copyWished_104 rfl hl (Nat.le_of_ble_eq_true rfl) rfl (fun ls hl => ?_)
        have lp105 : ∀ (n i : Nat), i ≤ 30 → 30 - i < n → ∀  (ls : Array Slot) (H : Heap) (locs : List Loc), lv_has ls 2 [(1, .int (nI i)), (0, .ref k0)] → va_P (dC, dI) vwCl [(k0, .inr (9, [.ref kN, .ref kA, .ref kO, .ref kK, .ref kV, .ref kG, .ref kP, .ref kC, .ref kD, .ref kE, .ref kF, .ref kX, .ref kY, .int 0, .ref kT, .ref kU, .int 0, .int 0, .int 0])), (kN, .inl (cI, 2, .inl (fun _ => 0))), (kA, .inl (cI, 2, .inl (fun _ => 0))), (kO, .inl (cC, 20, .inl (fun _ => 0))), (kK, .inl (cC, 20, .inl (fun _ => 0))), (kV, .inl (cI, 20, .inl (fun _ => 0))), (kG, .inl (cZ, 20, .inl (fun _ => 0))), (kP, .inl (cI, 60, .inl (fun _ => 0)))] H → va_D A [(k0, .inr (9, [.ref kN, .ref kA, .ref kO, .ref kK, .ref kV, .ref kG, .ref kP, .ref kC, .ref kD, .ref kE, .ref kF, .ref kX, .ref kY, .int 0, .ref kT, .ref kU, .int 0, .int 0, .int 0])), (kN, .inl (cI, 2, .inl (fun _ => 0))), (kA, .inl (cI, 2, .inl (fun _ => 0))), (kO, .inl (cC, 20, .inl (fun _ => 0))), (kK, .inl (cC, 20, .inl (fun _ => 0))), (kV, .inl (cI, 20, .inl (fun _ => 0))), (kG, .inl (cZ, 20, .inl (fun _ => 0))), (kP, .inl (cI, 60, .inl (fun _ => 0)))] → va_S A s.heap H locs → W p l e ({ frames := 1, cells := 0, slots := 0, locals := 23 } : Room) s m args below meth c H locs 0 0 Q (F0 m 105 ls []) := by
          intro n
          induction n with
          | zero => intro i _ h9; exact absurd h9 (Nat.not_lt_zero _)
          | succ n ih =>
            intro i hi ni  ls H locs hl hP hD hS
            rcases Nat.lt_or_ge i 30 with hlt | hge
            · skip
              refine lv_iload_n hx hb dX6_copyWished_105 rfl (lv_at hl 0 rfl) ?_
              refine lv_bipush (v := 30) hx hb dX6_copyWished_106 (by decide) ?_
              refine lv_icmp_ge (tgt := 132) hx hb dX6_copyWished_108 (by decide) (fun h9 => absurd h9 (show ¬ nI 30 ≤ nI i from nI_ge hlt (by decide))) (fun _ => ?_)
              refine lv_aload_n hx hb dX6_copyWished_111 rfl (lv_at hl 1 rfl) ?_
              refine va_get (D := (dC, dI)) (ci := 9) (v := .ref kP) (C := RX6) (T := TX6) (N := 19) hx hb hts (fun w h => List.mem_cons_of_mem _ (List.mem_append_left _ (List.mem_append_right _ (h)))) hown hK hP 0 rfl rfl 6 (by decide) (hts (.fieldLink RX6 30 "NetcompareModel" "pins" "[I") (List.mem_cons_of_mem _ (List.mem_append_left _ (List.mem_append_left _ (List.mem_of_getElem? (i := 7) rfl))))) (fun _ h9 => h9) rfl dX6_copyWished_112 ?_
              refine lv_bipush (v := 30) hx hb dX6_copyWished_115 (by decide) ?_
              refine lv_iload_n hx hb dX6_copyWished_117 rfl (lv_at hl 0 rfl) ?_
              refine lv_iadd hx hb dX6_copyWished_118 ?_
              refine lv_topi (fun y5 ey5 => ?_)
              obtain rfl : y5 = nI (30 + i) := ey5.trans (nI_add 30 i)
              refine lv_aload_n hx hb dX6_copyWished_119 rfl (lv_at hl 1 rfl) ?_
              refine va_get (D := (dC, dI)) (ci := 9) (v := .ref kP) (C := RX6) (T := TX6) (N := 19) hx hb hts (fun w h => List.mem_cons_of_mem _ (List.mem_append_left _ (List.mem_append_right _ (h)))) hown hK hP 0 rfl rfl 6 (by decide) (hts (.fieldLink RX6 30 "NetcompareModel" "pins" "[I") (List.mem_cons_of_mem _ (List.mem_append_left _ (List.mem_append_left _ (List.mem_of_getElem? (i := 7) rfl))))) (fun _ h9 => h9) rfl dX6_copyWished_120 ?_
              refine lv_iload_n hx hb dX6_copyWished_123 rfl (lv_at hl 0 rfl) ?_
              refine va_iald hx hb hK hP 7 0 rfl rfl (vp_in_nI (Nat.lt_of_lt_of_le hlt (by decide)) (by decide)) dX6_copyWished_124 ?_
              refine W.eq (g2 := F0 m 125 ls [.int 0, .int (nI (30 + i)), .ref kP]) rfl ?_
              refine va_iast hx hb hK hP hD hS 7 0 rfl rfl (vp_in_nI (show (30 + i) < 60 by omega) (by decide)) dX6_copyWished_125 (fun H locs hP hD hS => ?_)
              rw [nI_clamp (show (30 + i) < 2 ^ 31 by omega)] at hP hD
              have hP : va_P (dC, dI) vwCl [(k0, .inr (9, [.ref kN, .ref kA, .ref kO, .ref kK, .ref kV, .ref kG, .ref kP, .ref kC, .ref kD, .ref kE, .ref kF, .ref kX, .ref kY, .int 0, .ref kT, .ref kU, .int 0, .int 0, .int 0])), (kN, .inl (cI, 2, .inl (fun _ => 0))), (kA, .inl (cI, 2, .inl (fun _ => 0))), (kO, .inl (cC, 20, .inl (fun _ => 0))), (kK, .inl (cC, 20, .inl (fun _ => 0))), (kV, .inl (cI, 20, .inl (fun _ => 0))), (kG, .inl (cZ, 20, .inl (fun _ => 0))), (kP, .inl (cI, 60, .inl (upd (fun _ => 0) (30 + i) 0)))] _ := hP
              have hD : va_D A [(k0, .inr (9, [.ref kN, .ref kA, .ref kO, .ref kK, .ref kV, .ref kG, .ref kP, .ref kC, .ref kD, .ref kE, .ref kF, .ref kX, .ref kY, .int 0, .ref kT, .ref kU, .int 0, .int 0, .int 0])), (kN, .inl (cI, 2, .inl (fun _ => 0))), (kA, .inl (cI, 2, .inl (fun _ => 0))), (kO, .inl (cC, 20, .inl (fun _ => 0))), (kK, .inl (cC, 20, .inl (fun _ => 0))), (kV, .inl (cI, 20, .inl (fun _ => 0))), (kG, .inl (cZ, 20, .inl (fun _ => 0))), (kP, .inl (cI, 60, .inl (upd (fun _ => 0) (30 + i) 0)))] := hD
              rw [fU_c] at hP hD
              have hP : va_P (dC, dI) vwCl [(k0, .inr (9, [.ref kN, .ref kA, .ref kO, .ref kK, .ref kV, .ref kG, .ref kP, .ref kC, .ref kD, .ref kE, .ref kF, .ref kX, .ref kY, .int 0, .ref kT, .ref kU, .int 0, .int 0, .int 0])), (kN, .inl (cI, 2, .inl (fun _ => 0))), (kA, .inl (cI, 2, .inl (fun _ => 0))), (kO, .inl (cC, 20, .inl (fun _ => 0))), (kK, .inl (cC, 20, .inl (fun _ => 0))), (kV, .inl (cI, 20, .inl (fun _ => 0))), (kG, .inl (cZ, 20, .inl (fun _ => 0))), (kP, .inl (cI, 60, .inl (fun _ => 0)))] _ := hP
              have hD : va_D A [(k0, .inr (9, [.ref kN, .ref kA, .ref kO, .ref kK, .ref kV, .ref kG, .ref kP, .ref kC, .ref kD, .ref kE, .ref kF, .ref kX, .ref kY, .int 0, .ref kT, .ref kU, .int 0, .int 0, .int 0])), (kN, .inl (cI, 2, .inl (fun _ => 0))), (kA, .inl (cI, 2, .inl (fun _ => 0))), (kO, .inl (cC, 20, .inl (fun _ => 0))), (kK, .inl (cC, 20, .inl (fun _ => 0))), (kV, .inl (cI, 20, .inl (fun _ => 0))), (kG, .inl (cZ, 20, .inl (fun _ => 0))), (kP, .inl (cI, 60, .inl (fun _ => 0)))] := hD
              refine lv_iinc (v := (nI (i + 1))) (lv' := [(1, .int (nI (i + 1))), (0, .ref k0)]) hx hb dX6_copyWished_126 hl (k := 0) rfl (nI_1 _) (Nat.le_of_ble_eq_true rfl) rfl (fun ls hl => ?_)
              refine lv_goto (tgt := 105) hx hb dX6_copyWished_129 (by decide) ?_
              exact ih (i + 1) hlt (by omega) _ _ _ (lv_sub hl [0, 1] rfl) (hP.sub [0, 1, 2, 3, 4, 5, 6, 7] rfl) (hD.sub [0, 1, 2, 3, 4, 5, 6, 7] (by decide) rfl) hS
            · skip
              refine lv_iload_n hx hb dX6_copyWished_105 rfl (lv_at hl 0 rfl) ?_
              refine lv_bipush (v := 30) hx hb dX6_copyWished_106 (by decide) ?_
              refine lv_icmp_ge (tgt := 132) hx hb dX6_copyWished_108 (by decide) (fun _ => ?_) (fun h9 => absurd (show nI 30 ≤ nI i from nI_le hge (Nat.lt_of_le_of_lt hi (by decide))) h9)
              refine lv_aload_n hx hb dX6_copyWished_132 rfl (lv_at hl 1 rfl) ?_
              refine lv_iconst (v := 1) hx hb dX6_copyWished_133 (by decide) ?_
              have hPc := hP.sub (ws' := [(k0, .inr (9, [.ref kN, .ref kA, .ref kO, .ref kK, .ref kV, .ref kG, .ref kP, .ref kC, .ref kD, .ref kE, .ref kF, .ref kX, .ref kY, .int 0, .ref kT, .ref kU, .int 0, .int 0, .int 0])), (kA, .inl (cI, 2, .inl (fun _ => 0)))]) [0, 2] rfl
              have hDc := hD.sub (ws' := [(k0, .inr (9, [.ref kN, .ref kA, .ref kO, .ref kK, .ref kV, .ref kG, .ref kP, .ref kC, .ref kD, .ref kE, .ref kF, .ref kX, .ref kY, .int 0, .ref kT, .ref kU, .int 0, .int 0, .int 0])), (kA, .inl (cI, 2, .inl (fun _ => 0)))]) [0, 2] (by decide) rfl
              have hKc := hK.sub (tys' := [(cI, .int)]) [0] rfl
              have hFc := va_free (wc := [(k0, .inr (9, [.ref kN, .ref kA, .ref kO, .ref kK, .ref kV, .ref kG, .ref kP, .ref kC, .ref kD, .ref kE, .ref kF, .ref kX, .ref kY, .int 0, .ref kT, .ref kU, .int 0, .int 0, .int 0])), (kA, .inl (cI, 2, .inl (fun _ => 0)))]) hD hS hA [0, 2] rfl
              refine va_calli (va_runV (As := [.int 1]) (rest := []) ⟨hx, hb, hml, hown, hts⟩ (kX6_partMany1 l dC dI k0 kN kA kO kK kV kG kP kC kD kE kF kX kY kT kU cI H.size) (cwV 1 hts gX6_copyWished_X6_partMany rfl rfl rfl (by decide +kernel) ⟨Nat.le_of_ble_eq_true rfl, Nat.le_of_ble_eq_true rfl⟩) (fPreV hN hZ hS (fun q h => hFc q h) hPc hKc hDc (ci := 9) (q0 := 0) rfl rfl) rfl rfl hl.1 rfl (lv_room (Nat.le_of_ble_eq_true rfl)) dX6_copyWished_134 ⟨Nat.le_of_ble_eq_true rfl, Nat.le_of_ble_eq_true rfl⟩) hS (fun q _ h => hFc q h) hFc (fun r u t H1 locs ht hvm hw hB hz1 hk1 hS => ?_)
              obtain ⟨hP1, hK1, hD1⟩ := hB
              rw [ht] at hP1
              have hK1 := va_K.moved hvm.symm hK1
              obtain ⟨hP, hD⟩ := va_join (wr := [(kN, .inl (cI, 2, .inl (fun _ => 0))), (kO, .inl (cC, 20, .inl (fun _ => 0))), (kK, .inl (cC, 20, .inl (fun _ => 0))), (kV, .inl (cI, 20, .inl (fun _ => 0))), (kG, .inl (cZ, 20, .inl (fun _ => 0))), (kP, .inl (cI, 60, .inl (fun _ => 0)))]) (w1 := [(k0, .inr (9, [.ref kN, .ref kA, .ref kO, .ref kK, .ref kV, .ref kG, .ref kP, .ref kC, .ref kD, .ref kE, .ref kF, .ref kX, .ref kY, .int 0, .ref kT, .ref kU, .int 0, .int 0, .int 0])), (kA, .inl (cI, 2, .inl (fun _ => 0)))]) hP hD [0, 2] [1, 3, 4, 5, 6, 7] rfl rfl (by decide) (by decide) hk1 hFc hP1 hD1
              generalize H1 = H at hP hS ⊢
              have hP : va_P (dC, dI) vwCl [(kN, .inl (cI, 2, .inl (fun _ => 0))), (kO, .inl (cC, 20, .inl (fun _ => 0))), (kK, .inl (cC, 20, .inl (fun _ => 0))), (kV, .inl (cI, 20, .inl (fun _ => 0))), (kG, .inl (cZ, 20, .inl (fun _ => 0))), (kP, .inl (cI, 60, .inl (fun _ => 0))), (k0, .inr (9, [.ref kN, .ref kA, .ref kO, .ref kK, .ref kV, .ref kG, .ref kP, .ref kC, .ref kD, .ref kE, .ref kF, .ref kX, .ref kY, .int 0, .ref kT, .ref kU, .int 0, .int 0, .int 0])), (kA, .inl (cI, 2, .inl (fun _ => 0)))] _ := hP
              have hD : va_D A [(kN, .inl (cI, 2, .inl (fun _ => 0))), (kO, .inl (cC, 20, .inl (fun _ => 0))), (kK, .inl (cC, 20, .inl (fun _ => 0))), (kV, .inl (cI, 20, .inl (fun _ => 0))), (kG, .inl (cZ, 20, .inl (fun _ => 0))), (kP, .inl (cI, 60, .inl (fun _ => 0))), (k0, .inr (9, [.ref kN, .ref kA, .ref kO, .ref kK, .ref kV, .ref kG, .ref kP, .ref kC, .ref kD, .ref kE, .ref kF, .ref kX, .ref kY, .int 0, .ref kT, .ref kU, .int 0, .int 0, .int 0])), (kA, .inl (cI, 2, .inl (fun _ => 0)))] := hD
              subst hw
              exact ret _ 0 _ _ _ _ _ _ (⟨rfl, rfl⟩) (hP.sub [6] rfl) (hK.sub [] rfl) (hD.sub [6] (by decide) rfl) hS (Nat.le_of_ble_eq_true rfl) (Nat.le_of_ble_eq_true rfl) dX6_copyWished_137
        exact lp105 (30 + 1) 0 (Nat.le_of_ble_eq_true rfl) (by decide) _ _ _ (lv_sub hl [0, 1] rfl) (hP.sub [0, 1, 2, 3, 4, 5, 6, 7] rfl) (hD.sub [0, 1, 2, 3, 4, 5, 6, 7] (by decide) rfl) hS
  exact lp31 (10 + 1) 0 (Nat.le_of_ble_eq_true rfl) (by decide) _ _ _ (lv_sub hl [0, 1] rfl) (hP.sub [0, 1, 2, 3, 4, 5, 6, 7] rfl) (hD.sub [0, 1, 2, 3, 4, 5, 6, 7] (by decide) rfl) hS

set_option maxHeartbeats 4000000 in
set_option maxRecDepth 100000 in
/-- the model: joinAll on a fresh one -/
theorem kX6_joinAll (l : Launch) (dC : Nat → ClassId) (dI : Nat → Nat → Nat) (k0 kN kA kO kK kV kG kP kC kD kE kF kX kY kT kU : Nat) (cI : ClassId) (p0 : Int32) (sz : Nat) : fMi l yX6_joinAll wsX6_joinAll ({ frames := 1, cells := 0, slots := 0, locals := 23 } : Room) dC dI [.ref k0, .int p0] [(k0, .inr (9, [.ref kN, .ref kA, .ref kO, .ref kK, .ref kV, .ref kG, .ref kP, .ref kC, .ref kD, .ref kE, .ref kF, .ref kX, .ref kY, .int 0, .ref kT, .ref kU, .int 0, .int 0, .int 0])), (kN, .inl (cI, 2, .inl (fun _ => 0))), (kA, .inl (cI, 2, .inl (fun _ => 0)))] [(cI, .int)] sz (fun (r : Int32) (u : Int32) => u = 0 ∧ r = 0 ∧ ((p0 = 0) ∨ (p0 = 1)) ∨ u = 1 ∧ (¬ ((p0 = 0) ∨ (p0 = 1)))) (fun u => [(k0, .inr (9, [.ref kN, .ref kA, .ref kO, .ref kK, .ref kV, .ref kG, .ref kP, .ref kC, .ref kD, .ref kE, .ref kF, .ref kX, .ref kY, .int 0, .ref kT, .ref kU, .int u, .int 0, .int 0]))]) (fun u => []) := by
  refine oP_i (y := yX6_joinAll) (cc := cX6_joinAll) (maxL := 4) (by decide) rfl (Nat.le_of_ble_eq_true rfl) ?_
  intro p e s m args below meth c ls A Q hx hb hr hml hown hts hN hZ hA hin hlk hP hK hD hl ret
  have hS : va_S A s.heap s.heap [] := va_S.rf
  have hl : lv_has ls 4 [(0, .ref k0), (1, .int p0)] := hl
  have hP : va_P (dC, dI) vwCl [(k0, .inr (9, [.ref kN, .ref kA, .ref kO, .ref kK, .ref kV, .ref kG, .ref kP, .ref kC, .ref kD, .ref kE, .ref kF, .ref kX, .ref kY, .int 0, .ref kT, .ref kU, .int 0, .int 0, .int 0])), (kN, .inl (cI, 2, .inl (fun _ => 0))), (kA, .inl (cI, 2, .inl (fun _ => 0)))] _ := hP
  have hD : va_D A [(k0, .inr (9, [.ref kN, .ref kA, .ref kO, .ref kK, .ref kV, .ref kG, .ref kP, .ref kC, .ref kD, .ref kE, .ref kF, .ref kX, .ref kY, .int 0, .ref kT, .ref kU, .int 0, .int 0, .int 0])), (kN, .inl (cI, 2, .inl (fun _ => 0))), (kA, .inl (cI, 2, .inl (fun _ => 0)))] := hD
  refine lv_aload_n hx hb dX6_joinAll_0 rfl (lv_at hl 0 rfl) ?_
  refine lv_iload_n hx hb dX6_joinAll_1 rfl (lv_at hl 1 rfl) ?_
  have hPc := hP.sub (ws' := []) [] rfl
  have hDc := hD.sub (ws' := []) [] (by decide) rfl
  have hKc := hK.sub (tys' := []) [] rfl
  have hFc := va_free (wc := []) hD hS hA [] rfl
  refine va_calli (va_runS (As := [.int p0]) (rest := [.ref k0]) ⟨hx, hb, hml, hown, hts⟩ (kX6_isCircuit l dC dI p0 s.heap.size) (va_cwS 1 hts gX6_joinAll_X6_isCircuit rfl rfl rfl (by decide +kernel) ⟨Nat.le_of_ble_eq_true rfl, Nat.le_of_ble_eq_true rfl⟩) (fPreS hN hZ hS (fun q h => hFc q h) hPc hKc hDc) rfl rfl hl.1 rfl (lv_room (Nat.le_of_ble_eq_true rfl)) dX6_joinAll_2 ⟨Nat.le_of_ble_eq_true rfl, Nat.le_of_ble_eq_true rfl⟩) hS (fun q _ h => hFc q h) hFc (fun r u t H1 locs ht hvm hw hB hz1 hk1 hS => ?_)
  obtain ⟨hP1, hK1, hD1⟩ := hB
  rw [ht] at hP1
  have hK1 := va_K.moved hvm.symm hK1
  obtain ⟨hP, hD⟩ := va_join (wr := [(k0, .inr (9, [.ref kN, .ref kA, .ref kO, .ref kK, .ref kV, .ref kG, .ref kP, .ref kC, .ref kD, .ref kE, .ref kF, .ref kX, .ref kY, .int 0, .ref kT, .ref kU, .int 0, .int 0, .int 0])), (kN, .inl (cI, 2, .inl (fun _ => 0))), (kA, .inl (cI, 2, .inl (fun _ => 0)))]) (w1 := []) hP hD [] [0, 1, 2] rfl rfl (by decide) (by decide) hk1 hFc hP1 hD1
  generalize H1 = H at hP hS ⊢
  have hP : va_P (dC, dI) vwCl [(k0, .inr (9, [.ref kN, .ref kA, .ref kO, .ref kK, .ref kV, .ref kG, .ref kP, .ref kC, .ref kD, .ref kE, .ref kF, .ref kX, .ref kY, .int 0, .ref kT, .ref kU, .int 0, .int 0, .int 0])), (kN, .inl (cI, 2, .inl (fun _ => 0))), (kA, .inl (cI, 2, .inl (fun _ => 0)))] _ := hP
  have hD : va_D A [(k0, .inr (9, [.ref kN, .ref kA, .ref kO, .ref kK, .ref kV, .ref kG, .ref kP, .ref kC, .ref kD, .ref kE, .ref kF, .ref kX, .ref kY, .int 0, .ref kT, .ref kU, .int 0, .int 0, .int 0])), (kN, .inl (cI, 2, .inl (fun _ => 0))), (kA, .inl (cI, 2, .inl (fun _ => 0)))] := hD
  rcases hw with ⟨rfl, hc | hc⟩ | ⟨rfl, hc⟩
  · skip
    subst hc
    have hP : va_P (dC, dI) vwCl [(k0, .inr (9, [.ref kN, .ref kA, .ref kO, .ref kK, .ref kV, .ref kG, .ref kP, .ref kC, .ref kD, .ref kE, .ref kF, .ref kX, .ref kY, .int 0, .ref kT, .ref kU, .int 0, .int 0, .int 0])), (kN, .inl (cI, 2, .inl (fun _ => 0))), (kA, .inl (cI, 2, .inl (fun _ => 0)))] _ := hP
    have hD : va_D A [(k0, .inr (9, [.ref kN, .ref kA, .ref kO, .ref kK, .ref kV, .ref kG, .ref kP, .ref kC, .ref kD, .ref kE, .ref kF, .ref kX, .ref kY, .int 0, .ref kT, .ref kU, .int 0, .int 0, .int 0])), (kN, .inl (cI, 2, .inl (fun _ => 0))), (kA, .inl (cI, 2, .inl (fun _ => 0)))] := hD
    refine lv_if_eq (tgt := 12) hx hb dX6_joinAll_5 (by decide) (fun h9 => absurd h9 (by decide)) (fun _ => ?_)
    refine lv_iconst (v := 0) hx hb dX6_joinAll_8 (by decide) ?_
    refine lv_goto (tgt := 13) hx hb dX6_joinAll_9 (by decide) ?_
    refine va_put (D := (dC, dI)) (ci := 9) (v := .int 0) (ty := .int) (C := RX6) (T := TX6) (N := 19) hx hb hts (fun w h => List.mem_cons_of_mem _ (List.mem_append_left _ (List.mem_append_left _ (List.mem_append_right _ (h))))) tyX6 tyX6_ok nmX6 hown hK hP hD hS 0 rfl rfl 16 (by decide) (hts (.fieldLink RX6 57 "NetcompareModel" "thrown" "I") (List.mem_cons_of_mem _ (List.mem_append_left _ (List.mem_append_left _ (List.mem_append_left _ (List.mem_append_left _ (List.mem_of_getElem? (i := 0) rfl))))))) (fun _ h9 => h9) rfl (by decide +kernel) rfl rfl (Nat.le_of_ble_eq_true rfl) dX6_joinAll_13 (fun H locs hP hD hS => ?_)
    have hP : va_P (dC, dI) vwCl [(k0, .inr (9, [.ref kN, .ref kA, .ref kO, .ref kK, .ref kV, .ref kG, .ref kP, .ref kC, .ref kD, .ref kE, .ref kF, .ref kX, .ref kY, .int 0, .ref kT, .ref kU, .int 0, .int 0, .int 0])), (kN, .inl (cI, 2, .inl (fun _ => 0))), (kA, .inl (cI, 2, .inl (fun _ => 0)))] _ := hP
    have hD : va_D A [(k0, .inr (9, [.ref kN, .ref kA, .ref kO, .ref kK, .ref kV, .ref kG, .ref kP, .ref kC, .ref kD, .ref kE, .ref kF, .ref kX, .ref kY, .int 0, .ref kT, .ref kU, .int 0, .int 0, .int 0])), (kN, .inl (cI, 2, .inl (fun _ => 0))), (kA, .inl (cI, 2, .inl (fun _ => 0)))] := hD
    refine lv_aload_n hx hb dX6_joinAll_16 rfl (lv_at hl 0 rfl) ?_
    refine va_get (D := (dC, dI)) (ci := 9) (v := .int 0) (C := RX6) (T := TX6) (N := 19) hx hb hts (fun w h => List.mem_cons_of_mem _ (List.mem_append_left _ (List.mem_append_left _ (List.mem_append_right _ (h))))) hown hK hP 0 rfl rfl 16 (by decide) (hts (.fieldLink RX6 57 "NetcompareModel" "thrown" "I") (List.mem_cons_of_mem _ (List.mem_append_left _ (List.mem_append_left _ (List.mem_append_left _ (List.mem_append_left _ (List.mem_of_getElem? (i := 0) rfl))))))) (fun _ h9 => h9) rfl dX6_joinAll_17 ?_
    refine lv_if_ne (tgt := 27) hx hb dX6_joinAll_20 (by decide) (fun h9 => absurd (by decide) h9) (fun _ => ?_)
    refine lv_iconst (v := 0) hx hb dX6_joinAll_23 (by decide) ?_
    refine lv_goto (tgt := 28) hx hb dX6_joinAll_24 (by decide) ?_
    refine lv_istore_n (lv' := [(2, .int 0), (0, .ref k0), (1, .int 0)]) hx hb dX6_joinAll_28 rfl hl (Nat.le_of_ble_eq_true rfl) rfl (fun ls hl => ?_)
    refine lv_aload_n hx hb dX6_joinAll_29 rfl (lv_at hl 1 rfl) ?_
    refine va_get (D := (dC, dI)) (ci := 9) (v := .int 0) (C := RX6) (T := TX6) (N := 19) hx hb hts (fun w h => List.mem_cons_of_mem _ (List.mem_append_left _ (List.mem_append_left _ (List.mem_append_right _ (h))))) hown hK hP 0 rfl rfl 16 (by decide) (hts (.fieldLink RX6 57 "NetcompareModel" "thrown" "I") (List.mem_cons_of_mem _ (List.mem_append_left _ (List.mem_append_left _ (List.mem_append_left _ (List.mem_append_left _ (List.mem_of_getElem? (i := 0) rfl))))))) (fun _ h9 => h9) rfl dX6_joinAll_30 ?_
    refine lv_if_ne (tgt := 71) hx hb dX6_joinAll_33 (by decide) (fun h9 => absurd (by decide) h9) (fun _ => ?_)
    refine lv_aload_n hx hb dX6_joinAll_36 rfl (lv_at hl 1 rfl) ?_
    refine lv_iload_n hx hb dX6_joinAll_37 rfl (lv_at hl 2 rfl) ?_
    have hPc := hP.sub (ws' := [(k0, .inr (9, [.ref kN, .ref kA, .ref kO, .ref kK, .ref kV, .ref kG, .ref kP, .ref kC, .ref kD, .ref kE, .ref kF, .ref kX, .ref kY, .int 0, .ref kT, .ref kU, .int 0, .int 0, .int 0])), (kA, .inl (cI, 2, .inl (fun _ => 0)))]) [0, 2] rfl
    have hDc := hD.sub (ws' := [(k0, .inr (9, [.ref kN, .ref kA, .ref kO, .ref kK, .ref kV, .ref kG, .ref kP, .ref kC, .ref kD, .ref kE, .ref kF, .ref kX, .ref kY, .int 0, .ref kT, .ref kU, .int 0, .int 0, .int 0])), (kA, .inl (cI, 2, .inl (fun _ => 0)))]) [0, 2] (by decide) rfl
    have hKc := hK.sub (tys' := [(cI, .int)]) [0] rfl
    have hFc := va_free (wc := [(k0, .inr (9, [.ref kN, .ref kA, .ref kO, .ref kK, .ref kV, .ref kG, .ref kP, .ref kC, .ref kD, .ref kE, .ref kF, .ref kX, .ref kY, .int 0, .ref kT, .ref kU, .int 0, .int 0, .int 0])), (kA, .inl (cI, 2, .inl (fun _ => 0)))]) hD hS hA [0, 2] rfl
    refine va_calli (va_runV (As := [.int 0]) (rest := []) ⟨hx, hb, hml, hown, hts⟩ (kX6_firstPair0 l dC dI k0 kN kA kO kK kV kG kP kC kD kE kF kX kY kT kU cI H.size) (cwV 1 hts gX6_joinAll_X6_firstPair rfl rfl rfl (by decide +kernel) ⟨Nat.le_of_ble_eq_true rfl, Nat.le_of_ble_eq_true rfl⟩) (fPreV hN hZ hS (fun q h => hFc q h) hPc hKc hDc (ci := 9) (q0 := 0) rfl rfl) rfl rfl hl.1 rfl (lv_room (Nat.le_of_ble_eq_true rfl)) dX6_joinAll_38 ⟨Nat.le_of_ble_eq_true rfl, Nat.le_of_ble_eq_true rfl⟩) hS (fun q _ h => hFc q h) hFc (fun r u t H1 locs ht hvm hw hB hz1 hk1 hS => ?_)
    obtain ⟨hP1, hK1, hD1⟩ := hB
    rw [ht] at hP1
    have hK1 := va_K.moved hvm.symm hK1
    obtain ⟨hP, hD⟩ := va_join (wr := [(kN, .inl (cI, 2, .inl (fun _ => 0)))]) (w1 := [(k0, .inr (9, [.ref kN, .ref kA, .ref kO, .ref kK, .ref kV, .ref kG, .ref kP, .ref kC, .ref kD, .ref kE, .ref kF, .ref kX, .ref kY, .int 0, .ref kT, .ref kU, .int 0, .int 0, .int 0])), (kA, .inl (cI, 2, .inl (fun _ => 0)))]) hP hD [0, 2] [1] rfl rfl (by decide) (by decide) hk1 hFc hP1 hD1
    generalize H1 = H at hP hS ⊢
    have hP : va_P (dC, dI) vwCl [(kN, .inl (cI, 2, .inl (fun _ => 0))), (k0, .inr (9, [.ref kN, .ref kA, .ref kO, .ref kK, .ref kV, .ref kG, .ref kP, .ref kC, .ref kD, .ref kE, .ref kF, .ref kX, .ref kY, .int 0, .ref kT, .ref kU, .int 0, .int 0, .int 0])), (kA, .inl (cI, 2, .inl (fun _ => 0)))] _ := hP
    have hD : va_D A [(kN, .inl (cI, 2, .inl (fun _ => 0))), (k0, .inr (9, [.ref kN, .ref kA, .ref kO, .ref kK, .ref kV, .ref kG, .ref kP, .ref kC, .ref kD, .ref kE, .ref kF, .ref kX, .ref kY, .int 0, .ref kT, .ref kU, .int 0, .int 0, .int 0])), (kA, .inl (cI, 2, .inl (fun _ => 0)))] := hD
    subst hw
    refine lv_iconst (v := (-1)) hx hb dX6_joinAll_41 (by decide) ?_
    refine lv_icmp_eq (tgt := 71) hx hb dX6_joinAll_42 (by decide) (fun _ => ?_) (fun h9 => absurd (by decide) h9)
    refine lv_iload_n hx hb dX6_joinAll_71 rfl (lv_at hl 0 rfl) ?_
    exact ret _ 0 _ _ _ _ _ _ (Or.inl (⟨rfl, rfl, Or.inl (rfl)⟩)) (hP.sub [1] rfl) (hK.sub [] rfl) (hD.sub [1] (by decide) rfl) hS (Nat.le_of_ble_eq_true rfl) (Nat.le_of_ble_eq_true rfl) dX6_joinAll_72
  · skip
    subst hc
    have hP : va_P (dC, dI) vwCl [(k0, .inr (9, [.ref kN, .ref kA, .ref kO, .ref kK, .ref kV, .ref kG, .ref kP, .ref kC, .ref kD, .ref kE, .ref kF, .ref kX, .ref kY, .int 0, .ref kT, .ref kU, .int 0, .int 0, .int 0])), (kN, .inl (cI, 2, .inl (fun _ => 0))), (kA, .inl (cI, 2, .inl (fun _ => 0)))] _ := hP
    have hD : va_D A [(k0, .inr (9, [.ref kN, .ref kA, .ref kO, .ref kK, .ref kV, .ref kG, .ref kP, .ref kC, .ref kD, .ref kE, .ref kF, .ref kX, .ref kY, .int 0, .ref kT, .ref kU, .int 0, .int 0, .int 0])), (kN, .inl (cI, 2, .inl (fun _ => 0))), (kA, .inl (cI, 2, .inl (fun _ => 0)))] := hD
    refine lv_if_eq (tgt := 12) hx hb dX6_joinAll_5 (by decide) (fun h9 => absurd h9 (by decide)) (fun _ => ?_)
    refine lv_iconst (v := 0) hx hb dX6_joinAll_8 (by decide) ?_
    refine lv_goto (tgt := 13) hx hb dX6_joinAll_9 (by decide) ?_
    refine va_put (D := (dC, dI)) (ci := 9) (v := .int 0) (ty := .int) (C := RX6) (T := TX6) (N := 19) hx hb hts (fun w h => List.mem_cons_of_mem _ (List.mem_append_left _ (List.mem_append_left _ (List.mem_append_right _ (h))))) tyX6 tyX6_ok nmX6 hown hK hP hD hS 0 rfl rfl 16 (by decide) (hts (.fieldLink RX6 57 "NetcompareModel" "thrown" "I") (List.mem_cons_of_mem _ (List.mem_append_left _ (List.mem_append_left _ (List.mem_append_left _ (List.mem_append_left _ (List.mem_of_getElem? (i := 0) rfl))))))) (fun _ h9 => h9) rfl (by decide +kernel) rfl rfl (Nat.le_of_ble_eq_true rfl) dX6_joinAll_13 (fun H locs hP hD hS => ?_)
    have hP : va_P (dC, dI) vwCl [(k0, .inr (9, [.ref kN, .ref kA, .ref kO, .ref kK, .ref kV, .ref kG, .ref kP, .ref kC, .ref kD, .ref kE, .ref kF, .ref kX, .ref kY, .int 0, .ref kT, .ref kU, .int 0, .int 0, .int 0])), (kN, .inl (cI, 2, .inl (fun _ => 0))), (kA, .inl (cI, 2, .inl (fun _ => 0)))] _ := hP
    have hD : va_D A [(k0, .inr (9, [.ref kN, .ref kA, .ref kO, .ref kK, .ref kV, .ref kG, .ref kP, .ref kC, .ref kD, .ref kE, .ref kF, .ref kX, .ref kY, .int 0, .ref kT, .ref kU, .int 0, .int 0, .int 0])), (kN, .inl (cI, 2, .inl (fun _ => 0))), (kA, .inl (cI, 2, .inl (fun _ => 0)))] := hD
    refine lv_aload_n hx hb dX6_joinAll_16 rfl (lv_at hl 0 rfl) ?_
    refine va_get (D := (dC, dI)) (ci := 9) (v := .int 0) (C := RX6) (T := TX6) (N := 19) hx hb hts (fun w h => List.mem_cons_of_mem _ (List.mem_append_left _ (List.mem_append_left _ (List.mem_append_right _ (h))))) hown hK hP 0 rfl rfl 16 (by decide) (hts (.fieldLink RX6 57 "NetcompareModel" "thrown" "I") (List.mem_cons_of_mem _ (List.mem_append_left _ (List.mem_append_left _ (List.mem_append_left _ (List.mem_append_left _ (List.mem_of_getElem? (i := 0) rfl))))))) (fun _ h9 => h9) rfl dX6_joinAll_17 ?_
    refine lv_if_ne (tgt := 27) hx hb dX6_joinAll_20 (by decide) (fun h9 => absurd (by decide) h9) (fun _ => ?_)
    refine lv_iconst (v := 0) hx hb dX6_joinAll_23 (by decide) ?_
    refine lv_goto (tgt := 28) hx hb dX6_joinAll_24 (by decide) ?_
    refine lv_istore_n (lv' := [(2, .int 0), (0, .ref k0), (1, .int 1)]) hx hb dX6_joinAll_28 rfl hl (Nat.le_of_ble_eq_true rfl) rfl (fun ls hl => ?_)
    refine lv_aload_n hx hb dX6_joinAll_29 rfl (lv_at hl 1 rfl) ?_
    refine va_get (D := (dC, dI)) (ci := 9) (v := .int 0) (C := RX6) (T := TX6) (N := 19) hx hb hts (fun w h => List.mem_cons_of_mem _ (List.mem_append_left _ (List.mem_append_left _ (List.mem_append_right _ (h))))) hown hK hP 0 rfl rfl 16 (by decide) (hts (.fieldLink RX6 57 "NetcompareModel" "thrown" "I") (List.mem_cons_of_mem _ (List.mem_append_left _ (List.mem_append_left _ (List.mem_append_left _ (List.mem_append_left _ (List.mem_of_getElem? (i := 0) rfl))))))) (fun _ h9 => h9) rfl dX6_joinAll_30 ?_
    refine lv_if_ne (tgt := 71) hx hb dX6_joinAll_33 (by decide) (fun h9 => absurd (by decide) h9) (fun _ => ?_)
    refine lv_aload_n hx hb dX6_joinAll_36 rfl (lv_at hl 1 rfl) ?_
    refine lv_iload_n hx hb dX6_joinAll_37 rfl (lv_at hl 2 rfl) ?_
    have hPc := hP.sub (ws' := [(k0, .inr (9, [.ref kN, .ref kA, .ref kO, .ref kK, .ref kV, .ref kG, .ref kP, .ref kC, .ref kD, .ref kE, .ref kF, .ref kX, .ref kY, .int 0, .ref kT, .ref kU, .int 0, .int 0, .int 0])), (kA, .inl (cI, 2, .inl (fun _ => 0)))]) [0, 2] rfl
    have hDc := hD.sub (ws' := [(k0, .inr (9, [.ref kN, .ref kA, .ref kO, .ref kK, .ref kV, .ref kG, .ref kP, .ref kC, .ref kD, .ref kE, .ref kF, .ref kX, .ref kY, .int 0, .ref kT, .ref kU, .int 0, .int 0, .int 0])), (kA, .inl (cI, 2, .inl (fun _ => 0)))]) [0, 2] (by decide) rfl
    have hKc := hK.sub (tys' := [(cI, .int)]) [0] rfl
    have hFc := va_free (wc := [(k0, .inr (9, [.ref kN, .ref kA, .ref kO, .ref kK, .ref kV, .ref kG, .ref kP, .ref kC, .ref kD, .ref kE, .ref kF, .ref kX, .ref kY, .int 0, .ref kT, .ref kU, .int 0, .int 0, .int 0])), (kA, .inl (cI, 2, .inl (fun _ => 0)))]) hD hS hA [0, 2] rfl
    refine va_calli (va_runV (As := [.int 1]) (rest := []) ⟨hx, hb, hml, hown, hts⟩ (kX6_firstPair1 l dC dI k0 kN kA kO kK kV kG kP kC kD kE kF kX kY kT kU cI H.size) (cwV 1 hts gX6_joinAll_X6_firstPair rfl rfl rfl (by decide +kernel) ⟨Nat.le_of_ble_eq_true rfl, Nat.le_of_ble_eq_true rfl⟩) (fPreV hN hZ hS (fun q h => hFc q h) hPc hKc hDc (ci := 9) (q0 := 0) rfl rfl) rfl rfl hl.1 rfl (lv_room (Nat.le_of_ble_eq_true rfl)) dX6_joinAll_38 ⟨Nat.le_of_ble_eq_true rfl, Nat.le_of_ble_eq_true rfl⟩) hS (fun q _ h => hFc q h) hFc (fun r u t H1 locs ht hvm hw hB hz1 hk1 hS => ?_)
    obtain ⟨hP1, hK1, hD1⟩ := hB
    rw [ht] at hP1
    have hK1 := va_K.moved hvm.symm hK1
    obtain ⟨hP, hD⟩ := va_join (wr := [(kN, .inl (cI, 2, .inl (fun _ => 0)))]) (w1 := [(k0, .inr (9, [.ref kN, .ref kA, .ref kO, .ref kK, .ref kV, .ref kG, .ref kP, .ref kC, .ref kD, .ref kE, .ref kF, .ref kX, .ref kY, .int 0, .ref kT, .ref kU, .int 0, .int 0, .int 0])), (kA, .inl (cI, 2, .inl (fun _ => 0)))]) hP hD [0, 2] [1] rfl rfl (by decide) (by decide) hk1 hFc hP1 hD1
    generalize H1 = H at hP hS ⊢
    have hP : va_P (dC, dI) vwCl [(kN, .inl (cI, 2, .inl (fun _ => 0))), (k0, .inr (9, [.ref kN, .ref kA, .ref kO, .ref kK, .ref kV, .ref kG, .ref kP, .ref kC, .ref kD, .ref kE, .ref kF, .ref kX, .ref kY, .int 0, .ref kT, .ref kU, .int 0, .int 0, .int 0])), (kA, .inl (cI, 2, .inl (fun _ => 0)))] _ := hP
    have hD : va_D A [(kN, .inl (cI, 2, .inl (fun _ => 0))), (k0, .inr (9, [.ref kN, .ref kA, .ref kO, .ref kK, .ref kV, .ref kG, .ref kP, .ref kC, .ref kD, .ref kE, .ref kF, .ref kX, .ref kY, .int 0, .ref kT, .ref kU, .int 0, .int 0, .int 0])), (kA, .inl (cI, 2, .inl (fun _ => 0)))] := hD
    subst hw
    refine lv_iconst (v := (-1)) hx hb dX6_joinAll_41 (by decide) ?_
    refine lv_icmp_eq (tgt := 71) hx hb dX6_joinAll_42 (by decide) (fun _ => ?_) (fun h9 => absurd (by decide) h9)
    refine lv_iload_n hx hb dX6_joinAll_71 rfl (lv_at hl 0 rfl) ?_
    exact ret _ 0 _ _ _ _ _ _ (Or.inl (⟨rfl, rfl, Or.inr (rfl)⟩)) (hP.sub [1] rfl) (hK.sub [] rfl) (hD.sub [1] (by decide) rfl) hS (Nat.le_of_ble_eq_true rfl) (Nat.le_of_ble_eq_true rfl) dX6_joinAll_72
  · skip
    have hc1 := hc
    refine lv_if_eq (tgt := 12) hx hb dX6_joinAll_5 (by decide) (fun _ => ?_) (fun h9 => absurd (by decide) h9)
    refine lv_iconst (v := 1) hx hb dX6_joinAll_12 (by decide) ?_
    refine va_put (D := (dC, dI)) (ci := 9) (v := .int 1) (ty := .int) (C := RX6) (T := TX6) (N := 19) hx hb hts (fun w h => List.mem_cons_of_mem _ (List.mem_append_left _ (List.mem_append_left _ (List.mem_append_right _ (h))))) tyX6 tyX6_ok nmX6 hown hK hP hD hS 0 rfl rfl 16 (by decide) (hts (.fieldLink RX6 57 "NetcompareModel" "thrown" "I") (List.mem_cons_of_mem _ (List.mem_append_left _ (List.mem_append_left _ (List.mem_append_left _ (List.mem_append_left _ (List.mem_of_getElem? (i := 0) rfl))))))) (fun _ h9 => h9) rfl (by decide +kernel) rfl rfl (Nat.le_of_ble_eq_true rfl) dX6_joinAll_13 (fun H locs hP hD hS => ?_)
    have hP : va_P (dC, dI) vwCl [(k0, .inr (9, [.ref kN, .ref kA, .ref kO, .ref kK, .ref kV, .ref kG, .ref kP, .ref kC, .ref kD, .ref kE, .ref kF, .ref kX, .ref kY, .int 0, .ref kT, .ref kU, .int 1, .int 0, .int 0])), (kN, .inl (cI, 2, .inl (fun _ => 0))), (kA, .inl (cI, 2, .inl (fun _ => 0)))] _ := hP
    have hD : va_D A [(k0, .inr (9, [.ref kN, .ref kA, .ref kO, .ref kK, .ref kV, .ref kG, .ref kP, .ref kC, .ref kD, .ref kE, .ref kF, .ref kX, .ref kY, .int 0, .ref kT, .ref kU, .int 1, .int 0, .int 0])), (kN, .inl (cI, 2, .inl (fun _ => 0))), (kA, .inl (cI, 2, .inl (fun _ => 0)))] := hD
    refine lv_aload_n hx hb dX6_joinAll_16 rfl (lv_at hl 0 rfl) ?_
    refine va_get (D := (dC, dI)) (ci := 9) (v := .int 1) (C := RX6) (T := TX6) (N := 19) hx hb hts (fun w h => List.mem_cons_of_mem _ (List.mem_append_left _ (List.mem_append_left _ (List.mem_append_right _ (h))))) hown hK hP 0 rfl rfl 16 (by decide) (hts (.fieldLink RX6 57 "NetcompareModel" "thrown" "I") (List.mem_cons_of_mem _ (List.mem_append_left _ (List.mem_append_left _ (List.mem_append_left _ (List.mem_append_left _ (List.mem_of_getElem? (i := 0) rfl))))))) (fun _ h9 => h9) rfl dX6_joinAll_17 ?_
    refine lv_if_ne (tgt := 27) hx hb dX6_joinAll_20 (by decide) (fun _ => ?_) (fun h9 => absurd h9 (by decide))
    refine lv_iconst (v := (-1)) hx hb dX6_joinAll_27 (by decide) ?_
    refine lv_istore_n (lv' := [(2, .int (-1)), (0, .ref k0), (1, .int p0)]) hx hb dX6_joinAll_28 rfl hl (Nat.le_of_ble_eq_true rfl) rfl (fun ls hl => ?_)
    refine lv_aload_n hx hb dX6_joinAll_29 rfl (lv_at hl 1 rfl) ?_
    refine va_get (D := (dC, dI)) (ci := 9) (v := .int 1) (C := RX6) (T := TX6) (N := 19) hx hb hts (fun w h => List.mem_cons_of_mem _ (List.mem_append_left _ (List.mem_append_left _ (List.mem_append_right _ (h))))) hown hK hP 0 rfl rfl 16 (by decide) (hts (.fieldLink RX6 57 "NetcompareModel" "thrown" "I") (List.mem_cons_of_mem _ (List.mem_append_left _ (List.mem_append_left _ (List.mem_append_left _ (List.mem_append_left _ (List.mem_of_getElem? (i := 0) rfl))))))) (fun _ h9 => h9) rfl dX6_joinAll_30 ?_
    refine lv_if_ne (tgt := 71) hx hb dX6_joinAll_33 (by decide) (fun _ => ?_) (fun h9 => absurd h9 (by decide))
    refine lv_iload_n hx hb dX6_joinAll_71 rfl (lv_at hl 0 rfl) ?_
    exact ret _ 1 _ _ _ _ _ _ (Or.inr (⟨rfl, hc1⟩)) (hP.sub [0] rfl) (hK.sub [] rfl) (hD.sub [0] (by decide) rfl) hS (Nat.le_of_ble_eq_true rfl) (Nat.le_of_ble_eq_true rfl) dX6_joinAll_72

set_option maxHeartbeats 4000000 in
set_option maxRecDepth 100000 in
/-- the model: nets on a fresh one -/
theorem kX6_nets (l : Launch) (dC : Nat → ClassId) (dI : Nat → Nat → Nat) (k0 kN kA kO kK kV kG kP kC kD kE kF kX kY kT kU : Nat) (cI : ClassId) (p0 : Int32) (sz : Nat) : fMi l yX6_nets wsX6_nets ({ frames := 1, cells := 0, slots := 0, locals := 20 } : Room) dC dI [.ref k0, .int p0] [(k0, .inr (9, [.ref kN, .ref kA, .ref kO, .ref kK, .ref kV, .ref kG, .ref kP, .ref kC, .ref kD, .ref kE, .ref kF, .ref kX, .ref kY, .int 0, .ref kT, .ref kU, .int 0, .int 0, .int 0])), (kN, .inl (cI, 2, .inl (fun _ => 0))), (kA, .inl (cI, 2, .inl (fun _ => 0)))] [(cI, .int)] sz (fun (r : Int32) (u : Int32) => u = 0 ∧ r = 0 ∧ ((p0 = 0) ∨ (p0 = 1)) ∨ u = 1 ∧ (¬ ((p0 = 0) ∨ (p0 = 1)))) (fun u => [(k0, .inr (9, [.ref kN, .ref kA, .ref kO, .ref kK, .ref kV, .ref kG, .ref kP, .ref kC, .ref kD, .ref kE, .ref kF, .ref kX, .ref kY, .int 0, .ref kT, .ref kU, .int u, .int 0, .int 0]))]) (fun u => []) := by
  refine oP_i (y := yX6_nets) (cc := cX6_nets) (maxL := 2) (by decide) rfl (Nat.le_of_ble_eq_true rfl) ?_
  intro p e s m args below meth c ls A Q hx hb hr hml hown hts hN hZ hA hin hlk hP hK hD hl ret
  have hS : va_S A s.heap s.heap [] := va_S.rf
  have hl : lv_has ls 2 [(0, .ref k0), (1, .int p0)] := hl
  have hP : va_P (dC, dI) vwCl [(k0, .inr (9, [.ref kN, .ref kA, .ref kO, .ref kK, .ref kV, .ref kG, .ref kP, .ref kC, .ref kD, .ref kE, .ref kF, .ref kX, .ref kY, .int 0, .ref kT, .ref kU, .int 0, .int 0, .int 0])), (kN, .inl (cI, 2, .inl (fun _ => 0))), (kA, .inl (cI, 2, .inl (fun _ => 0)))] _ := hP
  have hD : va_D A [(k0, .inr (9, [.ref kN, .ref kA, .ref kO, .ref kK, .ref kV, .ref kG, .ref kP, .ref kC, .ref kD, .ref kE, .ref kF, .ref kX, .ref kY, .int 0, .ref kT, .ref kU, .int 0, .int 0, .int 0])), (kN, .inl (cI, 2, .inl (fun _ => 0))), (kA, .inl (cI, 2, .inl (fun _ => 0)))] := hD
  refine lv_aload_n hx hb dX6_nets_0 rfl (lv_at hl 0 rfl) ?_
  refine lv_iload_n hx hb dX6_nets_1 rfl (lv_at hl 1 rfl) ?_
  have hPc := hP.sub (ws' := []) [] rfl
  have hDc := hD.sub (ws' := []) [] (by decide) rfl
  have hKc := hK.sub (tys' := []) [] rfl
  have hFc := va_free (wc := []) hD hS hA [] rfl
  refine va_calli (va_runS (As := [.int p0]) (rest := [.ref k0]) ⟨hx, hb, hml, hown, hts⟩ (kX6_isCircuit l dC dI p0 s.heap.size) (va_cwS 1 hts gX6_nets_X6_isCircuit rfl rfl rfl (by decide +kernel) ⟨Nat.le_of_ble_eq_true rfl, Nat.le_of_ble_eq_true rfl⟩) (fPreS hN hZ hS (fun q h => hFc q h) hPc hKc hDc) rfl rfl hl.1 rfl (lv_room (Nat.le_of_ble_eq_true rfl)) dX6_nets_2 ⟨Nat.le_of_ble_eq_true rfl, Nat.le_of_ble_eq_true rfl⟩) hS (fun q _ h => hFc q h) hFc (fun r u t H1 locs ht hvm hw hB hz1 hk1 hS => ?_)
  obtain ⟨hP1, hK1, hD1⟩ := hB
  rw [ht] at hP1
  have hK1 := va_K.moved hvm.symm hK1
  obtain ⟨hP, hD⟩ := va_join (wr := [(k0, .inr (9, [.ref kN, .ref kA, .ref kO, .ref kK, .ref kV, .ref kG, .ref kP, .ref kC, .ref kD, .ref kE, .ref kF, .ref kX, .ref kY, .int 0, .ref kT, .ref kU, .int 0, .int 0, .int 0])), (kN, .inl (cI, 2, .inl (fun _ => 0))), (kA, .inl (cI, 2, .inl (fun _ => 0)))]) (w1 := []) hP hD [] [0, 1, 2] rfl rfl (by decide) (by decide) hk1 hFc hP1 hD1
  generalize H1 = H at hP hS ⊢
  have hP : va_P (dC, dI) vwCl [(k0, .inr (9, [.ref kN, .ref kA, .ref kO, .ref kK, .ref kV, .ref kG, .ref kP, .ref kC, .ref kD, .ref kE, .ref kF, .ref kX, .ref kY, .int 0, .ref kT, .ref kU, .int 0, .int 0, .int 0])), (kN, .inl (cI, 2, .inl (fun _ => 0))), (kA, .inl (cI, 2, .inl (fun _ => 0)))] _ := hP
  have hD : va_D A [(k0, .inr (9, [.ref kN, .ref kA, .ref kO, .ref kK, .ref kV, .ref kG, .ref kP, .ref kC, .ref kD, .ref kE, .ref kF, .ref kX, .ref kY, .int 0, .ref kT, .ref kU, .int 0, .int 0, .int 0])), (kN, .inl (cI, 2, .inl (fun _ => 0))), (kA, .inl (cI, 2, .inl (fun _ => 0)))] := hD
  rcases hw with ⟨rfl, hc | hc⟩ | ⟨rfl, hc⟩
  · skip
    subst hc
    have hP : va_P (dC, dI) vwCl [(k0, .inr (9, [.ref kN, .ref kA, .ref kO, .ref kK, .ref kV, .ref kG, .ref kP, .ref kC, .ref kD, .ref kE, .ref kF, .ref kX, .ref kY, .int 0, .ref kT, .ref kU, .int 0, .int 0, .int 0])), (kN, .inl (cI, 2, .inl (fun _ => 0))), (kA, .inl (cI, 2, .inl (fun _ => 0)))] _ := hP
    have hD : va_D A [(k0, .inr (9, [.ref kN, .ref kA, .ref kO, .ref kK, .ref kV, .ref kG, .ref kP, .ref kC, .ref kD, .ref kE, .ref kF, .ref kX, .ref kY, .int 0, .ref kT, .ref kU, .int 0, .int 0, .int 0])), (kN, .inl (cI, 2, .inl (fun _ => 0))), (kA, .inl (cI, 2, .inl (fun _ => 0)))] := hD
    refine lv_if_eq (tgt := 12) hx hb dX6_nets_5 (by decide) (fun h9 => absurd h9 (by decide)) (fun _ => ?_)
    refine lv_iconst (v := 0) hx hb dX6_nets_8 (by decide) ?_
    refine lv_goto (tgt := 13) hx hb dX6_nets_9 (by decide) ?_
    refine va_put (D := (dC, dI)) (ci := 9) (v := .int 0) (ty := .int) (C := RX6) (T := TX6) (N := 19) hx hb hts (fun w h => List.mem_cons_of_mem _ (List.mem_append_left _ (List.mem_append_right _ (h)))) tyX6 tyX6_ok nmX6 hown hK hP hD hS 0 rfl rfl 16 (by decide) (hts (.fieldLink RX6 57 "NetcompareModel" "thrown" "I") (List.mem_cons_of_mem _ (List.mem_append_left _ (List.mem_append_left _ (List.mem_of_getElem? (i := 0) rfl))))) (fun _ h9 => h9) rfl (by decide +kernel) rfl rfl (Nat.le_of_ble_eq_true rfl) dX6_nets_13 (fun H locs hP hD hS => ?_)
    have hP : va_P (dC, dI) vwCl [(k0, .inr (9, [.ref kN, .ref kA, .ref kO, .ref kK, .ref kV, .ref kG, .ref kP, .ref kC, .ref kD, .ref kE, .ref kF, .ref kX, .ref kY, .int 0, .ref kT, .ref kU, .int 0, .int 0, .int 0])), (kN, .inl (cI, 2, .inl (fun _ => 0))), (kA, .inl (cI, 2, .inl (fun _ => 0)))] _ := hP
    have hD : va_D A [(k0, .inr (9, [.ref kN, .ref kA, .ref kO, .ref kK, .ref kV, .ref kG, .ref kP, .ref kC, .ref kD, .ref kE, .ref kF, .ref kX, .ref kY, .int 0, .ref kT, .ref kU, .int 0, .int 0, .int 0])), (kN, .inl (cI, 2, .inl (fun _ => 0))), (kA, .inl (cI, 2, .inl (fun _ => 0)))] := hD
    refine lv_aload_n hx hb dX6_nets_16 rfl (lv_at hl 0 rfl) ?_
    refine va_get (D := (dC, dI)) (ci := 9) (v := .int 0) (C := RX6) (T := TX6) (N := 19) hx hb hts (fun w h => List.mem_cons_of_mem _ (List.mem_append_left _ (List.mem_append_right _ (h)))) hown hK hP 0 rfl rfl 16 (by decide) (hts (.fieldLink RX6 57 "NetcompareModel" "thrown" "I") (List.mem_cons_of_mem _ (List.mem_append_left _ (List.mem_append_left _ (List.mem_of_getElem? (i := 0) rfl))))) (fun _ h9 => h9) rfl dX6_nets_17 ?_
    refine lv_if_ne (tgt := 32) hx hb dX6_nets_20 (by decide) (fun h9 => absurd (by decide) h9) (fun _ => ?_)
    refine lv_aload_n hx hb dX6_nets_23 rfl (lv_at hl 0 rfl) ?_
    refine va_get (D := (dC, dI)) (ci := 9) (v := .ref kN) (C := RX6) (T := TX6) (N := 19) hx hb hts (fun w h => List.mem_cons_of_mem _ (List.mem_append_left _ (List.mem_append_right _ (h)))) hown hK hP 0 rfl rfl 0 (by decide) (hts (.fieldLink RX6 7 "NetcompareModel" "nets" "[I") (List.mem_cons_of_mem _ (List.mem_append_left _ (List.mem_append_left _ (List.mem_of_getElem? (i := 1) rfl))))) (fun _ h9 => h9) rfl dX6_nets_24 ?_
    refine lv_iload_n hx hb dX6_nets_27 rfl (lv_at hl 1 rfl) ?_
    refine va_iald hx hb hK hP 1 0 rfl rfl (show ¬ (_ ∨ _) by decide) dX6_nets_28 ?_
    refine W.eq (g2 := F0 m 29 ls [.int 0]) rfl ?_
    refine lv_goto (tgt := 33) hx hb dX6_nets_29 (by decide) ?_
    exact ret _ 0 _ _ _ _ _ _ (Or.inl (⟨rfl, rfl, Or.inl (rfl)⟩)) (hP.sub [0] rfl) (hK.sub [] rfl) (hD.sub [0] (by decide) rfl) hS (Nat.le_of_ble_eq_true rfl) (Nat.le_of_ble_eq_true rfl) dX6_nets_33
  · skip
    subst hc
    have hP : va_P (dC, dI) vwCl [(k0, .inr (9, [.ref kN, .ref kA, .ref kO, .ref kK, .ref kV, .ref kG, .ref kP, .ref kC, .ref kD, .ref kE, .ref kF, .ref kX, .ref kY, .int 0, .ref kT, .ref kU, .int 0, .int 0, .int 0])), (kN, .inl (cI, 2, .inl (fun _ => 0))), (kA, .inl (cI, 2, .inl (fun _ => 0)))] _ := hP
    have hD : va_D A [(k0, .inr (9, [.ref kN, .ref kA, .ref kO, .ref kK, .ref kV, .ref kG, .ref kP, .ref kC, .ref kD, .ref kE, .ref kF, .ref kX, .ref kY, .int 0, .ref kT, .ref kU, .int 0, .int 0, .int 0])), (kN, .inl (cI, 2, .inl (fun _ => 0))), (kA, .inl (cI, 2, .inl (fun _ => 0)))] := hD
    refine lv_if_eq (tgt := 12) hx hb dX6_nets_5 (by decide) (fun h9 => absurd h9 (by decide)) (fun _ => ?_)
    refine lv_iconst (v := 0) hx hb dX6_nets_8 (by decide) ?_
    refine lv_goto (tgt := 13) hx hb dX6_nets_9 (by decide) ?_
    refine va_put (D := (dC, dI)) (ci := 9) (v := .int 0) (ty := .int) (C := RX6) (T := TX6) (N := 19) hx hb hts (fun w h => List.mem_cons_of_mem _ (List.mem_append_left _ (List.mem_append_right _ (h)))) tyX6 tyX6_ok nmX6 hown hK hP hD hS 0 rfl rfl 16 (by decide) (hts (.fieldLink RX6 57 "NetcompareModel" "thrown" "I") (List.mem_cons_of_mem _ (List.mem_append_left _ (List.mem_append_left _ (List.mem_of_getElem? (i := 0) rfl))))) (fun _ h9 => h9) rfl (by decide +kernel) rfl rfl (Nat.le_of_ble_eq_true rfl) dX6_nets_13 (fun H locs hP hD hS => ?_)
    have hP : va_P (dC, dI) vwCl [(k0, .inr (9, [.ref kN, .ref kA, .ref kO, .ref kK, .ref kV, .ref kG, .ref kP, .ref kC, .ref kD, .ref kE, .ref kF, .ref kX, .ref kY, .int 0, .ref kT, .ref kU, .int 0, .int 0, .int 0])), (kN, .inl (cI, 2, .inl (fun _ => 0))), (kA, .inl (cI, 2, .inl (fun _ => 0)))] _ := hP
    have hD : va_D A [(k0, .inr (9, [.ref kN, .ref kA, .ref kO, .ref kK, .ref kV, .ref kG, .ref kP, .ref kC, .ref kD, .ref kE, .ref kF, .ref kX, .ref kY, .int 0, .ref kT, .ref kU, .int 0, .int 0, .int 0])), (kN, .inl (cI, 2, .inl (fun _ => 0))), (kA, .inl (cI, 2, .inl (fun _ => 0)))] := hD
    refine lv_aload_n hx hb dX6_nets_16 rfl (lv_at hl 0 rfl) ?_
    refine va_get (D := (dC, dI)) (ci := 9) (v := .int 0) (C := RX6) (T := TX6) (N := 19) hx hb hts (fun w h => List.mem_cons_of_mem _ (List.mem_append_left _ (List.mem_append_right _ (h)))) hown hK hP 0 rfl rfl 16 (by decide) (hts (.fieldLink RX6 57 "NetcompareModel" "thrown" "I") (List.mem_cons_of_mem _ (List.mem_append_left _ (List.mem_append_left _ (List.mem_of_getElem? (i := 0) rfl))))) (fun _ h9 => h9) rfl dX6_nets_17 ?_
    refine lv_if_ne (tgt := 32) hx hb dX6_nets_20 (by decide) (fun h9 => absurd (by decide) h9) (fun _ => ?_)
    refine lv_aload_n hx hb dX6_nets_23 rfl (lv_at hl 0 rfl) ?_
    refine va_get (D := (dC, dI)) (ci := 9) (v := .ref kN) (C := RX6) (T := TX6) (N := 19) hx hb hts (fun w h => List.mem_cons_of_mem _ (List.mem_append_left _ (List.mem_append_right _ (h)))) hown hK hP 0 rfl rfl 0 (by decide) (hts (.fieldLink RX6 7 "NetcompareModel" "nets" "[I") (List.mem_cons_of_mem _ (List.mem_append_left _ (List.mem_append_left _ (List.mem_of_getElem? (i := 1) rfl))))) (fun _ h9 => h9) rfl dX6_nets_24 ?_
    refine lv_iload_n hx hb dX6_nets_27 rfl (lv_at hl 1 rfl) ?_
    refine va_iald hx hb hK hP 1 0 rfl rfl (show ¬ (_ ∨ _) by decide) dX6_nets_28 ?_
    refine W.eq (g2 := F0 m 29 ls [.int 0]) rfl ?_
    refine lv_goto (tgt := 33) hx hb dX6_nets_29 (by decide) ?_
    exact ret _ 0 _ _ _ _ _ _ (Or.inl (⟨rfl, rfl, Or.inr (rfl)⟩)) (hP.sub [0] rfl) (hK.sub [] rfl) (hD.sub [0] (by decide) rfl) hS (Nat.le_of_ble_eq_true rfl) (Nat.le_of_ble_eq_true rfl) dX6_nets_33
  · skip
    have hc1 := hc
    refine lv_if_eq (tgt := 12) hx hb dX6_nets_5 (by decide) (fun _ => ?_) (fun h9 => absurd (by decide) h9)
    refine lv_iconst (v := 1) hx hb dX6_nets_12 (by decide) ?_
    refine va_put (D := (dC, dI)) (ci := 9) (v := .int 1) (ty := .int) (C := RX6) (T := TX6) (N := 19) hx hb hts (fun w h => List.mem_cons_of_mem _ (List.mem_append_left _ (List.mem_append_right _ (h)))) tyX6 tyX6_ok nmX6 hown hK hP hD hS 0 rfl rfl 16 (by decide) (hts (.fieldLink RX6 57 "NetcompareModel" "thrown" "I") (List.mem_cons_of_mem _ (List.mem_append_left _ (List.mem_append_left _ (List.mem_of_getElem? (i := 0) rfl))))) (fun _ h9 => h9) rfl (by decide +kernel) rfl rfl (Nat.le_of_ble_eq_true rfl) dX6_nets_13 (fun H locs hP hD hS => ?_)
    have hP : va_P (dC, dI) vwCl [(k0, .inr (9, [.ref kN, .ref kA, .ref kO, .ref kK, .ref kV, .ref kG, .ref kP, .ref kC, .ref kD, .ref kE, .ref kF, .ref kX, .ref kY, .int 0, .ref kT, .ref kU, .int 1, .int 0, .int 0])), (kN, .inl (cI, 2, .inl (fun _ => 0))), (kA, .inl (cI, 2, .inl (fun _ => 0)))] _ := hP
    have hD : va_D A [(k0, .inr (9, [.ref kN, .ref kA, .ref kO, .ref kK, .ref kV, .ref kG, .ref kP, .ref kC, .ref kD, .ref kE, .ref kF, .ref kX, .ref kY, .int 0, .ref kT, .ref kU, .int 1, .int 0, .int 0])), (kN, .inl (cI, 2, .inl (fun _ => 0))), (kA, .inl (cI, 2, .inl (fun _ => 0)))] := hD
    refine lv_aload_n hx hb dX6_nets_16 rfl (lv_at hl 0 rfl) ?_
    refine va_get (D := (dC, dI)) (ci := 9) (v := .int 1) (C := RX6) (T := TX6) (N := 19) hx hb hts (fun w h => List.mem_cons_of_mem _ (List.mem_append_left _ (List.mem_append_right _ (h)))) hown hK hP 0 rfl rfl 16 (by decide) (hts (.fieldLink RX6 57 "NetcompareModel" "thrown" "I") (List.mem_cons_of_mem _ (List.mem_append_left _ (List.mem_append_left _ (List.mem_of_getElem? (i := 0) rfl))))) (fun _ h9 => h9) rfl dX6_nets_17 ?_
    refine lv_if_ne (tgt := 32) hx hb dX6_nets_20 (by decide) (fun _ => ?_) (fun h9 => absurd h9 (by decide))
    refine lv_iconst (v := (-1)) hx hb dX6_nets_32 (by decide) ?_
    exact ret _ 1 _ _ _ _ _ _ (Or.inr (⟨rfl, hc1⟩)) (hP.sub [0] rfl) (hK.sub [] rfl) (hD.sub [0] (by decide) rfl) hS (Nat.le_of_ble_eq_true rfl) (Nat.le_of_ble_eq_true rfl) dX6_nets_33

set_option maxHeartbeats 4000000 in
set_option maxRecDepth 100000 in
/-- the model: parts on a fresh one -/
theorem kX6_parts (l : Launch) (dC : Nat → ClassId) (dI : Nat → Nat → Nat) (k0 kN kA kO kK kV kG kP kC kD kE kF kX kY kT kU : Nat) (cI : ClassId) (p0 : Int32) (sz : Nat) : fMi l yX6_parts wsX6_parts ({ frames := 1, cells := 0, slots := 0, locals := 23 } : Room) dC dI [.ref k0, .int p0] [(k0, .inr (9, [.ref kN, .ref kA, .ref kO, .ref kK, .ref kV, .ref kG, .ref kP, .ref kC, .ref kD, .ref kE, .ref kF, .ref kX, .ref kY, .int 0, .ref kT, .ref kU, .int 0, .int 0, .int 0])), (kN, .inl (cI, 2, .inl (fun _ => 0))), (kA, .inl (cI, 2, .inl (fun _ => 0)))] [(cI, .int)] sz (fun (r : Int32) (u : Int32) => u = 0 ∧ r = 0 ∧ ((p0 = 0) ∨ (p0 = 1)) ∨ u = 1 ∧ (¬ ((p0 = 0) ∨ (p0 = 1)))) (fun u => [(k0, .inr (9, [.ref kN, .ref kA, .ref kO, .ref kK, .ref kV, .ref kG, .ref kP, .ref kC, .ref kD, .ref kE, .ref kF, .ref kX, .ref kY, .int 0, .ref kT, .ref kU, .int u, .int 0, .int 0]))]) (fun u => []) := by
  refine oP_i (y := yX6_parts) (cc := cX6_parts) (maxL := 2) (by decide) rfl (Nat.le_of_ble_eq_true rfl) ?_
  intro p e s m args below meth c ls A Q hx hb hr hml hown hts hN hZ hA hin hlk hP hK hD hl ret
  have hS : va_S A s.heap s.heap [] := va_S.rf
  have hl : lv_has ls 2 [(0, .ref k0), (1, .int p0)] := hl
  have hP : va_P (dC, dI) vwCl [(k0, .inr (9, [.ref kN, .ref kA, .ref kO, .ref kK, .ref kV, .ref kG, .ref kP, .ref kC, .ref kD, .ref kE, .ref kF, .ref kX, .ref kY, .int 0, .ref kT, .ref kU, .int 0, .int 0, .int 0])), (kN, .inl (cI, 2, .inl (fun _ => 0))), (kA, .inl (cI, 2, .inl (fun _ => 0)))] _ := hP
  have hD : va_D A [(k0, .inr (9, [.ref kN, .ref kA, .ref kO, .ref kK, .ref kV, .ref kG, .ref kP, .ref kC, .ref kD, .ref kE, .ref kF, .ref kX, .ref kY, .int 0, .ref kT, .ref kU, .int 0, .int 0, .int 0])), (kN, .inl (cI, 2, .inl (fun _ => 0))), (kA, .inl (cI, 2, .inl (fun _ => 0)))] := hD
  refine lv_aload_n hx hb dX6_parts_0 rfl (lv_at hl 0 rfl) ?_
  refine lv_iload_n hx hb dX6_parts_1 rfl (lv_at hl 1 rfl) ?_
  have hPc := hP.sub (ws' := []) [] rfl
  have hDc := hD.sub (ws' := []) [] (by decide) rfl
  have hKc := hK.sub (tys' := []) [] rfl
  have hFc := va_free (wc := []) hD hS hA [] rfl
  refine va_calli (va_runS (As := [.int p0]) (rest := [.ref k0]) ⟨hx, hb, hml, hown, hts⟩ (kX6_isCircuit l dC dI p0 s.heap.size) (va_cwS 1 hts gX6_parts_X6_isCircuit rfl rfl rfl (by decide +kernel) ⟨Nat.le_of_ble_eq_true rfl, Nat.le_of_ble_eq_true rfl⟩) (fPreS hN hZ hS (fun q h => hFc q h) hPc hKc hDc) rfl rfl hl.1 rfl (lv_room (Nat.le_of_ble_eq_true rfl)) dX6_parts_2 ⟨Nat.le_of_ble_eq_true rfl, Nat.le_of_ble_eq_true rfl⟩) hS (fun q _ h => hFc q h) hFc (fun r u t H1 locs ht hvm hw hB hz1 hk1 hS => ?_)
  obtain ⟨hP1, hK1, hD1⟩ := hB
  rw [ht] at hP1
  have hK1 := va_K.moved hvm.symm hK1
  obtain ⟨hP, hD⟩ := va_join (wr := [(k0, .inr (9, [.ref kN, .ref kA, .ref kO, .ref kK, .ref kV, .ref kG, .ref kP, .ref kC, .ref kD, .ref kE, .ref kF, .ref kX, .ref kY, .int 0, .ref kT, .ref kU, .int 0, .int 0, .int 0])), (kN, .inl (cI, 2, .inl (fun _ => 0))), (kA, .inl (cI, 2, .inl (fun _ => 0)))]) (w1 := []) hP hD [] [0, 1, 2] rfl rfl (by decide) (by decide) hk1 hFc hP1 hD1
  generalize H1 = H at hP hS ⊢
  have hP : va_P (dC, dI) vwCl [(k0, .inr (9, [.ref kN, .ref kA, .ref kO, .ref kK, .ref kV, .ref kG, .ref kP, .ref kC, .ref kD, .ref kE, .ref kF, .ref kX, .ref kY, .int 0, .ref kT, .ref kU, .int 0, .int 0, .int 0])), (kN, .inl (cI, 2, .inl (fun _ => 0))), (kA, .inl (cI, 2, .inl (fun _ => 0)))] _ := hP
  have hD : va_D A [(k0, .inr (9, [.ref kN, .ref kA, .ref kO, .ref kK, .ref kV, .ref kG, .ref kP, .ref kC, .ref kD, .ref kE, .ref kF, .ref kX, .ref kY, .int 0, .ref kT, .ref kU, .int 0, .int 0, .int 0])), (kN, .inl (cI, 2, .inl (fun _ => 0))), (kA, .inl (cI, 2, .inl (fun _ => 0)))] := hD
  rcases hw with ⟨rfl, hc | hc⟩ | ⟨rfl, hc⟩
  · skip
    subst hc
    have hP : va_P (dC, dI) vwCl [(k0, .inr (9, [.ref kN, .ref kA, .ref kO, .ref kK, .ref kV, .ref kG, .ref kP, .ref kC, .ref kD, .ref kE, .ref kF, .ref kX, .ref kY, .int 0, .ref kT, .ref kU, .int 0, .int 0, .int 0])), (kN, .inl (cI, 2, .inl (fun _ => 0))), (kA, .inl (cI, 2, .inl (fun _ => 0)))] _ := hP
    have hD : va_D A [(k0, .inr (9, [.ref kN, .ref kA, .ref kO, .ref kK, .ref kV, .ref kG, .ref kP, .ref kC, .ref kD, .ref kE, .ref kF, .ref kX, .ref kY, .int 0, .ref kT, .ref kU, .int 0, .int 0, .int 0])), (kN, .inl (cI, 2, .inl (fun _ => 0))), (kA, .inl (cI, 2, .inl (fun _ => 0)))] := hD
    refine lv_if_eq (tgt := 12) hx hb dX6_parts_5 (by decide) (fun h9 => absurd h9 (by decide)) (fun _ => ?_)
    refine lv_iconst (v := 0) hx hb dX6_parts_8 (by decide) ?_
    refine lv_goto (tgt := 13) hx hb dX6_parts_9 (by decide) ?_
    refine va_put (D := (dC, dI)) (ci := 9) (v := .int 0) (ty := .int) (C := RX6) (T := TX6) (N := 19) hx hb hts (fun w h => List.mem_cons_of_mem _ (List.mem_append_left _ (List.mem_append_right _ (h)))) tyX6 tyX6_ok nmX6 hown hK hP hD hS 0 rfl rfl 16 (by decide) (hts (.fieldLink RX6 57 "NetcompareModel" "thrown" "I") (List.mem_cons_of_mem _ (List.mem_append_left _ (List.mem_append_left _ (List.mem_of_getElem? (i := 0) rfl))))) (fun _ h9 => h9) rfl (by decide +kernel) rfl rfl (Nat.le_of_ble_eq_true rfl) dX6_parts_13 (fun H locs hP hD hS => ?_)
    have hP : va_P (dC, dI) vwCl [(k0, .inr (9, [.ref kN, .ref kA, .ref kO, .ref kK, .ref kV, .ref kG, .ref kP, .ref kC, .ref kD, .ref kE, .ref kF, .ref kX, .ref kY, .int 0, .ref kT, .ref kU, .int 0, .int 0, .int 0])), (kN, .inl (cI, 2, .inl (fun _ => 0))), (kA, .inl (cI, 2, .inl (fun _ => 0)))] _ := hP
    have hD : va_D A [(k0, .inr (9, [.ref kN, .ref kA, .ref kO, .ref kK, .ref kV, .ref kG, .ref kP, .ref kC, .ref kD, .ref kE, .ref kF, .ref kX, .ref kY, .int 0, .ref kT, .ref kU, .int 0, .int 0, .int 0])), (kN, .inl (cI, 2, .inl (fun _ => 0))), (kA, .inl (cI, 2, .inl (fun _ => 0)))] := hD
    refine lv_aload_n hx hb dX6_parts_16 rfl (lv_at hl 0 rfl) ?_
    refine va_get (D := (dC, dI)) (ci := 9) (v := .int 0) (C := RX6) (T := TX6) (N := 19) hx hb hts (fun w h => List.mem_cons_of_mem _ (List.mem_append_left _ (List.mem_append_right _ (h)))) hown hK hP 0 rfl rfl 16 (by decide) (hts (.fieldLink RX6 57 "NetcompareModel" "thrown" "I") (List.mem_cons_of_mem _ (List.mem_append_left _ (List.mem_append_left _ (List.mem_of_getElem? (i := 0) rfl))))) (fun _ h9 => h9) rfl dX6_parts_17 ?_
    refine lv_if_ne (tgt := 31) hx hb dX6_parts_20 (by decide) (fun h9 => absurd (by decide) h9) (fun _ => ?_)
    refine lv_aload_n hx hb dX6_parts_23 rfl (lv_at hl 0 rfl) ?_
    refine lv_iload_n hx hb dX6_parts_24 rfl (lv_at hl 1 rfl) ?_
    have hPc := hP.sub (ws' := [(k0, .inr (9, [.ref kN, .ref kA, .ref kO, .ref kK, .ref kV, .ref kG, .ref kP, .ref kC, .ref kD, .ref kE, .ref kF, .ref kX, .ref kY, .int 0, .ref kT, .ref kU, .int 0, .int 0, .int 0])), (kA, .inl (cI, 2, .inl (fun _ => 0)))]) [0, 2] rfl
    have hDc := hD.sub (ws' := [(k0, .inr (9, [.ref kN, .ref kA, .ref kO, .ref kK, .ref kV, .ref kG, .ref kP, .ref kC, .ref kD, .ref kE, .ref kF, .ref kX, .ref kY, .int 0, .ref kT, .ref kU, .int 0, .int 0, .int 0])), (kA, .inl (cI, 2, .inl (fun _ => 0)))]) [0, 2] (by decide) rfl
    have hKc := hK.sub (tys' := [(cI, .int)]) [0] rfl
    have hFc := va_free (wc := [(k0, .inr (9, [.ref kN, .ref kA, .ref kO, .ref kK, .ref kV, .ref kG, .ref kP, .ref kC, .ref kD, .ref kE, .ref kF, .ref kX, .ref kY, .int 0, .ref kT, .ref kU, .int 0, .int 0, .int 0])), (kA, .inl (cI, 2, .inl (fun _ => 0)))]) hD hS hA [0, 2] rfl
    refine va_calli (va_runV (As := [.int 0]) (rest := []) ⟨hx, hb, hml, hown, hts⟩ (kX6_partMany0 l dC dI k0 kN kA kO kK kV kG kP kC kD kE kF kX kY kT kU cI H.size) (cwV 1 hts gX6_parts_X6_partMany rfl rfl rfl (by decide +kernel) ⟨Nat.le_of_ble_eq_true rfl, Nat.le_of_ble_eq_true rfl⟩) (fPreV hN hZ hS (fun q h => hFc q h) hPc hKc hDc (ci := 9) (q0 := 0) rfl rfl) rfl rfl hl.1 rfl (lv_room (Nat.le_of_ble_eq_true rfl)) dX6_parts_25 ⟨Nat.le_of_ble_eq_true rfl, Nat.le_of_ble_eq_true rfl⟩) hS (fun q _ h => hFc q h) hFc (fun r u t H1 locs ht hvm hw hB hz1 hk1 hS => ?_)
    obtain ⟨hP1, hK1, hD1⟩ := hB
    rw [ht] at hP1
    have hK1 := va_K.moved hvm.symm hK1
    obtain ⟨hP, hD⟩ := va_join (wr := [(kN, .inl (cI, 2, .inl (fun _ => 0)))]) (w1 := [(k0, .inr (9, [.ref kN, .ref kA, .ref kO, .ref kK, .ref kV, .ref kG, .ref kP, .ref kC, .ref kD, .ref kE, .ref kF, .ref kX, .ref kY, .int 0, .ref kT, .ref kU, .int 0, .int 0, .int 0])), (kA, .inl (cI, 2, .inl (fun _ => 0)))]) hP hD [0, 2] [1] rfl rfl (by decide) (by decide) hk1 hFc hP1 hD1
    generalize H1 = H at hP hS ⊢
    have hP : va_P (dC, dI) vwCl [(kN, .inl (cI, 2, .inl (fun _ => 0))), (k0, .inr (9, [.ref kN, .ref kA, .ref kO, .ref kK, .ref kV, .ref kG, .ref kP, .ref kC, .ref kD, .ref kE, .ref kF, .ref kX, .ref kY, .int 0, .ref kT, .ref kU, .int 0, .int 0, .int 0])), (kA, .inl (cI, 2, .inl (fun _ => 0)))] _ := hP
    have hD : va_D A [(kN, .inl (cI, 2, .inl (fun _ => 0))), (k0, .inr (9, [.ref kN, .ref kA, .ref kO, .ref kK, .ref kV, .ref kG, .ref kP, .ref kC, .ref kD, .ref kE, .ref kF, .ref kX, .ref kY, .int 0, .ref kT, .ref kU, .int 0, .int 0, .int 0])), (kA, .inl (cI, 2, .inl (fun _ => 0)))] := hD
    subst hw
    refine lv_goto (tgt := 32) hx hb dX6_parts_28 (by decide) ?_
    exact ret _ 0 _ _ _ _ _ _ (Or.inl (⟨rfl, rfl, Or.inl (rfl)⟩)) (hP.sub [1] rfl) (hK.sub [] rfl) (hD.sub [1] (by decide) rfl) hS (Nat.le_of_ble_eq_true rfl) (Nat.le_of_ble_eq_true rfl) dX6_parts_32
  · skip
    subst hc
    have hP : va_P (dC, dI) vwCl [(k0, .inr (9, [.ref kN, .ref kA, .ref kO, .ref kK, .ref kV, .ref kG, .ref kP, .ref kC, .ref kD, .ref kE, .ref kF, .ref kX, .ref kY, .int 0, .ref kT, .ref kU, .int 0, .int 0, .int 0])), (kN, .inl (cI, 2, .inl (fun _ => 0))), (kA, .inl (cI, 2, .inl (fun _ => 0)))] _ := hP
    have hD : va_D A [(k0, .inr (9, [.ref kN, .ref kA, .ref kO, .ref kK, .ref kV, .ref kG, .ref kP, .ref kC, .ref kD, .ref kE, .ref kF, .ref kX, .ref kY, .int 0, .ref kT, .ref kU, .int 0, .int 0, .int 0])), (kN, .inl (cI, 2, .inl (fun _ => 0))), (kA, .inl (cI, 2, .inl (fun _ => 0)))] := hD
    refine lv_if_eq (tgt := 12) hx hb dX6_parts_5 (by decide) (fun h9 => absurd h9 (by decide)) (fun _ => ?_)
    refine lv_iconst (v := 0) hx hb dX6_parts_8 (by decide) ?_
    refine lv_goto (tgt := 13) hx hb dX6_parts_9 (by decide) ?_
    refine va_put (D := (dC, dI)) (ci := 9) (v := .int 0) (ty := .int) (C := RX6) (T := TX6) (N := 19) hx hb hts (fun w h => List.mem_cons_of_mem _ (List.mem_append_left _ (List.mem_append_right _ (h)))) tyX6 tyX6_ok nmX6 hown hK hP hD hS 0 rfl rfl 16 (by decide) (hts (.fieldLink RX6 57 "NetcompareModel" "thrown" "I") (List.mem_cons_of_mem _ (List.mem_append_left _ (List.mem_append_left _ (List.mem_of_getElem? (i := 0) rfl))))) (fun _ h9 => h9) rfl (by decide +kernel) rfl rfl (Nat.le_of_ble_eq_true rfl) dX6_parts_13 (fun H locs hP hD hS => ?_)
    have hP : va_P (dC, dI) vwCl [(k0, .inr (9, [.ref kN, .ref kA, .ref kO, .ref kK, .ref kV, .ref kG, .ref kP, .ref kC, .ref kD, .ref kE, .ref kF, .ref kX, .ref kY, .int 0, .ref kT, .ref kU, .int 0, .int 0, .int 0])), (kN, .inl (cI, 2, .inl (fun _ => 0))), (kA, .inl (cI, 2, .inl (fun _ => 0)))] _ := hP
    have hD : va_D A [(k0, .inr (9, [.ref kN, .ref kA, .ref kO, .ref kK, .ref kV, .ref kG, .ref kP, .ref kC, .ref kD, .ref kE, .ref kF, .ref kX, .ref kY, .int 0, .ref kT, .ref kU, .int 0, .int 0, .int 0])), (kN, .inl (cI, 2, .inl (fun _ => 0))), (kA, .inl (cI, 2, .inl (fun _ => 0)))] := hD
    refine lv_aload_n hx hb dX6_parts_16 rfl (lv_at hl 0 rfl) ?_
    refine va_get (D := (dC, dI)) (ci := 9) (v := .int 0) (C := RX6) (T := TX6) (N := 19) hx hb hts (fun w h => List.mem_cons_of_mem _ (List.mem_append_left _ (List.mem_append_right _ (h)))) hown hK hP 0 rfl rfl 16 (by decide) (hts (.fieldLink RX6 57 "NetcompareModel" "thrown" "I") (List.mem_cons_of_mem _ (List.mem_append_left _ (List.mem_append_left _ (List.mem_of_getElem? (i := 0) rfl))))) (fun _ h9 => h9) rfl dX6_parts_17 ?_
    refine lv_if_ne (tgt := 31) hx hb dX6_parts_20 (by decide) (fun h9 => absurd (by decide) h9) (fun _ => ?_)
    refine lv_aload_n hx hb dX6_parts_23 rfl (lv_at hl 0 rfl) ?_
    refine lv_iload_n hx hb dX6_parts_24 rfl (lv_at hl 1 rfl) ?_
    have hPc := hP.sub (ws' := [(k0, .inr (9, [.ref kN, .ref kA, .ref kO, .ref kK, .ref kV, .ref kG, .ref kP, .ref kC, .ref kD, .ref kE, .ref kF, .ref kX, .ref kY, .int 0, .ref kT, .ref kU, .int 0, .int 0, .int 0])), (kA, .inl (cI, 2, .inl (fun _ => 0)))]) [0, 2] rfl
    have hDc := hD.sub (ws' := [(k0, .inr (9, [.ref kN, .ref kA, .ref kO, .ref kK, .ref kV, .ref kG, .ref kP, .ref kC, .ref kD, .ref kE, .ref kF, .ref kX, .ref kY, .int 0, .ref kT, .ref kU, .int 0, .int 0, .int 0])), (kA, .inl (cI, 2, .inl (fun _ => 0)))]) [0, 2] (by decide) rfl
    have hKc := hK.sub (tys' := [(cI, .int)]) [0] rfl
    have hFc := va_free (wc := [(k0, .inr (9, [.ref kN, .ref kA, .ref kO, .ref kK, .ref kV, .ref kG, .ref kP, .ref kC, .ref kD, .ref kE, .ref kF, .ref kX, .ref kY, .int 0, .ref kT, .ref kU, .int 0, .int 0, .int 0])), (kA, .inl (cI, 2, .inl (fun _ => 0)))]) hD hS hA [0, 2] rfl
    refine va_calli (va_runV (As := [.int 1]) (rest := []) ⟨hx, hb, hml, hown, hts⟩ (kX6_partMany1 l dC dI k0 kN kA kO kK kV kG kP kC kD kE kF kX kY kT kU cI H.size) (cwV 1 hts gX6_parts_X6_partMany rfl rfl rfl (by decide +kernel) ⟨Nat.le_of_ble_eq_true rfl, Nat.le_of_ble_eq_true rfl⟩) (fPreV hN hZ hS (fun q h => hFc q h) hPc hKc hDc (ci := 9) (q0 := 0) rfl rfl) rfl rfl hl.1 rfl (lv_room (Nat.le_of_ble_eq_true rfl)) dX6_parts_25 ⟨Nat.le_of_ble_eq_true rfl, Nat.le_of_ble_eq_true rfl⟩) hS (fun q _ h => hFc q h) hFc (fun r u t H1 locs ht hvm hw hB hz1 hk1 hS => ?_)
    obtain ⟨hP1, hK1, hD1⟩ := hB
    rw [ht] at hP1
    have hK1 := va_K.moved hvm.symm hK1
    obtain ⟨hP, hD⟩ := va_join (wr := [(kN, .inl (cI, 2, .inl (fun _ => 0)))]) (w1 := [(k0, .inr (9, [.ref kN, .ref kA, .ref kO, .ref kK, .ref kV, .ref kG, .ref kP, .ref kC, .ref kD, .ref kE, .ref kF, .ref kX, .ref kY, .int 0, .ref kT, .ref kU, .int 0, .int 0, .int 0])), (kA, .inl (cI, 2, .inl (fun _ => 0)))]) hP hD [0, 2] [1] rfl rfl (by decide) (by decide) hk1 hFc hP1 hD1
    generalize H1 = H at hP hS ⊢
    have hP : va_P (dC, dI) vwCl [(kN, .inl (cI, 2, .inl (fun _ => 0))), (k0, .inr (9, [.ref kN, .ref kA, .ref kO, .ref kK, .ref kV, .ref kG, .ref kP, .ref kC, .ref kD, .ref kE, .ref kF, .ref kX, .ref kY, .int 0, .ref kT, .ref kU, .int 0, .int 0, .int 0])), (kA, .inl (cI, 2, .inl (fun _ => 0)))] _ := hP
    have hD : va_D A [(kN, .inl (cI, 2, .inl (fun _ => 0))), (k0, .inr (9, [.ref kN, .ref kA, .ref kO, .ref kK, .ref kV, .ref kG, .ref kP, .ref kC, .ref kD, .ref kE, .ref kF, .ref kX, .ref kY, .int 0, .ref kT, .ref kU, .int 0, .int 0, .int 0])), (kA, .inl (cI, 2, .inl (fun _ => 0)))] := hD
    subst hw
    refine lv_goto (tgt := 32) hx hb dX6_parts_28 (by decide) ?_
    exact ret _ 0 _ _ _ _ _ _ (Or.inl (⟨rfl, rfl, Or.inr (rfl)⟩)) (hP.sub [1] rfl) (hK.sub [] rfl) (hD.sub [1] (by decide) rfl) hS (Nat.le_of_ble_eq_true rfl) (Nat.le_of_ble_eq_true rfl) dX6_parts_32
  · skip
    have hc1 := hc
    refine lv_if_eq (tgt := 12) hx hb dX6_parts_5 (by decide) (fun _ => ?_) (fun h9 => absurd (by decide) h9)
    refine lv_iconst (v := 1) hx hb dX6_parts_12 (by decide) ?_
    refine va_put (D := (dC, dI)) (ci := 9) (v := .int 1) (ty := .int) (C := RX6) (T := TX6) (N := 19) hx hb hts (fun w h => List.mem_cons_of_mem _ (List.mem_append_left _ (List.mem_append_right _ (h)))) tyX6 tyX6_ok nmX6 hown hK hP hD hS 0 rfl rfl 16 (by decide) (hts (.fieldLink RX6 57 "NetcompareModel" "thrown" "I") (List.mem_cons_of_mem _ (List.mem_append_left _ (List.mem_append_left _ (List.mem_of_getElem? (i := 0) rfl))))) (fun _ h9 => h9) rfl (by decide +kernel) rfl rfl (Nat.le_of_ble_eq_true rfl) dX6_parts_13 (fun H locs hP hD hS => ?_)
    have hP : va_P (dC, dI) vwCl [(k0, .inr (9, [.ref kN, .ref kA, .ref kO, .ref kK, .ref kV, .ref kG, .ref kP, .ref kC, .ref kD, .ref kE, .ref kF, .ref kX, .ref kY, .int 0, .ref kT, .ref kU, .int 1, .int 0, .int 0])), (kN, .inl (cI, 2, .inl (fun _ => 0))), (kA, .inl (cI, 2, .inl (fun _ => 0)))] _ := hP
    have hD : va_D A [(k0, .inr (9, [.ref kN, .ref kA, .ref kO, .ref kK, .ref kV, .ref kG, .ref kP, .ref kC, .ref kD, .ref kE, .ref kF, .ref kX, .ref kY, .int 0, .ref kT, .ref kU, .int 1, .int 0, .int 0])), (kN, .inl (cI, 2, .inl (fun _ => 0))), (kA, .inl (cI, 2, .inl (fun _ => 0)))] := hD
    refine lv_aload_n hx hb dX6_parts_16 rfl (lv_at hl 0 rfl) ?_
    refine va_get (D := (dC, dI)) (ci := 9) (v := .int 1) (C := RX6) (T := TX6) (N := 19) hx hb hts (fun w h => List.mem_cons_of_mem _ (List.mem_append_left _ (List.mem_append_right _ (h)))) hown hK hP 0 rfl rfl 16 (by decide) (hts (.fieldLink RX6 57 "NetcompareModel" "thrown" "I") (List.mem_cons_of_mem _ (List.mem_append_left _ (List.mem_append_left _ (List.mem_of_getElem? (i := 0) rfl))))) (fun _ h9 => h9) rfl dX6_parts_17 ?_
    refine lv_if_ne (tgt := 31) hx hb dX6_parts_20 (by decide) (fun _ => ?_) (fun h9 => absurd h9 (by decide))
    refine lv_iconst (v := (-1)) hx hb dX6_parts_31 (by decide) ?_
    exact ret _ 1 _ _ _ _ _ _ (Or.inr (⟨rfl, hc1⟩)) (hP.sub [0] rfl) (hK.sub [] rfl) (hD.sub [0] (by decide) rfl) hS (Nat.le_of_ble_eq_true rfl) (Nat.le_of_ble_eq_true rfl) dX6_parts_32

set_option maxHeartbeats 4000000 in
set_option maxRecDepth 100000 in
/-- the model: valueSum on a fresh one -/
theorem kX6_valueSum (l : Launch) (dC : Nat → ClassId) (dI : Nat → Nat → Nat) (k0 kN kA kO kK kV kG kP kC kD kE kF kX kY kT kU : Nat) (cI : ClassId) (p0 : Int32) (sz : Nat) : fMl l yX6_valueSum wsX6_valueSum ({ frames := 1, cells := 0, slots := 0, locals := 20 } : Room) dC dI [.ref k0, .int p0] [(k0, .inr (9, [.ref kN, .ref kA, .ref kO, .ref kK, .ref kV, .ref kG, .ref kP, .ref kC, .ref kD, .ref kE, .ref kF, .ref kX, .ref kY, .int 0, .ref kT, .ref kU, .int 0, .int 0, .int 0])), (kN, .inl (cI, 2, .inl (fun _ => 0))), (kA, .inl (cI, 2, .inl (fun _ => 0)))] [(cI, .int)] sz (fun (r : Int64) (u : Int32) => u = 0 ∧ r = 0 ∧ ((p0 = 0) ∨ (p0 = 1)) ∨ u = 1 ∧ (¬ ((p0 = 0) ∨ (p0 = 1)))) (fun u => [(k0, .inr (9, [.ref kN, .ref kA, .ref kO, .ref kK, .ref kV, .ref kG, .ref kP, .ref kC, .ref kD, .ref kE, .ref kF, .ref kX, .ref kY, .int 0, .ref kT, .ref kU, .int u, .int 0, .int 0]))]) (fun u => []) := by
  refine oP_l (y := yX6_valueSum) (cc := cX6_valueSum) (maxL := 5) (by decide) rfl (Nat.le_of_ble_eq_true rfl) ?_
  intro p e s m args below meth c ls A Q hx hb hr hml hown hts hN hZ hA hin hlk hP hK hD hl ret
  have hS : va_S A s.heap s.heap [] := va_S.rf
  have hl : lv_has ls 5 [(0, .ref k0), (1, .int p0)] := hl
  have hP : va_P (dC, dI) vwCl [(k0, .inr (9, [.ref kN, .ref kA, .ref kO, .ref kK, .ref kV, .ref kG, .ref kP, .ref kC, .ref kD, .ref kE, .ref kF, .ref kX, .ref kY, .int 0, .ref kT, .ref kU, .int 0, .int 0, .int 0])), (kN, .inl (cI, 2, .inl (fun _ => 0))), (kA, .inl (cI, 2, .inl (fun _ => 0)))] _ := hP
  have hD : va_D A [(k0, .inr (9, [.ref kN, .ref kA, .ref kO, .ref kK, .ref kV, .ref kG, .ref kP, .ref kC, .ref kD, .ref kE, .ref kF, .ref kX, .ref kY, .int 0, .ref kT, .ref kU, .int 0, .int 0, .int 0])), (kN, .inl (cI, 2, .inl (fun _ => 0))), (kA, .inl (cI, 2, .inl (fun _ => 0)))] := hD
  refine lv_aload_n hx hb dX6_valueSum_0 rfl (lv_at hl 0 rfl) ?_
  refine lv_iload_n hx hb dX6_valueSum_1 rfl (lv_at hl 1 rfl) ?_
  have hPc := hP.sub (ws' := []) [] rfl
  have hDc := hD.sub (ws' := []) [] (by decide) rfl
  have hKc := hK.sub (tys' := []) [] rfl
  have hFc := va_free (wc := []) hD hS hA [] rfl
  refine va_calli (va_runS (As := [.int p0]) (rest := [.ref k0]) ⟨hx, hb, hml, hown, hts⟩ (kX6_isCircuit l dC dI p0 s.heap.size) (va_cwS 1 hts gX6_valueSum_X6_isCircuit rfl rfl rfl (by decide +kernel) ⟨Nat.le_of_ble_eq_true rfl, Nat.le_of_ble_eq_true rfl⟩) (fPreS hN hZ hS (fun q h => hFc q h) hPc hKc hDc) rfl rfl hl.1 rfl (lv_room (Nat.le_of_ble_eq_true rfl)) dX6_valueSum_2 ⟨Nat.le_of_ble_eq_true rfl, Nat.le_of_ble_eq_true rfl⟩) hS (fun q _ h => hFc q h) hFc (fun r u t H1 locs ht hvm hw hB hz1 hk1 hS => ?_)
  obtain ⟨hP1, hK1, hD1⟩ := hB
  rw [ht] at hP1
  have hK1 := va_K.moved hvm.symm hK1
  obtain ⟨hP, hD⟩ := va_join (wr := [(k0, .inr (9, [.ref kN, .ref kA, .ref kO, .ref kK, .ref kV, .ref kG, .ref kP, .ref kC, .ref kD, .ref kE, .ref kF, .ref kX, .ref kY, .int 0, .ref kT, .ref kU, .int 0, .int 0, .int 0])), (kN, .inl (cI, 2, .inl (fun _ => 0))), (kA, .inl (cI, 2, .inl (fun _ => 0)))]) (w1 := []) hP hD [] [0, 1, 2] rfl rfl (by decide) (by decide) hk1 hFc hP1 hD1
  generalize H1 = H at hP hS ⊢
  have hP : va_P (dC, dI) vwCl [(k0, .inr (9, [.ref kN, .ref kA, .ref kO, .ref kK, .ref kV, .ref kG, .ref kP, .ref kC, .ref kD, .ref kE, .ref kF, .ref kX, .ref kY, .int 0, .ref kT, .ref kU, .int 0, .int 0, .int 0])), (kN, .inl (cI, 2, .inl (fun _ => 0))), (kA, .inl (cI, 2, .inl (fun _ => 0)))] _ := hP
  have hD : va_D A [(k0, .inr (9, [.ref kN, .ref kA, .ref kO, .ref kK, .ref kV, .ref kG, .ref kP, .ref kC, .ref kD, .ref kE, .ref kF, .ref kX, .ref kY, .int 0, .ref kT, .ref kU, .int 0, .int 0, .int 0])), (kN, .inl (cI, 2, .inl (fun _ => 0))), (kA, .inl (cI, 2, .inl (fun _ => 0)))] := hD
  rcases hw with ⟨rfl, hc | hc⟩ | ⟨rfl, hc⟩
  · skip
    subst hc
    have hP : va_P (dC, dI) vwCl [(k0, .inr (9, [.ref kN, .ref kA, .ref kO, .ref kK, .ref kV, .ref kG, .ref kP, .ref kC, .ref kD, .ref kE, .ref kF, .ref kX, .ref kY, .int 0, .ref kT, .ref kU, .int 0, .int 0, .int 0])), (kN, .inl (cI, 2, .inl (fun _ => 0))), (kA, .inl (cI, 2, .inl (fun _ => 0)))] _ := hP
    have hD : va_D A [(k0, .inr (9, [.ref kN, .ref kA, .ref kO, .ref kK, .ref kV, .ref kG, .ref kP, .ref kC, .ref kD, .ref kE, .ref kF, .ref kX, .ref kY, .int 0, .ref kT, .ref kU, .int 0, .int 0, .int 0])), (kN, .inl (cI, 2, .inl (fun _ => 0))), (kA, .inl (cI, 2, .inl (fun _ => 0)))] := hD
    refine lv_if_eq (tgt := 12) hx hb dX6_valueSum_5 (by decide) (fun h9 => absurd h9 (by decide)) (fun _ => ?_)
    refine lv_iconst (v := 0) hx hb dX6_valueSum_8 (by decide) ?_
    refine lv_goto (tgt := 13) hx hb dX6_valueSum_9 (by decide) ?_
    refine va_put (D := (dC, dI)) (ci := 9) (v := .int 0) (ty := .int) (C := RX6) (T := TX6) (N := 19) hx hb hts (fun w h => List.mem_cons_of_mem _ (List.mem_append_left _ (List.mem_append_right _ (h)))) tyX6 tyX6_ok nmX6 hown hK hP hD hS 0 rfl rfl 16 (by decide) (hts (.fieldLink RX6 57 "NetcompareModel" "thrown" "I") (List.mem_cons_of_mem _ (List.mem_append_left _ (List.mem_append_left _ (List.mem_of_getElem? (i := 0) rfl))))) (fun _ h9 => h9) rfl (by decide +kernel) rfl rfl (Nat.le_of_ble_eq_true rfl) dX6_valueSum_13 (fun H locs hP hD hS => ?_)
    have hP : va_P (dC, dI) vwCl [(k0, .inr (9, [.ref kN, .ref kA, .ref kO, .ref kK, .ref kV, .ref kG, .ref kP, .ref kC, .ref kD, .ref kE, .ref kF, .ref kX, .ref kY, .int 0, .ref kT, .ref kU, .int 0, .int 0, .int 0])), (kN, .inl (cI, 2, .inl (fun _ => 0))), (kA, .inl (cI, 2, .inl (fun _ => 0)))] _ := hP
    have hD : va_D A [(k0, .inr (9, [.ref kN, .ref kA, .ref kO, .ref kK, .ref kV, .ref kG, .ref kP, .ref kC, .ref kD, .ref kE, .ref kF, .ref kX, .ref kY, .int 0, .ref kT, .ref kU, .int 0, .int 0, .int 0])), (kN, .inl (cI, 2, .inl (fun _ => 0))), (kA, .inl (cI, 2, .inl (fun _ => 0)))] := hD
    refine lv_lconst (v := 0) hx hb dX6_valueSum_16 (by decide) ?_
    refine lv_lstore_n (lv' := [(2, .long 0), (0, .ref k0), (1, .int 0)]) hx hb dX6_valueSum_17 rfl hl (Nat.le_of_ble_eq_true rfl) rfl (fun ls hl => ?_)
    refine lv_iconst (v := 0) hx hb dX6_valueSum_18 (by decide) ?_
    refine lv_istore (lv' := [(4, .int 0), (2, .long 0), (0, .ref k0), (1, .int 0)]) hx hb dX6_valueSum_19 hl (Nat.le_of_ble_eq_true rfl) rfl (fun ls hl => ?_)
    refine lv_aload_n hx hb dX6_valueSum_21 rfl (lv_at hl 2 rfl) ?_
    refine va_get (D := (dC, dI)) (ci := 9) (v := .int 0) (C := RX6) (T := TX6) (N := 19) hx hb hts (fun w h => List.mem_cons_of_mem _ (List.mem_append_left _ (List.mem_append_right _ (h)))) hown hK hP 0 rfl rfl 16 (by decide) (hts (.fieldLink RX6 57 "NetcompareModel" "thrown" "I") (List.mem_cons_of_mem _ (List.mem_append_left _ (List.mem_append_left _ (List.mem_of_getElem? (i := 0) rfl))))) (fun _ h9 => h9) rfl dX6_valueSum_22 ?_
    refine lv_if_ne (tgt := 70) hx hb dX6_valueSum_25 (by decide) (fun h9 => absurd (by decide) h9) (fun _ => ?_)
    refine lv_iload hx hb dX6_valueSum_28 (lv_at hl 0 rfl) ?_
    refine lv_aload_n hx hb dX6_valueSum_30 rfl (lv_at hl 2 rfl) ?_
    refine va_get (D := (dC, dI)) (ci := 9) (v := .ref kA) (C := RX6) (T := TX6) (N := 19) hx hb hts (fun w h => List.mem_cons_of_mem _ (List.mem_append_left _ (List.mem_append_right _ (h)))) hown hK hP 0 rfl rfl 1 (by decide) (hts (.fieldLink RX6 13 "NetcompareModel" "added" "[I") (List.mem_cons_of_mem _ (List.mem_append_left _ (List.mem_append_left _ (List.mem_of_getElem? (i := 1) rfl))))) (fun _ h9 => h9) rfl dX6_valueSum_31 ?_
    refine lv_iload_n hx hb dX6_valueSum_34 rfl (lv_at hl 3 rfl) ?_
    refine va_iald hx hb hK hP 2 0 rfl rfl (show ¬ (_ ∨ _) by decide) dX6_valueSum_35 ?_
    refine W.eq (g2 := F0 m 36 ls [.int 0, .int 0]) rfl ?_
    refine lv_icmp_ge (tgt := 70) hx hb dX6_valueSum_36 (by decide) (fun _ => ?_) (fun h9 => absurd (by decide) h9)
    refine lv_lload_n hx hb dX6_valueSum_70 rfl (lv_at hl 1 rfl) ?_
    exact ret _ 0 _ _ _ _ _ _ (Or.inl (⟨rfl, rfl, Or.inl (rfl)⟩)) (hP.sub [0] rfl) (hK.sub [] rfl) (hD.sub [0] (by decide) rfl) hS (Nat.le_of_ble_eq_true rfl) (Nat.le_of_ble_eq_true rfl) dX6_valueSum_71
  · skip
    subst hc
    have hP : va_P (dC, dI) vwCl [(k0, .inr (9, [.ref kN, .ref kA, .ref kO, .ref kK, .ref kV, .ref kG, .ref kP, .ref kC, .ref kD, .ref kE, .ref kF, .ref kX, .ref kY, .int 0, .ref kT, .ref kU, .int 0, .int 0, .int 0])), (kN, .inl (cI, 2, .inl (fun _ => 0))), (kA, .inl (cI, 2, .inl (fun _ => 0)))] _ := hP
    have hD : va_D A [(k0, .inr (9, [.ref kN, .ref kA, .ref kO, .ref kK, .ref kV, .ref kG, .ref kP, .ref kC, .ref kD, .ref kE, .ref kF, .ref kX, .ref kY, .int 0, .ref kT, .ref kU, .int 0, .int 0, .int 0])), (kN, .inl (cI, 2, .inl (fun _ => 0))), (kA, .inl (cI, 2, .inl (fun _ => 0)))] := hD
    refine lv_if_eq (tgt := 12) hx hb dX6_valueSum_5 (by decide) (fun h9 => absurd h9 (by decide)) (fun _ => ?_)
    refine lv_iconst (v := 0) hx hb dX6_valueSum_8 (by decide) ?_
    refine lv_goto (tgt := 13) hx hb dX6_valueSum_9 (by decide) ?_
    refine va_put (D := (dC, dI)) (ci := 9) (v := .int 0) (ty := .int) (C := RX6) (T := TX6) (N := 19) hx hb hts (fun w h => List.mem_cons_of_mem _ (List.mem_append_left _ (List.mem_append_right _ (h)))) tyX6 tyX6_ok nmX6 hown hK hP hD hS 0 rfl rfl 16 (by decide) (hts (.fieldLink RX6 57 "NetcompareModel" "thrown" "I") (List.mem_cons_of_mem _ (List.mem_append_left _ (List.mem_append_left _ (List.mem_of_getElem? (i := 0) rfl))))) (fun _ h9 => h9) rfl (by decide +kernel) rfl rfl (Nat.le_of_ble_eq_true rfl) dX6_valueSum_13 (fun H locs hP hD hS => ?_)
    have hP : va_P (dC, dI) vwCl [(k0, .inr (9, [.ref kN, .ref kA, .ref kO, .ref kK, .ref kV, .ref kG, .ref kP, .ref kC, .ref kD, .ref kE, .ref kF, .ref kX, .ref kY, .int 0, .ref kT, .ref kU, .int 0, .int 0, .int 0])), (kN, .inl (cI, 2, .inl (fun _ => 0))), (kA, .inl (cI, 2, .inl (fun _ => 0)))] _ := hP
    have hD : va_D A [(k0, .inr (9, [.ref kN, .ref kA, .ref kO, .ref kK, .ref kV, .ref kG, .ref kP, .ref kC, .ref kD, .ref kE, .ref kF, .ref kX, .ref kY, .int 0, .ref kT, .ref kU, .int 0, .int 0, .int 0])), (kN, .inl (cI, 2, .inl (fun _ => 0))), (kA, .inl (cI, 2, .inl (fun _ => 0)))] := hD
    refine lv_lconst (v := 0) hx hb dX6_valueSum_16 (by decide) ?_
    refine lv_lstore_n (lv' := [(2, .long 0), (0, .ref k0), (1, .int 1)]) hx hb dX6_valueSum_17 rfl hl (Nat.le_of_ble_eq_true rfl) rfl (fun ls hl => ?_)
    refine lv_iconst (v := 0) hx hb dX6_valueSum_18 (by decide) ?_
    refine lv_istore (lv' := [(4, .int 0), (2, .long 0), (0, .ref k0), (1, .int 1)]) hx hb dX6_valueSum_19 hl (Nat.le_of_ble_eq_true rfl) rfl (fun ls hl => ?_)
    refine lv_aload_n hx hb dX6_valueSum_21 rfl (lv_at hl 2 rfl) ?_
    refine va_get (D := (dC, dI)) (ci := 9) (v := .int 0) (C := RX6) (T := TX6) (N := 19) hx hb hts (fun w h => List.mem_cons_of_mem _ (List.mem_append_left _ (List.mem_append_right _ (h)))) hown hK hP 0 rfl rfl 16 (by decide) (hts (.fieldLink RX6 57 "NetcompareModel" "thrown" "I") (List.mem_cons_of_mem _ (List.mem_append_left _ (List.mem_append_left _ (List.mem_of_getElem? (i := 0) rfl))))) (fun _ h9 => h9) rfl dX6_valueSum_22 ?_
    refine lv_if_ne (tgt := 70) hx hb dX6_valueSum_25 (by decide) (fun h9 => absurd (by decide) h9) (fun _ => ?_)
    refine lv_iload hx hb dX6_valueSum_28 (lv_at hl 0 rfl) ?_
    refine lv_aload_n hx hb dX6_valueSum_30 rfl (lv_at hl 2 rfl) ?_
    refine va_get (D := (dC, dI)) (ci := 9) (v := .ref kA) (C := RX6) (T := TX6) (N := 19) hx hb hts (fun w h => List.mem_cons_of_mem _ (List.mem_append_left _ (List.mem_append_right _ (h)))) hown hK hP 0 rfl rfl 1 (by decide) (hts (.fieldLink RX6 13 "NetcompareModel" "added" "[I") (List.mem_cons_of_mem _ (List.mem_append_left _ (List.mem_append_left _ (List.mem_of_getElem? (i := 1) rfl))))) (fun _ h9 => h9) rfl dX6_valueSum_31 ?_
    refine lv_iload_n hx hb dX6_valueSum_34 rfl (lv_at hl 3 rfl) ?_
    refine va_iald hx hb hK hP 2 0 rfl rfl (show ¬ (_ ∨ _) by decide) dX6_valueSum_35 ?_
    refine W.eq (g2 := F0 m 36 ls [.int 0, .int 0]) rfl ?_
    refine lv_icmp_ge (tgt := 70) hx hb dX6_valueSum_36 (by decide) (fun _ => ?_) (fun h9 => absurd (by decide) h9)
    refine lv_lload_n hx hb dX6_valueSum_70 rfl (lv_at hl 1 rfl) ?_
    exact ret _ 0 _ _ _ _ _ _ (Or.inl (⟨rfl, rfl, Or.inr (rfl)⟩)) (hP.sub [0] rfl) (hK.sub [] rfl) (hD.sub [0] (by decide) rfl) hS (Nat.le_of_ble_eq_true rfl) (Nat.le_of_ble_eq_true rfl) dX6_valueSum_71
  · skip
    have hc1 := hc
    refine lv_if_eq (tgt := 12) hx hb dX6_valueSum_5 (by decide) (fun _ => ?_) (fun h9 => absurd (by decide) h9)
    refine lv_iconst (v := 1) hx hb dX6_valueSum_12 (by decide) ?_
    refine va_put (D := (dC, dI)) (ci := 9) (v := .int 1) (ty := .int) (C := RX6) (T := TX6) (N := 19) hx hb hts (fun w h => List.mem_cons_of_mem _ (List.mem_append_left _ (List.mem_append_right _ (h)))) tyX6 tyX6_ok nmX6 hown hK hP hD hS 0 rfl rfl 16 (by decide) (hts (.fieldLink RX6 57 "NetcompareModel" "thrown" "I") (List.mem_cons_of_mem _ (List.mem_append_left _ (List.mem_append_left _ (List.mem_of_getElem? (i := 0) rfl))))) (fun _ h9 => h9) rfl (by decide +kernel) rfl rfl (Nat.le_of_ble_eq_true rfl) dX6_valueSum_13 (fun H locs hP hD hS => ?_)
    have hP : va_P (dC, dI) vwCl [(k0, .inr (9, [.ref kN, .ref kA, .ref kO, .ref kK, .ref kV, .ref kG, .ref kP, .ref kC, .ref kD, .ref kE, .ref kF, .ref kX, .ref kY, .int 0, .ref kT, .ref kU, .int 1, .int 0, .int 0])), (kN, .inl (cI, 2, .inl (fun _ => 0))), (kA, .inl (cI, 2, .inl (fun _ => 0)))] _ := hP
    have hD : va_D A [(k0, .inr (9, [.ref kN, .ref kA, .ref kO, .ref kK, .ref kV, .ref kG, .ref kP, .ref kC, .ref kD, .ref kE, .ref kF, .ref kX, .ref kY, .int 0, .ref kT, .ref kU, .int 1, .int 0, .int 0])), (kN, .inl (cI, 2, .inl (fun _ => 0))), (kA, .inl (cI, 2, .inl (fun _ => 0)))] := hD
    refine lv_lconst (v := 0) hx hb dX6_valueSum_16 (by decide) ?_
    refine lv_lstore_n (lv' := [(2, .long 0), (0, .ref k0), (1, .int p0)]) hx hb dX6_valueSum_17 rfl hl (Nat.le_of_ble_eq_true rfl) rfl (fun ls hl => ?_)
    refine lv_iconst (v := 0) hx hb dX6_valueSum_18 (by decide) ?_
    refine lv_istore (lv' := [(4, .int 0), (2, .long 0), (0, .ref k0), (1, .int p0)]) hx hb dX6_valueSum_19 hl (Nat.le_of_ble_eq_true rfl) rfl (fun ls hl => ?_)
    refine lv_aload_n hx hb dX6_valueSum_21 rfl (lv_at hl 2 rfl) ?_
    refine va_get (D := (dC, dI)) (ci := 9) (v := .int 1) (C := RX6) (T := TX6) (N := 19) hx hb hts (fun w h => List.mem_cons_of_mem _ (List.mem_append_left _ (List.mem_append_right _ (h)))) hown hK hP 0 rfl rfl 16 (by decide) (hts (.fieldLink RX6 57 "NetcompareModel" "thrown" "I") (List.mem_cons_of_mem _ (List.mem_append_left _ (List.mem_append_left _ (List.mem_of_getElem? (i := 0) rfl))))) (fun _ h9 => h9) rfl dX6_valueSum_22 ?_
    refine lv_if_ne (tgt := 70) hx hb dX6_valueSum_25 (by decide) (fun _ => ?_) (fun h9 => absurd h9 (by decide))
    refine lv_lload_n hx hb dX6_valueSum_70 rfl (lv_at hl 1 rfl) ?_
    exact ret _ 1 _ _ _ _ _ _ (Or.inr (⟨rfl, hc1⟩)) (hP.sub [0] rfl) (hK.sub [] rfl) (hD.sub [0] (by decide) rfl) hS (Nat.le_of_ble_eq_true rfl) (Nat.le_of_ble_eq_true rfl) dX6_valueSum_71

set_option maxHeartbeats 4000000 in
set_option maxRecDepth 100000 in
/-- the model: rounds on a fresh one -/
theorem kX6_rounds (l : Launch) (dC : Nat → ClassId) (dI : Nat → Nat → Nat) (k0 kN kA kO kK kV kG kP kC kD kE kF kX kY kT kU : Nat) (cI : ClassId) (g1 g2 g3 g4 : Nat → Int32) (sz : Nat) : fMi l yX6_rounds wsX6_rounds ({ frames := 5, cells := 2, slots := 40, locals := 116 } : Room) dC dI [.ref k0] [(k0, .inr (9, [.ref kN, .ref kA, .ref kO, .ref kK, .ref kV, .ref kG, .ref kP, .ref kC, .ref kD, .ref kE, .ref kF, .ref kX, .ref kY, .int 0, .ref kT, .ref kU, .int 0, .int 0, .int 0])), (kN, .inl (cI, 2, .inl (fun _ => 0))), (kA, .inl (cI, 2, .inl (fun _ => 0))), (kC, .inl (cI, 20, .inl g1)), (kD, .inl (cI, 20, .inl g2)), (kE, .inl (cI, 20, .inl g3)), (kF, .inl (cI, 20, .inl g4))] [(cI, .int)] sz (fun (r : Int32) (u : Int32) => u = 0 ∧ r = 0) (fun u => [(k0, .inr (9, [.ref kN, .ref kA, .ref kO, .ref kK, .ref kV, .ref kG, .ref kP, .ref kC, .ref kD, .ref kE, .ref kF, .ref kX, .ref kY, .int 0, .ref kT, .ref kU, .int u, .int 0, .int 0]))]) (fun u => []) := by
  refine oP_i (y := yX6_rounds) (cc := cX6_rounds) (maxL := 1) (by decide) rfl (Nat.le_of_ble_eq_true rfl) ?_
  intro p e s m args below meth c ls A Q hx hb hr hml hown hts hN hZ hA hin hlk hP hK hD hl ret
  have hS : va_S A s.heap s.heap [] := va_S.rf
  have hl : lv_has ls 1 [(0, .ref k0)] := hl
  have hP : va_P (dC, dI) vwCl [(k0, .inr (9, [.ref kN, .ref kA, .ref kO, .ref kK, .ref kV, .ref kG, .ref kP, .ref kC, .ref kD, .ref kE, .ref kF, .ref kX, .ref kY, .int 0, .ref kT, .ref kU, .int 0, .int 0, .int 0])), (kN, .inl (cI, 2, .inl (fun _ => 0))), (kA, .inl (cI, 2, .inl (fun _ => 0))), (kC, .inl (cI, 20, .inl g1)), (kD, .inl (cI, 20, .inl g2)), (kE, .inl (cI, 20, .inl g3)), (kF, .inl (cI, 20, .inl g4))] _ := hP
  have hD : va_D A [(k0, .inr (9, [.ref kN, .ref kA, .ref kO, .ref kK, .ref kV, .ref kG, .ref kP, .ref kC, .ref kD, .ref kE, .ref kF, .ref kX, .ref kY, .int 0, .ref kT, .ref kU, .int 0, .int 0, .int 0])), (kN, .inl (cI, 2, .inl (fun _ => 0))), (kA, .inl (cI, 2, .inl (fun _ => 0))), (kC, .inl (cI, 20, .inl g1)), (kD, .inl (cI, 20, .inl g2)), (kE, .inl (cI, 20, .inl g3)), (kF, .inl (cI, 20, .inl g4))] := hD
  refine lv_aload_n hx hb dX6_rounds_0 rfl (lv_at hl 0 rfl) ?_
  refine lv_iconst (v := 0) hx hb dX6_rounds_1 (by decide) ?_
  refine va_put (D := (dC, dI)) (ci := 9) (v := .int 0) (ty := .int) (C := RX6) (T := TX6) (N := 19) hx hb hts (fun w h => List.mem_cons_of_mem _ (List.mem_append_left _ (List.mem_append_right _ (h)))) tyX6 tyX6_ok nmX6 hown hK hP hD hS 0 rfl rfl 16 (by decide) (hts (.fieldLink RX6 57 "NetcompareModel" "thrown" "I") (List.mem_cons_of_mem _ (List.mem_append_left _ (List.mem_append_left _ (List.mem_append_left _ (List.mem_of_getElem? (i := 0) rfl)))))) (fun _ h9 => h9) rfl (by decide +kernel) rfl rfl (Nat.le_of_ble_eq_true rfl) dX6_rounds_2 (fun H locs hP hD hS => ?_)
  have hP : va_P (dC, dI) vwCl [(k0, .inr (9, [.ref kN, .ref kA, .ref kO, .ref kK, .ref kV, .ref kG, .ref kP, .ref kC, .ref kD, .ref kE, .ref kF, .ref kX, .ref kY, .int 0, .ref kT, .ref kU, .int 0, .int 0, .int 0])), (kN, .inl (cI, 2, .inl (fun _ => 0))), (kA, .inl (cI, 2, .inl (fun _ => 0))), (kC, .inl (cI, 20, .inl g1)), (kD, .inl (cI, 20, .inl g2)), (kE, .inl (cI, 20, .inl g3)), (kF, .inl (cI, 20, .inl g4))] _ := hP
  have hD : va_D A [(k0, .inr (9, [.ref kN, .ref kA, .ref kO, .ref kK, .ref kV, .ref kG, .ref kP, .ref kC, .ref kD, .ref kE, .ref kF, .ref kX, .ref kY, .int 0, .ref kT, .ref kU, .int 0, .int 0, .int 0])), (kN, .inl (cI, 2, .inl (fun _ => 0))), (kA, .inl (cI, 2, .inl (fun _ => 0))), (kC, .inl (cI, 20, .inl g1)), (kD, .inl (cI, 20, .inl g2)), (kE, .inl (cI, 20, .inl g3)), (kF, .inl (cI, 20, .inl g4))] := hD
  refine lv_aload_n hx hb dX6_rounds_5 rfl (lv_at hl 0 rfl) ?_
  have hPc := hP.sub (ws' := [(k0, .inr (9, [.ref kN, .ref kA, .ref kO, .ref kK, .ref kV, .ref kG, .ref kP, .ref kC, .ref kD, .ref kE, .ref kF, .ref kX, .ref kY, .int 0, .ref kT, .ref kU, .int 0, .int 0, .int 0])), (kN, .inl (cI, 2, .inl (fun _ => 0))), (kA, .inl (cI, 2, .inl (fun _ => 0))), (kC, .inl (cI, 20, .inl g1)), (kD, .inl (cI, 20, .inl g2)), (kE, .inl (cI, 20, .inl g3)), (kF, .inl (cI, 20, .inl g4))]) [0, 1, 2, 3, 4, 5, 6] rfl
  have hDc := hD.sub (ws' := [(k0, .inr (9, [.ref kN, .ref kA, .ref kO, .ref kK, .ref kV, .ref kG, .ref kP, .ref kC, .ref kD, .ref kE, .ref kF, .ref kX, .ref kY, .int 0, .ref kT, .ref kU, .int 0, .int 0, .int 0])), (kN, .inl (cI, 2, .inl (fun _ => 0))), (kA, .inl (cI, 2, .inl (fun _ => 0))), (kC, .inl (cI, 20, .inl g1)), (kD, .inl (cI, 20, .inl g2)), (kE, .inl (cI, 20, .inl g3)), (kF, .inl (cI, 20, .inl g4))]) [0, 1, 2, 3, 4, 5, 6] (by decide) rfl
  have hKc := hK.sub (tys' := [(cI, .int)]) [0] rfl
  have hFc := va_free (wc := [(k0, .inr (9, [.ref kN, .ref kA, .ref kO, .ref kK, .ref kV, .ref kG, .ref kP, .ref kC, .ref kD, .ref kE, .ref kF, .ref kX, .ref kY, .int 0, .ref kT, .ref kU, .int 0, .int 0, .int 0])), (kN, .inl (cI, 2, .inl (fun _ => 0))), (kA, .inl (cI, 2, .inl (fun _ => 0))), (kC, .inl (cI, 20, .inl g1)), (kD, .inl (cI, 20, .inl g2)), (kE, .inl (cI, 20, .inl g3)), (kF, .inl (cI, 20, .inl g4))]) hD hS hA [0, 1, 2, 3, 4, 5, 6] rfl
  refine va_callv (va_runV (As := []) (rest := []) ⟨hx, hb, hml, hown, hts⟩ (kX6_colours l dC dI k0 kN kA kO kK kV kG kP kC kD kE kF kX kY kT kU cI g1 g2 g3 g4 H.size) (cwV 0 hts gX6_rounds_X6_colours rfl rfl rfl (by decide +kernel) ⟨Nat.le_of_ble_eq_true rfl, Nat.le_of_ble_eq_true rfl⟩) (fPreV hN hZ hS (fun q h => hFc q h) hPc hKc hDc (ci := 9) (q0 := 0) rfl rfl) rfl rfl hl.1 rfl (lv_room (Nat.le_of_ble_eq_true rfl)) dX6_rounds_6 ⟨Nat.le_of_ble_eq_true rfl, Nat.le_of_ble_eq_true rfl⟩) hS (fun q _ h => hFc q h) hFc (fun u t H1 locs ht hvm hw hB hz1 hk1 hS => ?_)
  obtain ⟨hP1, hK1, hD1⟩ := hB
  rw [ht] at hP1
  have hK1 := va_K.moved hvm.symm hK1
  obtain ⟨u1, u2⟩ := u
  obtain ⟨hP, hD⟩ := va_join (wr := []) (w1 := [(k0, .inr (9, [.ref kN, .ref kA, .ref kO, .ref kK, .ref kV, .ref kG, .ref kP, .ref kC, .ref kD, .ref kE, .ref kF, .ref kX, .ref kY, .int 0, .ref kT, .ref kU, .int 0, .int 0, .int 0])), (kN, .inl (cI, 2, .inl (fun _ => 0))), (kA, .inl (cI, 2, .inl (fun _ => 0))), (kC, .inl (cI, 20, .inl u1)), (kD, .inl (cI, 20, .inl u2))]) hP hD [0, 1, 2, 3, 4, 5, 6] [] rfl rfl (by decide) (by decide) hk1 hFc hP1 hD1
  generalize H1 = H at hP hS ⊢
  have hP : va_P (dC, dI) vwCl [(k0, .inr (9, [.ref kN, .ref kA, .ref kO, .ref kK, .ref kV, .ref kG, .ref kP, .ref kC, .ref kD, .ref kE, .ref kF, .ref kX, .ref kY, .int 0, .ref kT, .ref kU, .int 0, .int 0, .int 0])), (kN, .inl (cI, 2, .inl (fun _ => 0))), (kA, .inl (cI, 2, .inl (fun _ => 0))), (kC, .inl (cI, 20, .inl u1)), (kD, .inl (cI, 20, .inl u2))] _ := hP
  have hD : va_D A [(k0, .inr (9, [.ref kN, .ref kA, .ref kO, .ref kK, .ref kV, .ref kG, .ref kP, .ref kC, .ref kD, .ref kE, .ref kF, .ref kX, .ref kY, .int 0, .ref kT, .ref kU, .int 0, .int 0, .int 0])), (kN, .inl (cI, 2, .inl (fun _ => 0))), (kA, .inl (cI, 2, .inl (fun _ => 0))), (kC, .inl (cI, 20, .inl u1)), (kD, .inl (cI, 20, .inl u2))] := hD
  refine W.widen (k := 2) (n := 40) (Nat.le_of_ble_eq_true rfl) (Nat.le_of_ble_eq_true rfl) ?_
  have hu3 := hw
  refine lv_aload_n hx hb dX6_rounds_9 rfl (lv_at hl 0 rfl) ?_
  refine va_get (D := (dC, dI)) (ci := 9) (v := .int 0) (C := RX6) (T := TX6) (N := 19) hx hb hts (fun w h => List.mem_cons_of_mem _ (List.mem_append_left _ (List.mem_append_right _ (h)))) hown hK hP 0 rfl rfl 13 (by decide) (hts (.fieldLink RX6 218 "NetcompareModel" "roundMany" "I") (List.mem_cons_of_mem _ (List.mem_append_left _ (List.mem_append_left _ (List.mem_append_left _ (List.mem_of_getElem? (i := 1) rfl)))))) (fun _ h9 => h9) rfl dX6_rounds_10 ?_
  exact ret _ 0 _ _ _ _ _ _ (⟨rfl, rfl⟩) (hP.sub [0] rfl) (hK.sub [] rfl) (hD.sub [0] (by decide) rfl) hS (Nat.le_of_ble_eq_true rfl) (Nat.le_of_ble_eq_true rfl) dX6_rounds_13

set_option maxHeartbeats 4000000 in
set_option maxRecDepth 100000 in
/-- the model: netClasses on a fresh one -/
theorem kX6_netClasses (l : Launch) (dC : Nat → ClassId) (dI : Nat → Nat → Nat) (k0 kN kA kO kK kV kG kP kC kD kE kF kX kY kT kU : Nat) (cI : ClassId) (g1 g2 g3 g4 : Nat → Int32) (sz : Nat) : fMi l yX6_netClasses wsX6_netClasses ({ frames := 5, cells := 2, slots := 40, locals := 116 } : Room) dC dI [.ref k0] [(k0, .inr (9, [.ref kN, .ref kA, .ref kO, .ref kK, .ref kV, .ref kG, .ref kP, .ref kC, .ref kD, .ref kE, .ref kF, .ref kX, .ref kY, .int 0, .ref kT, .ref kU, .int 0, .int 0, .int 0])), (kN, .inl (cI, 2, .inl (fun _ => 0))), (kA, .inl (cI, 2, .inl (fun _ => 0))), (kC, .inl (cI, 20, .inl g1)), (kD, .inl (cI, 20, .inl g2)), (kE, .inl (cI, 20, .inl g3)), (kF, .inl (cI, 20, .inl g4))] [(cI, .int)] sz (fun (r : Int32) (u : Int32) => u = 0 ∧ r = 0) (fun u => [(k0, .inr (9, [.ref kN, .ref kA, .ref kO, .ref kK, .ref kV, .ref kG, .ref kP, .ref kC, .ref kD, .ref kE, .ref kF, .ref kX, .ref kY, .int 0, .ref kT, .ref kU, .int u, .int 0, .int 0]))]) (fun u => []) := by
  refine oP_i (y := yX6_netClasses) (cc := cX6_netClasses) (maxL := 1) (by decide) rfl (Nat.le_of_ble_eq_true rfl) ?_
  intro p e s m args below meth c ls A Q hx hb hr hml hown hts hN hZ hA hin hlk hP hK hD hl ret
  have hS : va_S A s.heap s.heap [] := va_S.rf
  have hl : lv_has ls 1 [(0, .ref k0)] := hl
  have hP : va_P (dC, dI) vwCl [(k0, .inr (9, [.ref kN, .ref kA, .ref kO, .ref kK, .ref kV, .ref kG, .ref kP, .ref kC, .ref kD, .ref kE, .ref kF, .ref kX, .ref kY, .int 0, .ref kT, .ref kU, .int 0, .int 0, .int 0])), (kN, .inl (cI, 2, .inl (fun _ => 0))), (kA, .inl (cI, 2, .inl (fun _ => 0))), (kC, .inl (cI, 20, .inl g1)), (kD, .inl (cI, 20, .inl g2)), (kE, .inl (cI, 20, .inl g3)), (kF, .inl (cI, 20, .inl g4))] _ := hP
  have hD : va_D A [(k0, .inr (9, [.ref kN, .ref kA, .ref kO, .ref kK, .ref kV, .ref kG, .ref kP, .ref kC, .ref kD, .ref kE, .ref kF, .ref kX, .ref kY, .int 0, .ref kT, .ref kU, .int 0, .int 0, .int 0])), (kN, .inl (cI, 2, .inl (fun _ => 0))), (kA, .inl (cI, 2, .inl (fun _ => 0))), (kC, .inl (cI, 20, .inl g1)), (kD, .inl (cI, 20, .inl g2)), (kE, .inl (cI, 20, .inl g3)), (kF, .inl (cI, 20, .inl g4))] := hD
  refine lv_aload_n hx hb dX6_netClasses_0 rfl (lv_at hl 0 rfl) ?_
  refine lv_iconst (v := 0) hx hb dX6_netClasses_1 (by decide) ?_
  refine va_put (D := (dC, dI)) (ci := 9) (v := .int 0) (ty := .int) (C := RX6) (T := TX6) (N := 19) hx hb hts (fun w h => List.mem_cons_of_mem _ (List.mem_append_left _ (List.mem_append_right _ (h)))) tyX6 tyX6_ok nmX6 hown hK hP hD hS 0 rfl rfl 16 (by decide) (hts (.fieldLink RX6 57 "NetcompareModel" "thrown" "I") (List.mem_cons_of_mem _ (List.mem_append_left _ (List.mem_append_left _ (List.mem_append_left _ (List.mem_of_getElem? (i := 0) rfl)))))) (fun _ h9 => h9) rfl (by decide +kernel) rfl rfl (Nat.le_of_ble_eq_true rfl) dX6_netClasses_2 (fun H locs hP hD hS => ?_)
  have hP : va_P (dC, dI) vwCl [(k0, .inr (9, [.ref kN, .ref kA, .ref kO, .ref kK, .ref kV, .ref kG, .ref kP, .ref kC, .ref kD, .ref kE, .ref kF, .ref kX, .ref kY, .int 0, .ref kT, .ref kU, .int 0, .int 0, .int 0])), (kN, .inl (cI, 2, .inl (fun _ => 0))), (kA, .inl (cI, 2, .inl (fun _ => 0))), (kC, .inl (cI, 20, .inl g1)), (kD, .inl (cI, 20, .inl g2)), (kE, .inl (cI, 20, .inl g3)), (kF, .inl (cI, 20, .inl g4))] _ := hP
  have hD : va_D A [(k0, .inr (9, [.ref kN, .ref kA, .ref kO, .ref kK, .ref kV, .ref kG, .ref kP, .ref kC, .ref kD, .ref kE, .ref kF, .ref kX, .ref kY, .int 0, .ref kT, .ref kU, .int 0, .int 0, .int 0])), (kN, .inl (cI, 2, .inl (fun _ => 0))), (kA, .inl (cI, 2, .inl (fun _ => 0))), (kC, .inl (cI, 20, .inl g1)), (kD, .inl (cI, 20, .inl g2)), (kE, .inl (cI, 20, .inl g3)), (kF, .inl (cI, 20, .inl g4))] := hD
  refine lv_aload_n hx hb dX6_netClasses_5 rfl (lv_at hl 0 rfl) ?_
  have hPc := hP.sub (ws' := [(k0, .inr (9, [.ref kN, .ref kA, .ref kO, .ref kK, .ref kV, .ref kG, .ref kP, .ref kC, .ref kD, .ref kE, .ref kF, .ref kX, .ref kY, .int 0, .ref kT, .ref kU, .int 0, .int 0, .int 0])), (kN, .inl (cI, 2, .inl (fun _ => 0))), (kA, .inl (cI, 2, .inl (fun _ => 0))), (kC, .inl (cI, 20, .inl g1)), (kD, .inl (cI, 20, .inl g2)), (kE, .inl (cI, 20, .inl g3)), (kF, .inl (cI, 20, .inl g4))]) [0, 1, 2, 3, 4, 5, 6] rfl
  have hDc := hD.sub (ws' := [(k0, .inr (9, [.ref kN, .ref kA, .ref kO, .ref kK, .ref kV, .ref kG, .ref kP, .ref kC, .ref kD, .ref kE, .ref kF, .ref kX, .ref kY, .int 0, .ref kT, .ref kU, .int 0, .int 0, .int 0])), (kN, .inl (cI, 2, .inl (fun _ => 0))), (kA, .inl (cI, 2, .inl (fun _ => 0))), (kC, .inl (cI, 20, .inl g1)), (kD, .inl (cI, 20, .inl g2)), (kE, .inl (cI, 20, .inl g3)), (kF, .inl (cI, 20, .inl g4))]) [0, 1, 2, 3, 4, 5, 6] (by decide) rfl
  have hKc := hK.sub (tys' := [(cI, .int)]) [0] rfl
  have hFc := va_free (wc := [(k0, .inr (9, [.ref kN, .ref kA, .ref kO, .ref kK, .ref kV, .ref kG, .ref kP, .ref kC, .ref kD, .ref kE, .ref kF, .ref kX, .ref kY, .int 0, .ref kT, .ref kU, .int 0, .int 0, .int 0])), (kN, .inl (cI, 2, .inl (fun _ => 0))), (kA, .inl (cI, 2, .inl (fun _ => 0))), (kC, .inl (cI, 20, .inl g1)), (kD, .inl (cI, 20, .inl g2)), (kE, .inl (cI, 20, .inl g3)), (kF, .inl (cI, 20, .inl g4))]) hD hS hA [0, 1, 2, 3, 4, 5, 6] rfl
  refine va_callv (va_runV (As := []) (rest := []) ⟨hx, hb, hml, hown, hts⟩ (kX6_colours l dC dI k0 kN kA kO kK kV kG kP kC kD kE kF kX kY kT kU cI g1 g2 g3 g4 H.size) (cwV 0 hts gX6_netClasses_X6_colours rfl rfl rfl (by decide +kernel) ⟨Nat.le_of_ble_eq_true rfl, Nat.le_of_ble_eq_true rfl⟩) (fPreV hN hZ hS (fun q h => hFc q h) hPc hKc hDc (ci := 9) (q0 := 0) rfl rfl) rfl rfl hl.1 rfl (lv_room (Nat.le_of_ble_eq_true rfl)) dX6_netClasses_6 ⟨Nat.le_of_ble_eq_true rfl, Nat.le_of_ble_eq_true rfl⟩) hS (fun q _ h => hFc q h) hFc (fun u t H1 locs ht hvm hw hB hz1 hk1 hS => ?_)
  obtain ⟨hP1, hK1, hD1⟩ := hB
  rw [ht] at hP1
  have hK1 := va_K.moved hvm.symm hK1
  obtain ⟨u1, u2⟩ := u
  obtain ⟨hP, hD⟩ := va_join (wr := []) (w1 := [(k0, .inr (9, [.ref kN, .ref kA, .ref kO, .ref kK, .ref kV, .ref kG, .ref kP, .ref kC, .ref kD, .ref kE, .ref kF, .ref kX, .ref kY, .int 0, .ref kT, .ref kU, .int 0, .int 0, .int 0])), (kN, .inl (cI, 2, .inl (fun _ => 0))), (kA, .inl (cI, 2, .inl (fun _ => 0))), (kC, .inl (cI, 20, .inl u1)), (kD, .inl (cI, 20, .inl u2))]) hP hD [0, 1, 2, 3, 4, 5, 6] [] rfl rfl (by decide) (by decide) hk1 hFc hP1 hD1
  generalize H1 = H at hP hS ⊢
  have hP : va_P (dC, dI) vwCl [(k0, .inr (9, [.ref kN, .ref kA, .ref kO, .ref kK, .ref kV, .ref kG, .ref kP, .ref kC, .ref kD, .ref kE, .ref kF, .ref kX, .ref kY, .int 0, .ref kT, .ref kU, .int 0, .int 0, .int 0])), (kN, .inl (cI, 2, .inl (fun _ => 0))), (kA, .inl (cI, 2, .inl (fun _ => 0))), (kC, .inl (cI, 20, .inl u1)), (kD, .inl (cI, 20, .inl u2))] _ := hP
  have hD : va_D A [(k0, .inr (9, [.ref kN, .ref kA, .ref kO, .ref kK, .ref kV, .ref kG, .ref kP, .ref kC, .ref kD, .ref kE, .ref kF, .ref kX, .ref kY, .int 0, .ref kT, .ref kU, .int 0, .int 0, .int 0])), (kN, .inl (cI, 2, .inl (fun _ => 0))), (kA, .inl (cI, 2, .inl (fun _ => 0))), (kC, .inl (cI, 20, .inl u1)), (kD, .inl (cI, 20, .inl u2))] := hD
  refine W.widen (k := 2) (n := 40) (Nat.le_of_ble_eq_true rfl) (Nat.le_of_ble_eq_true rfl) ?_
  have hu3 := hw
  refine lv_aload_n hx hb dX6_netClasses_9 rfl (lv_at hl 0 rfl) ?_
  refine va_get (D := (dC, dI)) (ci := 9) (v := .ref kC) (C := RX6) (T := TX6) (N := 19) hx hb hts (fun w h => List.mem_cons_of_mem _ (List.mem_append_left _ (List.mem_append_right _ (h)))) hown hK hP 0 rfl rfl 7 (by decide) (hts (.fieldLink RX6 33 "NetcompareModel" "netColours" "[I") (List.mem_cons_of_mem _ (List.mem_append_left _ (List.mem_append_left _ (List.mem_append_left _ (List.mem_of_getElem? (i := 1) rfl)))))) (fun _ h9 => h9) rfl dX6_netClasses_10 ?_
  have hPc := hP.sub (ws' := [(kC, .inl (cI, 20, .inl u1))]) [3] rfl
  have hDc := hD.sub (ws' := [(kC, .inl (cI, 20, .inl u1))]) [3] (by decide) rfl
  have hKc := hK.sub (tys' := [(cI, .int)]) [0] rfl
  have hFc := va_free (wc := [(kC, .inl (cI, 20, .inl u1))]) hD hS hA [3] rfl
  refine va_calli (va_runS (As := [.ref kC]) (rest := []) ⟨hx, hb, hml, hown, hts⟩ (kX6_classes l dC dI kC cI u1 H.size hu3.1) (va_cwS 1 hts gX6_netClasses_X6_classes rfl rfl rfl (by decide +kernel) ⟨Nat.le_of_ble_eq_true rfl, Nat.le_of_ble_eq_true rfl⟩) (fPreS hN hZ hS (fun q h => hFc q h) hPc hKc hDc) rfl rfl hl.1 rfl (lv_room (Nat.le_of_ble_eq_true rfl)) dX6_netClasses_13 ⟨Nat.le_of_ble_eq_true rfl, Nat.le_of_ble_eq_true rfl⟩) hS (fun q _ h => hFc q h) hFc (fun r u t H1 locs ht hvm hw hB hz1 hk1 hS => ?_)
  obtain ⟨hP1, hK1, hD1⟩ := hB
  rw [ht] at hP1
  have hK1 := va_K.moved hvm.symm hK1
  obtain ⟨hP, hD⟩ := va_join (wr := [(k0, .inr (9, [.ref kN, .ref kA, .ref kO, .ref kK, .ref kV, .ref kG, .ref kP, .ref kC, .ref kD, .ref kE, .ref kF, .ref kX, .ref kY, .int 0, .ref kT, .ref kU, .int 0, .int 0, .int 0])), (kN, .inl (cI, 2, .inl (fun _ => 0))), (kA, .inl (cI, 2, .inl (fun _ => 0))), (kD, .inl (cI, 20, .inl u2))]) (w1 := [(kC, .inl (cI, 20, .inl u1))]) hP hD [3] [0, 1, 2, 4] rfl rfl (by decide) (by decide) hk1 hFc hP1 hD1
  generalize H1 = H at hP hS ⊢
  have hP : va_P (dC, dI) vwCl [(k0, .inr (9, [.ref kN, .ref kA, .ref kO, .ref kK, .ref kV, .ref kG, .ref kP, .ref kC, .ref kD, .ref kE, .ref kF, .ref kX, .ref kY, .int 0, .ref kT, .ref kU, .int 0, .int 0, .int 0])), (kN, .inl (cI, 2, .inl (fun _ => 0))), (kA, .inl (cI, 2, .inl (fun _ => 0))), (kD, .inl (cI, 20, .inl u2)), (kC, .inl (cI, 20, .inl u1))] _ := hP
  have hD : va_D A [(k0, .inr (9, [.ref kN, .ref kA, .ref kO, .ref kK, .ref kV, .ref kG, .ref kP, .ref kC, .ref kD, .ref kE, .ref kF, .ref kX, .ref kY, .int 0, .ref kT, .ref kU, .int 0, .int 0, .int 0])), (kN, .inl (cI, 2, .inl (fun _ => 0))), (kA, .inl (cI, 2, .inl (fun _ => 0))), (kD, .inl (cI, 20, .inl u2)), (kC, .inl (cI, 20, .inl u1))] := hD
  subst hw
  exact ret _ 0 _ _ _ _ _ _ (⟨rfl, rfl⟩) (hP.sub [0] rfl) (hK.sub [] rfl) (hD.sub [0] (by decide) rfl) hS (Nat.le_of_ble_eq_true rfl) (Nat.le_of_ble_eq_true rfl) dX6_netClasses_16

set_option maxHeartbeats 4000000 in
set_option maxRecDepth 100000 in
/-- the model: partClasses on a fresh one -/
theorem kX6_partClasses (l : Launch) (dC : Nat → ClassId) (dI : Nat → Nat → Nat) (k0 kN kA kO kK kV kG kP kC kD kE kF kX kY kT kU : Nat) (cI : ClassId) (g1 g2 g3 g4 : Nat → Int32) (sz : Nat) : fMi l yX6_partClasses wsX6_partClasses ({ frames := 5, cells := 2, slots := 40, locals := 116 } : Room) dC dI [.ref k0] [(k0, .inr (9, [.ref kN, .ref kA, .ref kO, .ref kK, .ref kV, .ref kG, .ref kP, .ref kC, .ref kD, .ref kE, .ref kF, .ref kX, .ref kY, .int 0, .ref kT, .ref kU, .int 0, .int 0, .int 0])), (kN, .inl (cI, 2, .inl (fun _ => 0))), (kA, .inl (cI, 2, .inl (fun _ => 0))), (kC, .inl (cI, 20, .inl g1)), (kD, .inl (cI, 20, .inl g2)), (kE, .inl (cI, 20, .inl g3)), (kF, .inl (cI, 20, .inl g4))] [(cI, .int)] sz (fun (r : Int32) (u : Int32) => u = 0 ∧ r = 0) (fun u => [(k0, .inr (9, [.ref kN, .ref kA, .ref kO, .ref kK, .ref kV, .ref kG, .ref kP, .ref kC, .ref kD, .ref kE, .ref kF, .ref kX, .ref kY, .int 0, .ref kT, .ref kU, .int u, .int 0, .int 0]))]) (fun u => []) := by
  refine oP_i (y := yX6_partClasses) (cc := cX6_partClasses) (maxL := 1) (by decide) rfl (Nat.le_of_ble_eq_true rfl) ?_
  intro p e s m args below meth c ls A Q hx hb hr hml hown hts hN hZ hA hin hlk hP hK hD hl ret
  have hS : va_S A s.heap s.heap [] := va_S.rf
  have hl : lv_has ls 1 [(0, .ref k0)] := hl
  have hP : va_P (dC, dI) vwCl [(k0, .inr (9, [.ref kN, .ref kA, .ref kO, .ref kK, .ref kV, .ref kG, .ref kP, .ref kC, .ref kD, .ref kE, .ref kF, .ref kX, .ref kY, .int 0, .ref kT, .ref kU, .int 0, .int 0, .int 0])), (kN, .inl (cI, 2, .inl (fun _ => 0))), (kA, .inl (cI, 2, .inl (fun _ => 0))), (kC, .inl (cI, 20, .inl g1)), (kD, .inl (cI, 20, .inl g2)), (kE, .inl (cI, 20, .inl g3)), (kF, .inl (cI, 20, .inl g4))] _ := hP
  have hD : va_D A [(k0, .inr (9, [.ref kN, .ref kA, .ref kO, .ref kK, .ref kV, .ref kG, .ref kP, .ref kC, .ref kD, .ref kE, .ref kF, .ref kX, .ref kY, .int 0, .ref kT, .ref kU, .int 0, .int 0, .int 0])), (kN, .inl (cI, 2, .inl (fun _ => 0))), (kA, .inl (cI, 2, .inl (fun _ => 0))), (kC, .inl (cI, 20, .inl g1)), (kD, .inl (cI, 20, .inl g2)), (kE, .inl (cI, 20, .inl g3)), (kF, .inl (cI, 20, .inl g4))] := hD
  refine lv_aload_n hx hb dX6_partClasses_0 rfl (lv_at hl 0 rfl) ?_
  refine lv_iconst (v := 0) hx hb dX6_partClasses_1 (by decide) ?_
  refine va_put (D := (dC, dI)) (ci := 9) (v := .int 0) (ty := .int) (C := RX6) (T := TX6) (N := 19) hx hb hts (fun w h => List.mem_cons_of_mem _ (List.mem_append_left _ (List.mem_append_right _ (h)))) tyX6 tyX6_ok nmX6 hown hK hP hD hS 0 rfl rfl 16 (by decide) (hts (.fieldLink RX6 57 "NetcompareModel" "thrown" "I") (List.mem_cons_of_mem _ (List.mem_append_left _ (List.mem_append_left _ (List.mem_append_left _ (List.mem_of_getElem? (i := 0) rfl)))))) (fun _ h9 => h9) rfl (by decide +kernel) rfl rfl (Nat.le_of_ble_eq_true rfl) dX6_partClasses_2 (fun H locs hP hD hS => ?_)
  have hP : va_P (dC, dI) vwCl [(k0, .inr (9, [.ref kN, .ref kA, .ref kO, .ref kK, .ref kV, .ref kG, .ref kP, .ref kC, .ref kD, .ref kE, .ref kF, .ref kX, .ref kY, .int 0, .ref kT, .ref kU, .int 0, .int 0, .int 0])), (kN, .inl (cI, 2, .inl (fun _ => 0))), (kA, .inl (cI, 2, .inl (fun _ => 0))), (kC, .inl (cI, 20, .inl g1)), (kD, .inl (cI, 20, .inl g2)), (kE, .inl (cI, 20, .inl g3)), (kF, .inl (cI, 20, .inl g4))] _ := hP
  have hD : va_D A [(k0, .inr (9, [.ref kN, .ref kA, .ref kO, .ref kK, .ref kV, .ref kG, .ref kP, .ref kC, .ref kD, .ref kE, .ref kF, .ref kX, .ref kY, .int 0, .ref kT, .ref kU, .int 0, .int 0, .int 0])), (kN, .inl (cI, 2, .inl (fun _ => 0))), (kA, .inl (cI, 2, .inl (fun _ => 0))), (kC, .inl (cI, 20, .inl g1)), (kD, .inl (cI, 20, .inl g2)), (kE, .inl (cI, 20, .inl g3)), (kF, .inl (cI, 20, .inl g4))] := hD
  refine lv_aload_n hx hb dX6_partClasses_5 rfl (lv_at hl 0 rfl) ?_
  have hPc := hP.sub (ws' := [(k0, .inr (9, [.ref kN, .ref kA, .ref kO, .ref kK, .ref kV, .ref kG, .ref kP, .ref kC, .ref kD, .ref kE, .ref kF, .ref kX, .ref kY, .int 0, .ref kT, .ref kU, .int 0, .int 0, .int 0])), (kN, .inl (cI, 2, .inl (fun _ => 0))), (kA, .inl (cI, 2, .inl (fun _ => 0))), (kC, .inl (cI, 20, .inl g1)), (kD, .inl (cI, 20, .inl g2)), (kE, .inl (cI, 20, .inl g3)), (kF, .inl (cI, 20, .inl g4))]) [0, 1, 2, 3, 4, 5, 6] rfl
  have hDc := hD.sub (ws' := [(k0, .inr (9, [.ref kN, .ref kA, .ref kO, .ref kK, .ref kV, .ref kG, .ref kP, .ref kC, .ref kD, .ref kE, .ref kF, .ref kX, .ref kY, .int 0, .ref kT, .ref kU, .int 0, .int 0, .int 0])), (kN, .inl (cI, 2, .inl (fun _ => 0))), (kA, .inl (cI, 2, .inl (fun _ => 0))), (kC, .inl (cI, 20, .inl g1)), (kD, .inl (cI, 20, .inl g2)), (kE, .inl (cI, 20, .inl g3)), (kF, .inl (cI, 20, .inl g4))]) [0, 1, 2, 3, 4, 5, 6] (by decide) rfl
  have hKc := hK.sub (tys' := [(cI, .int)]) [0] rfl
  have hFc := va_free (wc := [(k0, .inr (9, [.ref kN, .ref kA, .ref kO, .ref kK, .ref kV, .ref kG, .ref kP, .ref kC, .ref kD, .ref kE, .ref kF, .ref kX, .ref kY, .int 0, .ref kT, .ref kU, .int 0, .int 0, .int 0])), (kN, .inl (cI, 2, .inl (fun _ => 0))), (kA, .inl (cI, 2, .inl (fun _ => 0))), (kC, .inl (cI, 20, .inl g1)), (kD, .inl (cI, 20, .inl g2)), (kE, .inl (cI, 20, .inl g3)), (kF, .inl (cI, 20, .inl g4))]) hD hS hA [0, 1, 2, 3, 4, 5, 6] rfl
  refine va_callv (va_runV (As := []) (rest := []) ⟨hx, hb, hml, hown, hts⟩ (kX6_colours l dC dI k0 kN kA kO kK kV kG kP kC kD kE kF kX kY kT kU cI g1 g2 g3 g4 H.size) (cwV 0 hts gX6_partClasses_X6_colours rfl rfl rfl (by decide +kernel) ⟨Nat.le_of_ble_eq_true rfl, Nat.le_of_ble_eq_true rfl⟩) (fPreV hN hZ hS (fun q h => hFc q h) hPc hKc hDc (ci := 9) (q0 := 0) rfl rfl) rfl rfl hl.1 rfl (lv_room (Nat.le_of_ble_eq_true rfl)) dX6_partClasses_6 ⟨Nat.le_of_ble_eq_true rfl, Nat.le_of_ble_eq_true rfl⟩) hS (fun q _ h => hFc q h) hFc (fun u t H1 locs ht hvm hw hB hz1 hk1 hS => ?_)
  obtain ⟨hP1, hK1, hD1⟩ := hB
  rw [ht] at hP1
  have hK1 := va_K.moved hvm.symm hK1
  obtain ⟨u1, u2⟩ := u
  obtain ⟨hP, hD⟩ := va_join (wr := []) (w1 := [(k0, .inr (9, [.ref kN, .ref kA, .ref kO, .ref kK, .ref kV, .ref kG, .ref kP, .ref kC, .ref kD, .ref kE, .ref kF, .ref kX, .ref kY, .int 0, .ref kT, .ref kU, .int 0, .int 0, .int 0])), (kN, .inl (cI, 2, .inl (fun _ => 0))), (kA, .inl (cI, 2, .inl (fun _ => 0))), (kC, .inl (cI, 20, .inl u1)), (kD, .inl (cI, 20, .inl u2))]) hP hD [0, 1, 2, 3, 4, 5, 6] [] rfl rfl (by decide) (by decide) hk1 hFc hP1 hD1
  generalize H1 = H at hP hS ⊢
  have hP : va_P (dC, dI) vwCl [(k0, .inr (9, [.ref kN, .ref kA, .ref kO, .ref kK, .ref kV, .ref kG, .ref kP, .ref kC, .ref kD, .ref kE, .ref kF, .ref kX, .ref kY, .int 0, .ref kT, .ref kU, .int 0, .int 0, .int 0])), (kN, .inl (cI, 2, .inl (fun _ => 0))), (kA, .inl (cI, 2, .inl (fun _ => 0))), (kC, .inl (cI, 20, .inl u1)), (kD, .inl (cI, 20, .inl u2))] _ := hP
  have hD : va_D A [(k0, .inr (9, [.ref kN, .ref kA, .ref kO, .ref kK, .ref kV, .ref kG, .ref kP, .ref kC, .ref kD, .ref kE, .ref kF, .ref kX, .ref kY, .int 0, .ref kT, .ref kU, .int 0, .int 0, .int 0])), (kN, .inl (cI, 2, .inl (fun _ => 0))), (kA, .inl (cI, 2, .inl (fun _ => 0))), (kC, .inl (cI, 20, .inl u1)), (kD, .inl (cI, 20, .inl u2))] := hD
  refine W.widen (k := 2) (n := 40) (Nat.le_of_ble_eq_true rfl) (Nat.le_of_ble_eq_true rfl) ?_
  have hu3 := hw
  refine lv_aload_n hx hb dX6_partClasses_9 rfl (lv_at hl 0 rfl) ?_
  refine va_get (D := (dC, dI)) (ci := 9) (v := .ref kD) (C := RX6) (T := TX6) (N := 19) hx hb hts (fun w h => List.mem_cons_of_mem _ (List.mem_append_left _ (List.mem_append_right _ (h)))) hown hK hP 0 rfl rfl 8 (by decide) (hts (.fieldLink RX6 36 "NetcompareModel" "partColours" "[I") (List.mem_cons_of_mem _ (List.mem_append_left _ (List.mem_append_left _ (List.mem_append_left _ (List.mem_of_getElem? (i := 1) rfl)))))) (fun _ h9 => h9) rfl dX6_partClasses_10 ?_
  have hPc := hP.sub (ws' := [(kD, .inl (cI, 20, .inl u2))]) [4] rfl
  have hDc := hD.sub (ws' := [(kD, .inl (cI, 20, .inl u2))]) [4] (by decide) rfl
  have hKc := hK.sub (tys' := [(cI, .int)]) [0] rfl
  have hFc := va_free (wc := [(kD, .inl (cI, 20, .inl u2))]) hD hS hA [4] rfl
  refine va_calli (va_runS (As := [.ref kD]) (rest := []) ⟨hx, hb, hml, hown, hts⟩ (kX6_classes l dC dI kD cI u2 H.size hu3.2) (va_cwS 1 hts gX6_partClasses_X6_classes rfl rfl rfl (by decide +kernel) ⟨Nat.le_of_ble_eq_true rfl, Nat.le_of_ble_eq_true rfl⟩) (fPreS hN hZ hS (fun q h => hFc q h) hPc hKc hDc) rfl rfl hl.1 rfl (lv_room (Nat.le_of_ble_eq_true rfl)) dX6_partClasses_13 ⟨Nat.le_of_ble_eq_true rfl, Nat.le_of_ble_eq_true rfl⟩) hS (fun q _ h => hFc q h) hFc (fun r u t H1 locs ht hvm hw hB hz1 hk1 hS => ?_)
  obtain ⟨hP1, hK1, hD1⟩ := hB
  rw [ht] at hP1
  have hK1 := va_K.moved hvm.symm hK1
  obtain ⟨hP, hD⟩ := va_join (wr := [(k0, .inr (9, [.ref kN, .ref kA, .ref kO, .ref kK, .ref kV, .ref kG, .ref kP, .ref kC, .ref kD, .ref kE, .ref kF, .ref kX, .ref kY, .int 0, .ref kT, .ref kU, .int 0, .int 0, .int 0])), (kN, .inl (cI, 2, .inl (fun _ => 0))), (kA, .inl (cI, 2, .inl (fun _ => 0))), (kC, .inl (cI, 20, .inl u1))]) (w1 := [(kD, .inl (cI, 20, .inl u2))]) hP hD [4] [0, 1, 2, 3] rfl rfl (by decide) (by decide) hk1 hFc hP1 hD1
  generalize H1 = H at hP hS ⊢
  have hP : va_P (dC, dI) vwCl [(k0, .inr (9, [.ref kN, .ref kA, .ref kO, .ref kK, .ref kV, .ref kG, .ref kP, .ref kC, .ref kD, .ref kE, .ref kF, .ref kX, .ref kY, .int 0, .ref kT, .ref kU, .int 0, .int 0, .int 0])), (kN, .inl (cI, 2, .inl (fun _ => 0))), (kA, .inl (cI, 2, .inl (fun _ => 0))), (kC, .inl (cI, 20, .inl u1)), (kD, .inl (cI, 20, .inl u2))] _ := hP
  have hD : va_D A [(k0, .inr (9, [.ref kN, .ref kA, .ref kO, .ref kK, .ref kV, .ref kG, .ref kP, .ref kC, .ref kD, .ref kE, .ref kF, .ref kX, .ref kY, .int 0, .ref kT, .ref kU, .int 0, .int 0, .int 0])), (kN, .inl (cI, 2, .inl (fun _ => 0))), (kA, .inl (cI, 2, .inl (fun _ => 0))), (kC, .inl (cI, 20, .inl u1)), (kD, .inl (cI, 20, .inl u2))] := hD
  subst hw
  exact ret _ 0 _ _ _ _ _ _ (⟨rfl, rfl⟩) (hP.sub [0] rfl) (hK.sub [] rfl) (hD.sub [0] (by decide) rfl) hS (Nat.le_of_ble_eq_true rfl) (Nat.le_of_ble_eq_true rfl) dX6_partClasses_16

set_option maxHeartbeats 4000000 in
set_option maxRecDepth 100000 in
/-- the model: differences on a fresh one -/
theorem kX6_differences (l : Launch) (dC : Nat → ClassId) (dI : Nat → Nat → Nat) (k0 kN kA kO kK kV kG kP kC kD kE kF kX kY kT kU : Nat) (cI : ClassId) (g1 g2 g3 g4 : Nat → Int32) (sz : Nat) : fMi l yX6_differences wsX6_differences ({ frames := 5, cells := 2, slots := 40, locals := 116 } : Room) dC dI [.ref k0] [(k0, .inr (9, [.ref kN, .ref kA, .ref kO, .ref kK, .ref kV, .ref kG, .ref kP, .ref kC, .ref kD, .ref kE, .ref kF, .ref kX, .ref kY, .int 0, .ref kT, .ref kU, .int 0, .int 0, .int 0])), (kN, .inl (cI, 2, .inl (fun _ => 0))), (kA, .inl (cI, 2, .inl (fun _ => 0))), (kC, .inl (cI, 20, .inl g1)), (kD, .inl (cI, 20, .inl g2)), (kE, .inl (cI, 20, .inl g3)), (kF, .inl (cI, 20, .inl g4))] [(cI, .int)] sz (fun (r : Int32) (u : Int32) => u = 0 ∧ r = 0) (fun u => [(k0, .inr (9, [.ref kN, .ref kA, .ref kO, .ref kK, .ref kV, .ref kG, .ref kP, .ref kC, .ref kD, .ref kE, .ref kF, .ref kX, .ref kY, .int 0, .ref kT, .ref kU, .int u, .int 0, .int 0]))]) (fun u => []) := by
  refine oP_i (y := yX6_differences) (cc := cX6_differences) (maxL := 1) (by decide) rfl (Nat.le_of_ble_eq_true rfl) ?_
  intro p e s m args below meth c ls A Q hx hb hr hml hown hts hN hZ hA hin hlk hP hK hD hl ret
  have hS : va_S A s.heap s.heap [] := va_S.rf
  have hl : lv_has ls 1 [(0, .ref k0)] := hl
  have hP : va_P (dC, dI) vwCl [(k0, .inr (9, [.ref kN, .ref kA, .ref kO, .ref kK, .ref kV, .ref kG, .ref kP, .ref kC, .ref kD, .ref kE, .ref kF, .ref kX, .ref kY, .int 0, .ref kT, .ref kU, .int 0, .int 0, .int 0])), (kN, .inl (cI, 2, .inl (fun _ => 0))), (kA, .inl (cI, 2, .inl (fun _ => 0))), (kC, .inl (cI, 20, .inl g1)), (kD, .inl (cI, 20, .inl g2)), (kE, .inl (cI, 20, .inl g3)), (kF, .inl (cI, 20, .inl g4))] _ := hP
  have hD : va_D A [(k0, .inr (9, [.ref kN, .ref kA, .ref kO, .ref kK, .ref kV, .ref kG, .ref kP, .ref kC, .ref kD, .ref kE, .ref kF, .ref kX, .ref kY, .int 0, .ref kT, .ref kU, .int 0, .int 0, .int 0])), (kN, .inl (cI, 2, .inl (fun _ => 0))), (kA, .inl (cI, 2, .inl (fun _ => 0))), (kC, .inl (cI, 20, .inl g1)), (kD, .inl (cI, 20, .inl g2)), (kE, .inl (cI, 20, .inl g3)), (kF, .inl (cI, 20, .inl g4))] := hD
  refine lv_aload_n hx hb dX6_differences_0 rfl (lv_at hl 0 rfl) ?_
  refine lv_iconst (v := 0) hx hb dX6_differences_1 (by decide) ?_
  refine va_put (D := (dC, dI)) (ci := 9) (v := .int 0) (ty := .int) (C := RX6) (T := TX6) (N := 19) hx hb hts (fun w h => List.mem_cons_of_mem _ (List.mem_append_left _ (List.mem_append_right _ (h)))) tyX6 tyX6_ok nmX6 hown hK hP hD hS 0 rfl rfl 16 (by decide) (hts (.fieldLink RX6 57 "NetcompareModel" "thrown" "I") (List.mem_cons_of_mem _ (List.mem_append_left _ (List.mem_append_left _ (List.mem_append_left _ (List.mem_of_getElem? (i := 0) rfl)))))) (fun _ h9 => h9) rfl (by decide +kernel) rfl rfl (Nat.le_of_ble_eq_true rfl) dX6_differences_2 (fun H locs hP hD hS => ?_)
  have hP : va_P (dC, dI) vwCl [(k0, .inr (9, [.ref kN, .ref kA, .ref kO, .ref kK, .ref kV, .ref kG, .ref kP, .ref kC, .ref kD, .ref kE, .ref kF, .ref kX, .ref kY, .int 0, .ref kT, .ref kU, .int 0, .int 0, .int 0])), (kN, .inl (cI, 2, .inl (fun _ => 0))), (kA, .inl (cI, 2, .inl (fun _ => 0))), (kC, .inl (cI, 20, .inl g1)), (kD, .inl (cI, 20, .inl g2)), (kE, .inl (cI, 20, .inl g3)), (kF, .inl (cI, 20, .inl g4))] _ := hP
  have hD : va_D A [(k0, .inr (9, [.ref kN, .ref kA, .ref kO, .ref kK, .ref kV, .ref kG, .ref kP, .ref kC, .ref kD, .ref kE, .ref kF, .ref kX, .ref kY, .int 0, .ref kT, .ref kU, .int 0, .int 0, .int 0])), (kN, .inl (cI, 2, .inl (fun _ => 0))), (kA, .inl (cI, 2, .inl (fun _ => 0))), (kC, .inl (cI, 20, .inl g1)), (kD, .inl (cI, 20, .inl g2)), (kE, .inl (cI, 20, .inl g3)), (kF, .inl (cI, 20, .inl g4))] := hD
  refine lv_aload_n hx hb dX6_differences_5 rfl (lv_at hl 0 rfl) ?_
  have hPc := hP.sub (ws' := [(k0, .inr (9, [.ref kN, .ref kA, .ref kO, .ref kK, .ref kV, .ref kG, .ref kP, .ref kC, .ref kD, .ref kE, .ref kF, .ref kX, .ref kY, .int 0, .ref kT, .ref kU, .int 0, .int 0, .int 0])), (kN, .inl (cI, 2, .inl (fun _ => 0))), (kA, .inl (cI, 2, .inl (fun _ => 0))), (kC, .inl (cI, 20, .inl g1)), (kD, .inl (cI, 20, .inl g2)), (kE, .inl (cI, 20, .inl g3)), (kF, .inl (cI, 20, .inl g4))]) [0, 1, 2, 3, 4, 5, 6] rfl
  have hDc := hD.sub (ws' := [(k0, .inr (9, [.ref kN, .ref kA, .ref kO, .ref kK, .ref kV, .ref kG, .ref kP, .ref kC, .ref kD, .ref kE, .ref kF, .ref kX, .ref kY, .int 0, .ref kT, .ref kU, .int 0, .int 0, .int 0])), (kN, .inl (cI, 2, .inl (fun _ => 0))), (kA, .inl (cI, 2, .inl (fun _ => 0))), (kC, .inl (cI, 20, .inl g1)), (kD, .inl (cI, 20, .inl g2)), (kE, .inl (cI, 20, .inl g3)), (kF, .inl (cI, 20, .inl g4))]) [0, 1, 2, 3, 4, 5, 6] (by decide) rfl
  have hKc := hK.sub (tys' := [(cI, .int)]) [0] rfl
  have hFc := va_free (wc := [(k0, .inr (9, [.ref kN, .ref kA, .ref kO, .ref kK, .ref kV, .ref kG, .ref kP, .ref kC, .ref kD, .ref kE, .ref kF, .ref kX, .ref kY, .int 0, .ref kT, .ref kU, .int 0, .int 0, .int 0])), (kN, .inl (cI, 2, .inl (fun _ => 0))), (kA, .inl (cI, 2, .inl (fun _ => 0))), (kC, .inl (cI, 20, .inl g1)), (kD, .inl (cI, 20, .inl g2)), (kE, .inl (cI, 20, .inl g3)), (kF, .inl (cI, 20, .inl g4))]) hD hS hA [0, 1, 2, 3, 4, 5, 6] rfl
  refine va_callv (va_runV (As := []) (rest := []) ⟨hx, hb, hml, hown, hts⟩ (kX6_colours l dC dI k0 kN kA kO kK kV kG kP kC kD kE kF kX kY kT kU cI g1 g2 g3 g4 H.size) (cwV 0 hts gX6_differences_X6_colours rfl rfl rfl (by decide +kernel) ⟨Nat.le_of_ble_eq_true rfl, Nat.le_of_ble_eq_true rfl⟩) (fPreV hN hZ hS (fun q h => hFc q h) hPc hKc hDc (ci := 9) (q0 := 0) rfl rfl) rfl rfl hl.1 rfl (lv_room (Nat.le_of_ble_eq_true rfl)) dX6_differences_6 ⟨Nat.le_of_ble_eq_true rfl, Nat.le_of_ble_eq_true rfl⟩) hS (fun q _ h => hFc q h) hFc (fun u t H1 locs ht hvm hw hB hz1 hk1 hS => ?_)
  obtain ⟨hP1, hK1, hD1⟩ := hB
  rw [ht] at hP1
  have hK1 := va_K.moved hvm.symm hK1
  obtain ⟨u1, u2⟩ := u
  obtain ⟨hP, hD⟩ := va_join (wr := []) (w1 := [(k0, .inr (9, [.ref kN, .ref kA, .ref kO, .ref kK, .ref kV, .ref kG, .ref kP, .ref kC, .ref kD, .ref kE, .ref kF, .ref kX, .ref kY, .int 0, .ref kT, .ref kU, .int 0, .int 0, .int 0])), (kN, .inl (cI, 2, .inl (fun _ => 0))), (kA, .inl (cI, 2, .inl (fun _ => 0))), (kC, .inl (cI, 20, .inl u1)), (kD, .inl (cI, 20, .inl u2))]) hP hD [0, 1, 2, 3, 4, 5, 6] [] rfl rfl (by decide) (by decide) hk1 hFc hP1 hD1
  generalize H1 = H at hP hS ⊢
  have hP : va_P (dC, dI) vwCl [(k0, .inr (9, [.ref kN, .ref kA, .ref kO, .ref kK, .ref kV, .ref kG, .ref kP, .ref kC, .ref kD, .ref kE, .ref kF, .ref kX, .ref kY, .int 0, .ref kT, .ref kU, .int 0, .int 0, .int 0])), (kN, .inl (cI, 2, .inl (fun _ => 0))), (kA, .inl (cI, 2, .inl (fun _ => 0))), (kC, .inl (cI, 20, .inl u1)), (kD, .inl (cI, 20, .inl u2))] _ := hP
  have hD : va_D A [(k0, .inr (9, [.ref kN, .ref kA, .ref kO, .ref kK, .ref kV, .ref kG, .ref kP, .ref kC, .ref kD, .ref kE, .ref kF, .ref kX, .ref kY, .int 0, .ref kT, .ref kU, .int 0, .int 0, .int 0])), (kN, .inl (cI, 2, .inl (fun _ => 0))), (kA, .inl (cI, 2, .inl (fun _ => 0))), (kC, .inl (cI, 20, .inl u1)), (kD, .inl (cI, 20, .inl u2))] := hD
  refine W.widen (k := 2) (n := 40) (Nat.le_of_ble_eq_true rfl) (Nat.le_of_ble_eq_true rfl) ?_
  have hu3 := hw
  refine lv_aload_n hx hb dX6_differences_9 rfl (lv_at hl 0 rfl) ?_
  have hPc := hP.sub (ws' := [(k0, .inr (9, [.ref kN, .ref kA, .ref kO, .ref kK, .ref kV, .ref kG, .ref kP, .ref kC, .ref kD, .ref kE, .ref kF, .ref kX, .ref kY, .int 0, .ref kT, .ref kU, .int 0, .int 0, .int 0])), (kC, .inl (cI, 20, .inl u1)), (kD, .inl (cI, 20, .inl u2))]) [0, 3, 4] rfl
  have hDc := hD.sub (ws' := [(k0, .inr (9, [.ref kN, .ref kA, .ref kO, .ref kK, .ref kV, .ref kG, .ref kP, .ref kC, .ref kD, .ref kE, .ref kF, .ref kX, .ref kY, .int 0, .ref kT, .ref kU, .int 0, .int 0, .int 0])), (kC, .inl (cI, 20, .inl u1)), (kD, .inl (cI, 20, .inl u2))]) [0, 3, 4] (by decide) rfl
  have hKc := hK.sub (tys' := [(cI, .int)]) [0] rfl
  have hFc := va_free (wc := [(k0, .inr (9, [.ref kN, .ref kA, .ref kO, .ref kK, .ref kV, .ref kG, .ref kP, .ref kC, .ref kD, .ref kE, .ref kF, .ref kX, .ref kY, .int 0, .ref kT, .ref kU, .int 0, .int 0, .int 0])), (kC, .inl (cI, 20, .inl u1)), (kD, .inl (cI, 20, .inl u2))]) hD hS hA [0, 3, 4] rfl
  refine va_calli (va_runV (As := []) (rest := []) ⟨hx, hb, hml, hown, hts⟩ (kX6_unequal l dC dI k0 kN kA kO kK kV kG kP kC kD kE kF kX kY kT kU cI u1 u2 H.size hu3.1 hu3.2) (cwV 0 hts gX6_differences_X6_unequal rfl rfl rfl (by decide +kernel) ⟨Nat.le_of_ble_eq_true rfl, Nat.le_of_ble_eq_true rfl⟩) (fPreV hN hZ hS (fun q h => hFc q h) hPc hKc hDc (ci := 9) (q0 := 0) rfl rfl) rfl rfl hl.1 rfl (lv_room (Nat.le_of_ble_eq_true rfl)) dX6_differences_10 ⟨Nat.le_of_ble_eq_true rfl, Nat.le_of_ble_eq_true rfl⟩) hS (fun q _ h => hFc q h) hFc (fun r u t H1 locs ht hvm hw hB hz1 hk1 hS => ?_)
  obtain ⟨hP1, hK1, hD1⟩ := hB
  rw [ht] at hP1
  have hK1 := va_K.moved hvm.symm hK1
  obtain ⟨hP, hD⟩ := va_join (wr := [(kN, .inl (cI, 2, .inl (fun _ => 0))), (kA, .inl (cI, 2, .inl (fun _ => 0)))]) (w1 := [(k0, .inr (9, [.ref kN, .ref kA, .ref kO, .ref kK, .ref kV, .ref kG, .ref kP, .ref kC, .ref kD, .ref kE, .ref kF, .ref kX, .ref kY, .int 0, .ref kT, .ref kU, .int 0, .int 0, .int 0])), (kC, .inl (cI, 20, .inl u1)), (kD, .inl (cI, 20, .inl u2))]) hP hD [0, 3, 4] [1, 2] rfl rfl (by decide) (by decide) hk1 hFc hP1 hD1
  generalize H1 = H at hP hS ⊢
  have hP : va_P (dC, dI) vwCl [(kN, .inl (cI, 2, .inl (fun _ => 0))), (kA, .inl (cI, 2, .inl (fun _ => 0))), (k0, .inr (9, [.ref kN, .ref kA, .ref kO, .ref kK, .ref kV, .ref kG, .ref kP, .ref kC, .ref kD, .ref kE, .ref kF, .ref kX, .ref kY, .int 0, .ref kT, .ref kU, .int 0, .int 0, .int 0])), (kC, .inl (cI, 20, .inl u1)), (kD, .inl (cI, 20, .inl u2))] _ := hP
  have hD : va_D A [(kN, .inl (cI, 2, .inl (fun _ => 0))), (kA, .inl (cI, 2, .inl (fun _ => 0))), (k0, .inr (9, [.ref kN, .ref kA, .ref kO, .ref kK, .ref kV, .ref kG, .ref kP, .ref kC, .ref kD, .ref kE, .ref kF, .ref kX, .ref kY, .int 0, .ref kT, .ref kU, .int 0, .int 0, .int 0])), (kC, .inl (cI, 20, .inl u1)), (kD, .inl (cI, 20, .inl u2))] := hD
  subst hw
  exact ret _ 0 _ _ _ _ _ _ (⟨rfl, rfl⟩) (hP.sub [2] rfl) (hK.sub [] rfl) (hD.sub [2] (by decide) rfl) hS (Nat.le_of_ble_eq_true rfl) (Nat.le_of_ble_eq_true rfl) dX6_differences_13

set_option maxHeartbeats 4000000 in
set_option maxRecDepth 100000 in
/-- the model: netsLike on a fresh one -/
theorem kX6_netsLike (l : Launch) (dC : Nat → ClassId) (dI : Nat → Nat → Nat) (k0 kN kA kO kK kV kG kP kC kD kE kF kX kY kT kU : Nat) (cI : ClassId) (p0 p1 p2 : Int32) (sz : Nat) : fMi l yX6_netsLike wsX6_netsLike ({ frames := 2, cells := 0, slots := 0, locals := 47 } : Room) dC dI [.ref k0, .int p0, .int p1, .int p2] [(k0, .inr (9, [.ref kN, .ref kA, .ref kO, .ref kK, .ref kV, .ref kG, .ref kP, .ref kC, .ref kD, .ref kE, .ref kF, .ref kX, .ref kY, .int 0, .ref kT, .ref kU, .int 0, .int 0, .int 0])), (kN, .inl (cI, 2, .inl (fun _ => 0))), (kA, .inl (cI, 2, .inl (fun _ => 0)))] [(cI, .int)] sz (fun (r : Int32) (u : Int32) => u = 1 ∧ ((¬ ((p0 = 0) ∨ (p0 = 1))) ∨ (¬ ((p2 = 0) ∨ (p2 = 1)))) ∨ u = 2 ∧ (¬ ((¬ ((p0 = 0) ∨ (p0 = 1))) ∨ (¬ ((p2 = 0) ∨ (p2 = 1)))))) (fun u => [(k0, .inr (9, [.ref kN, .ref kA, .ref kO, .ref kK, .ref kV, .ref kG, .ref kP, .ref kC, .ref kD, .ref kE, .ref kF, .ref kX, .ref kY, .int 0, .ref kT, .ref kU, .int u, .int 0, .int 0]))]) (fun u => []) := by
  refine oP_i (y := yX6_netsLike) (cc := cX6_netsLike) (maxL := 4) (by decide) rfl (Nat.le_of_ble_eq_true rfl) ?_
  intro p e s m args below meth c ls A Q hx hb hr hml hown hts hN hZ hA hin hlk hP hK hD hl ret
  have hS : va_S A s.heap s.heap [] := va_S.rf
  have hl : lv_has ls 4 [(0, .ref k0), (1, .int p0), (2, .int p1), (3, .int p2)] := hl
  have hP : va_P (dC, dI) vwCl [(k0, .inr (9, [.ref kN, .ref kA, .ref kO, .ref kK, .ref kV, .ref kG, .ref kP, .ref kC, .ref kD, .ref kE, .ref kF, .ref kX, .ref kY, .int 0, .ref kT, .ref kU, .int 0, .int 0, .int 0])), (kN, .inl (cI, 2, .inl (fun _ => 0))), (kA, .inl (cI, 2, .inl (fun _ => 0)))] _ := hP
  have hD : va_D A [(k0, .inr (9, [.ref kN, .ref kA, .ref kO, .ref kK, .ref kV, .ref kG, .ref kP, .ref kC, .ref kD, .ref kE, .ref kF, .ref kX, .ref kY, .int 0, .ref kT, .ref kU, .int 0, .int 0, .int 0])), (kN, .inl (cI, 2, .inl (fun _ => 0))), (kA, .inl (cI, 2, .inl (fun _ => 0)))] := hD
  refine lv_aload_n hx hb dX6_netsLike_0 rfl (lv_at hl 0 rfl) ?_
  refine lv_iload_n hx hb dX6_netsLike_1 rfl (lv_at hl 1 rfl) ?_
  have hPc := hP.sub (ws' := []) [] rfl
  have hDc := hD.sub (ws' := []) [] (by decide) rfl
  have hKc := hK.sub (tys' := []) [] rfl
  have hFc := va_free (wc := []) hD hS hA [] rfl
  refine va_calli (va_runS (As := [.int p0]) (rest := [.ref k0]) ⟨hx, hb, hml, hown, hts⟩ (kX6_isCircuit l dC dI p0 s.heap.size) (va_cwS 1 hts gX6_netsLike_X6_isCircuit rfl rfl rfl (by decide +kernel) ⟨Nat.le_of_ble_eq_true rfl, Nat.le_of_ble_eq_true rfl⟩) (fPreS hN hZ hS (fun q h => hFc q h) hPc hKc hDc) rfl rfl hl.1 rfl (lv_room (Nat.le_of_ble_eq_true rfl)) dX6_netsLike_2 ⟨Nat.le_of_ble_eq_true rfl, Nat.le_of_ble_eq_true rfl⟩) hS (fun q _ h => hFc q h) hFc (fun r u t H1 locs ht hvm hw hB hz1 hk1 hS => ?_)
  obtain ⟨hP1, hK1, hD1⟩ := hB
  rw [ht] at hP1
  have hK1 := va_K.moved hvm.symm hK1
  obtain ⟨hP, hD⟩ := va_join (wr := [(k0, .inr (9, [.ref kN, .ref kA, .ref kO, .ref kK, .ref kV, .ref kG, .ref kP, .ref kC, .ref kD, .ref kE, .ref kF, .ref kX, .ref kY, .int 0, .ref kT, .ref kU, .int 0, .int 0, .int 0])), (kN, .inl (cI, 2, .inl (fun _ => 0))), (kA, .inl (cI, 2, .inl (fun _ => 0)))]) (w1 := []) hP hD [] [0, 1, 2] rfl rfl (by decide) (by decide) hk1 hFc hP1 hD1
  generalize H1 = H at hP hS ⊢
  have hP : va_P (dC, dI) vwCl [(k0, .inr (9, [.ref kN, .ref kA, .ref kO, .ref kK, .ref kV, .ref kG, .ref kP, .ref kC, .ref kD, .ref kE, .ref kF, .ref kX, .ref kY, .int 0, .ref kT, .ref kU, .int 0, .int 0, .int 0])), (kN, .inl (cI, 2, .inl (fun _ => 0))), (kA, .inl (cI, 2, .inl (fun _ => 0)))] _ := hP
  have hD : va_D A [(k0, .inr (9, [.ref kN, .ref kA, .ref kO, .ref kK, .ref kV, .ref kG, .ref kP, .ref kC, .ref kD, .ref kE, .ref kF, .ref kX, .ref kY, .int 0, .ref kT, .ref kU, .int 0, .int 0, .int 0])), (kN, .inl (cI, 2, .inl (fun _ => 0))), (kA, .inl (cI, 2, .inl (fun _ => 0)))] := hD
  rcases hw with ⟨rfl, hc | hc⟩ | ⟨rfl, hc⟩
  · skip
    subst hc
    have hP : va_P (dC, dI) vwCl [(k0, .inr (9, [.ref kN, .ref kA, .ref kO, .ref kK, .ref kV, .ref kG, .ref kP, .ref kC, .ref kD, .ref kE, .ref kF, .ref kX, .ref kY, .int 0, .ref kT, .ref kU, .int 0, .int 0, .int 0])), (kN, .inl (cI, 2, .inl (fun _ => 0))), (kA, .inl (cI, 2, .inl (fun _ => 0)))] _ := hP
    have hD : va_D A [(k0, .inr (9, [.ref kN, .ref kA, .ref kO, .ref kK, .ref kV, .ref kG, .ref kP, .ref kC, .ref kD, .ref kE, .ref kF, .ref kX, .ref kY, .int 0, .ref kT, .ref kU, .int 0, .int 0, .int 0])), (kN, .inl (cI, 2, .inl (fun _ => 0))), (kA, .inl (cI, 2, .inl (fun _ => 0)))] := hD
    refine lv_if_eq (tgt := 15) hx hb dX6_netsLike_5 (by decide) (fun h9 => absurd h9 (by decide)) (fun _ => ?_)
    refine lv_iload_n hx hb dX6_netsLike_8 rfl (lv_at hl 3 rfl) ?_
    have hPc := hP.sub (ws' := []) [] rfl
    have hDc := hD.sub (ws' := []) [] (by decide) rfl
    have hKc := hK.sub (tys' := []) [] rfl
    have hFc := va_free (wc := []) hD hS hA [] rfl
    refine va_calli (va_runS (As := [.int p2]) (rest := [.ref k0]) ⟨hx, hb, hml, hown, hts⟩ (kX6_isCircuit l dC dI p2 H.size) (va_cwS 1 hts gX6_netsLike_X6_isCircuit rfl rfl rfl (by decide +kernel) ⟨Nat.le_of_ble_eq_true rfl, Nat.le_of_ble_eq_true rfl⟩) (fPreS hN hZ hS (fun q h => hFc q h) hPc hKc hDc) rfl rfl hl.1 rfl (lv_room (Nat.le_of_ble_eq_true rfl)) dX6_netsLike_9 ⟨Nat.le_of_ble_eq_true rfl, Nat.le_of_ble_eq_true rfl⟩) hS (fun q _ h => hFc q h) hFc (fun r u t H1 locs ht hvm hw hB hz1 hk1 hS => ?_)
    obtain ⟨hP1, hK1, hD1⟩ := hB
    rw [ht] at hP1
    have hK1 := va_K.moved hvm.symm hK1
    obtain ⟨hP, hD⟩ := va_join (wr := [(k0, .inr (9, [.ref kN, .ref kA, .ref kO, .ref kK, .ref kV, .ref kG, .ref kP, .ref kC, .ref kD, .ref kE, .ref kF, .ref kX, .ref kY, .int 0, .ref kT, .ref kU, .int 0, .int 0, .int 0])), (kN, .inl (cI, 2, .inl (fun _ => 0))), (kA, .inl (cI, 2, .inl (fun _ => 0)))]) (w1 := []) hP hD [] [0, 1, 2] rfl rfl (by decide) (by decide) hk1 hFc hP1 hD1
    generalize H1 = H at hP hS ⊢
    have hP : va_P (dC, dI) vwCl [(k0, .inr (9, [.ref kN, .ref kA, .ref kO, .ref kK, .ref kV, .ref kG, .ref kP, .ref kC, .ref kD, .ref kE, .ref kF, .ref kX, .ref kY, .int 0, .ref kT, .ref kU, .int 0, .int 0, .int 0])), (kN, .inl (cI, 2, .inl (fun _ => 0))), (kA, .inl (cI, 2, .inl (fun _ => 0)))] _ := hP
    have hD : va_D A [(k0, .inr (9, [.ref kN, .ref kA, .ref kO, .ref kK, .ref kV, .ref kG, .ref kP, .ref kC, .ref kD, .ref kE, .ref kF, .ref kX, .ref kY, .int 0, .ref kT, .ref kU, .int 0, .int 0, .int 0])), (kN, .inl (cI, 2, .inl (fun _ => 0))), (kA, .inl (cI, 2, .inl (fun _ => 0)))] := hD
    rcases hw with ⟨rfl, hc | hc⟩ | ⟨rfl, hc⟩
    · skip
      subst hc
      have hP : va_P (dC, dI) vwCl [(k0, .inr (9, [.ref kN, .ref kA, .ref kO, .ref kK, .ref kV, .ref kG, .ref kP, .ref kC, .ref kD, .ref kE, .ref kF, .ref kX, .ref kY, .int 0, .ref kT, .ref kU, .int 0, .int 0, .int 0])), (kN, .inl (cI, 2, .inl (fun _ => 0))), (kA, .inl (cI, 2, .inl (fun _ => 0)))] _ := hP
      have hD : va_D A [(k0, .inr (9, [.ref kN, .ref kA, .ref kO, .ref kK, .ref kV, .ref kG, .ref kP, .ref kC, .ref kD, .ref kE, .ref kF, .ref kX, .ref kY, .int 0, .ref kT, .ref kU, .int 0, .int 0, .int 0])), (kN, .inl (cI, 2, .inl (fun _ => 0))), (kA, .inl (cI, 2, .inl (fun _ => 0)))] := hD
      refine lv_if_ne (tgt := 19) hx hb dX6_netsLike_12 (by decide) (fun _ => ?_) (fun h9 => absurd h9 (by decide))
      refine lv_aload_n hx hb dX6_netsLike_19 rfl (lv_at hl 0 rfl) ?_
      refine lv_iload_n hx hb dX6_netsLike_20 rfl (lv_at hl 1 rfl) ?_
      refine lv_iload_n hx hb dX6_netsLike_21 rfl (lv_at hl 2 rfl) ?_
      have hPc := hP.sub (ws' := [(k0, .inr (9, [.ref kN, .ref kA, .ref kO, .ref kK, .ref kV, .ref kG, .ref kP, .ref kC, .ref kD, .ref kE, .ref kF, .ref kX, .ref kY, .int 0, .ref kT, .ref kU, .int 0, .int 0, .int 0])), (kN, .inl (cI, 2, .inl (fun _ => 0)))]) [0, 1] rfl
      have hDc := hD.sub (ws' := [(k0, .inr (9, [.ref kN, .ref kA, .ref kO, .ref kK, .ref kV, .ref kG, .ref kP, .ref kC, .ref kD, .ref kE, .ref kF, .ref kX, .ref kY, .int 0, .ref kT, .ref kU, .int 0, .int 0, .int 0])), (kN, .inl (cI, 2, .inl (fun _ => 0)))]) [0, 1] (by decide) rfl
      have hKc := hK.sub (tys' := [(cI, .int)]) [0] rfl
      have hFc := va_free (wc := [(k0, .inr (9, [.ref kN, .ref kA, .ref kO, .ref kK, .ref kV, .ref kG, .ref kP, .ref kC, .ref kD, .ref kE, .ref kF, .ref kX, .ref kY, .int 0, .ref kT, .ref kU, .int 0, .int 0, .int 0])), (kN, .inl (cI, 2, .inl (fun _ => 0)))]) hD hS hA [0, 1] rfl
      refine va_calli (va_runV (As := [.int 0, .int p1]) (rest := [.ref k0]) ⟨hx, hb, hml, hown, hts⟩ (kX6_isNet0 l dC dI k0 kN kA kO kK kV kG kP kC kD kE kF kX kY kT kU cI p1 H.size) (cwV 2 hts gX6_netsLike_X6_isNet rfl rfl rfl (by decide +kernel) ⟨Nat.le_of_ble_eq_true rfl, Nat.le_of_ble_eq_true rfl⟩) (fPreV hN hZ hS (fun q h => hFc q h) hPc hKc hDc (ci := 9) (q0 := 0) rfl rfl) rfl rfl hl.1 rfl (lv_room (Nat.le_of_ble_eq_true rfl)) dX6_netsLike_22 ⟨Nat.le_of_ble_eq_true rfl, Nat.le_of_ble_eq_true rfl⟩) hS (fun q _ h => hFc q h) hFc (fun r u t H1 locs ht hvm hw hB hz1 hk1 hS => ?_)
      obtain ⟨hP1, hK1, hD1⟩ := hB
      rw [ht] at hP1
      have hK1 := va_K.moved hvm.symm hK1
      obtain ⟨hP, hD⟩ := va_join (wr := [(kA, .inl (cI, 2, .inl (fun _ => 0)))]) (w1 := [(k0, .inr (9, [.ref kN, .ref kA, .ref kO, .ref kK, .ref kV, .ref kG, .ref kP, .ref kC, .ref kD, .ref kE, .ref kF, .ref kX, .ref kY, .int 0, .ref kT, .ref kU, .int 0, .int 0, .int 0])), (kN, .inl (cI, 2, .inl (fun _ => 0)))]) hP hD [0, 1] [2] rfl rfl (by decide) (by decide) hk1 hFc hP1 hD1
      generalize H1 = H at hP hS ⊢
      have hP : va_P (dC, dI) vwCl [(kA, .inl (cI, 2, .inl (fun _ => 0))), (k0, .inr (9, [.ref kN, .ref kA, .ref kO, .ref kK, .ref kV, .ref kG, .ref kP, .ref kC, .ref kD, .ref kE, .ref kF, .ref kX, .ref kY, .int 0, .ref kT, .ref kU, .int 0, .int 0, .int 0])), (kN, .inl (cI, 2, .inl (fun _ => 0)))] _ := hP
      have hD : va_D A [(kA, .inl (cI, 2, .inl (fun _ => 0))), (k0, .inr (9, [.ref kN, .ref kA, .ref kO, .ref kK, .ref kV, .ref kG, .ref kP, .ref kC, .ref kD, .ref kE, .ref kF, .ref kX, .ref kY, .int 0, .ref kT, .ref kU, .int 0, .int 0, .int 0])), (kN, .inl (cI, 2, .inl (fun _ => 0)))] := hD
      subst hw
      refine lv_if_ne (tgt := 32) hx hb dX6_netsLike_25 (by decide) (fun h9 => absurd (by decide) h9) (fun _ => ?_)
      refine lv_iconst (v := 2) hx hb dX6_netsLike_28 (by decide) ?_
      refine lv_goto (tgt := 33) hx hb dX6_netsLike_29 (by decide) ?_
      refine va_put (D := (dC, dI)) (ci := 9) (v := .int 2) (ty := .int) (C := RX6) (T := TX6) (N := 19) hx hb hts (fun w h => List.mem_cons_of_mem _ (List.mem_append_left _ (List.mem_append_right _ (h)))) tyX6 tyX6_ok nmX6 hown hK hP hD hS 1 rfl rfl 16 (by decide) (hts (.fieldLink RX6 57 "NetcompareModel" "thrown" "I") (List.mem_cons_of_mem _ (List.mem_append_left _ (List.mem_append_left _ (List.mem_append_left _ (List.mem_of_getElem? (i := 0) rfl)))))) (fun _ h9 => h9) rfl (by decide +kernel) rfl rfl (Nat.le_of_ble_eq_true rfl) dX6_netsLike_33 (fun H locs hP hD hS => ?_)
      have hP : va_P (dC, dI) vwCl [(kA, .inl (cI, 2, .inl (fun _ => 0))), (k0, .inr (9, [.ref kN, .ref kA, .ref kO, .ref kK, .ref kV, .ref kG, .ref kP, .ref kC, .ref kD, .ref kE, .ref kF, .ref kX, .ref kY, .int 0, .ref kT, .ref kU, .int 2, .int 0, .int 0])), (kN, .inl (cI, 2, .inl (fun _ => 0)))] _ := hP
      have hD : va_D A [(kA, .inl (cI, 2, .inl (fun _ => 0))), (k0, .inr (9, [.ref kN, .ref kA, .ref kO, .ref kK, .ref kV, .ref kG, .ref kP, .ref kC, .ref kD, .ref kE, .ref kF, .ref kX, .ref kY, .int 0, .ref kT, .ref kU, .int 2, .int 0, .int 0])), (kN, .inl (cI, 2, .inl (fun _ => 0)))] := hD
      refine lv_aload_n hx hb dX6_netsLike_36 rfl (lv_at hl 0 rfl) ?_
      refine va_get (D := (dC, dI)) (ci := 9) (v := .int 2) (C := RX6) (T := TX6) (N := 19) hx hb hts (fun w h => List.mem_cons_of_mem _ (List.mem_append_left _ (List.mem_append_right _ (h)))) hown hK hP 1 rfl rfl 16 (by decide) (hts (.fieldLink RX6 57 "NetcompareModel" "thrown" "I") (List.mem_cons_of_mem _ (List.mem_append_left _ (List.mem_append_left _ (List.mem_append_left _ (List.mem_of_getElem? (i := 0) rfl)))))) (fun _ h9 => h9) rfl dX6_netsLike_37 ?_
      refine lv_if_le (tgt := 45) hx hb dX6_netsLike_40 (by decide) (fun h9 => absurd h9 (by decide)) (fun _ => ?_)
      refine lv_iconst (v := (-1)) hx hb dX6_netsLike_43 (by decide) ?_
      exact ret _ 2 _ _ _ _ _ _ (Or.inr (⟨rfl, (fun h9 => h9.elim ((fun h9 => h9 (Or.inl (rfl)))) ((fun h9 => h9 (Or.inl (rfl)))))⟩)) (hP.sub [1] rfl) (hK.sub [] rfl) (hD.sub [1] (by decide) rfl) hS (Nat.le_of_ble_eq_true rfl) (Nat.le_of_ble_eq_true rfl) dX6_netsLike_44
    · skip
      subst hc
      have hP : va_P (dC, dI) vwCl [(k0, .inr (9, [.ref kN, .ref kA, .ref kO, .ref kK, .ref kV, .ref kG, .ref kP, .ref kC, .ref kD, .ref kE, .ref kF, .ref kX, .ref kY, .int 0, .ref kT, .ref kU, .int 0, .int 0, .int 0])), (kN, .inl (cI, 2, .inl (fun _ => 0))), (kA, .inl (cI, 2, .inl (fun _ => 0)))] _ := hP
      have hD : va_D A [(k0, .inr (9, [.ref kN, .ref kA, .ref kO, .ref kK, .ref kV, .ref kG, .ref kP, .ref kC, .ref kD, .ref kE, .ref kF, .ref kX, .ref kY, .int 0, .ref kT, .ref kU, .int 0, .int 0, .int 0])), (kN, .inl (cI, 2, .inl (fun _ => 0))), (kA, .inl (cI, 2, .inl (fun _ => 0)))] := hD
      refine lv_if_ne (tgt := 19) hx hb dX6_netsLike_12 (by decide) (fun _ => ?_) (fun h9 => absurd h9 (by decide))
      refine lv_aload_n hx hb dX6_netsLike_19 rfl (lv_at hl 0 rfl) ?_
      refine lv_iload_n hx hb dX6_netsLike_20 rfl (lv_at hl 1 rfl) ?_
      refine lv_iload_n hx hb dX6_netsLike_21 rfl (lv_at hl 2 rfl) ?_
      have hPc := hP.sub (ws' := [(k0, .inr (9, [.ref kN, .ref kA, .ref kO, .ref kK, .ref kV, .ref kG, .ref kP, .ref kC, .ref kD, .ref kE, .ref kF, .ref kX, .ref kY, .int 0, .ref kT, .ref kU, .int 0, .int 0, .int 0])), (kN, .inl (cI, 2, .inl (fun _ => 0)))]) [0, 1] rfl
      have hDc := hD.sub (ws' := [(k0, .inr (9, [.ref kN, .ref kA, .ref kO, .ref kK, .ref kV, .ref kG, .ref kP, .ref kC, .ref kD, .ref kE, .ref kF, .ref kX, .ref kY, .int 0, .ref kT, .ref kU, .int 0, .int 0, .int 0])), (kN, .inl (cI, 2, .inl (fun _ => 0)))]) [0, 1] (by decide) rfl
      have hKc := hK.sub (tys' := [(cI, .int)]) [0] rfl
      have hFc := va_free (wc := [(k0, .inr (9, [.ref kN, .ref kA, .ref kO, .ref kK, .ref kV, .ref kG, .ref kP, .ref kC, .ref kD, .ref kE, .ref kF, .ref kX, .ref kY, .int 0, .ref kT, .ref kU, .int 0, .int 0, .int 0])), (kN, .inl (cI, 2, .inl (fun _ => 0)))]) hD hS hA [0, 1] rfl
      refine va_calli (va_runV (As := [.int 0, .int p1]) (rest := [.ref k0]) ⟨hx, hb, hml, hown, hts⟩ (kX6_isNet0 l dC dI k0 kN kA kO kK kV kG kP kC kD kE kF kX kY kT kU cI p1 H.size) (cwV 2 hts gX6_netsLike_X6_isNet rfl rfl rfl (by decide +kernel) ⟨Nat.le_of_ble_eq_true rfl, Nat.le_of_ble_eq_true rfl⟩) (fPreV hN hZ hS (fun q h => hFc q h) hPc hKc hDc (ci := 9) (q0 := 0) rfl rfl) rfl rfl hl.1 rfl (lv_room (Nat.le_of_ble_eq_true rfl)) dX6_netsLike_22 ⟨Nat.le_of_ble_eq_true rfl, Nat.le_of_ble_eq_true rfl⟩) hS (fun q _ h => hFc q h) hFc (fun r u t H1 locs ht hvm hw hB hz1 hk1 hS => ?_)
      obtain ⟨hP1, hK1, hD1⟩ := hB
      rw [ht] at hP1
      have hK1 := va_K.moved hvm.symm hK1
      obtain ⟨hP, hD⟩ := va_join (wr := [(kA, .inl (cI, 2, .inl (fun _ => 0)))]) (w1 := [(k0, .inr (9, [.ref kN, .ref kA, .ref kO, .ref kK, .ref kV, .ref kG, .ref kP, .ref kC, .ref kD, .ref kE, .ref kF, .ref kX, .ref kY, .int 0, .ref kT, .ref kU, .int 0, .int 0, .int 0])), (kN, .inl (cI, 2, .inl (fun _ => 0)))]) hP hD [0, 1] [2] rfl rfl (by decide) (by decide) hk1 hFc hP1 hD1
      generalize H1 = H at hP hS ⊢
      have hP : va_P (dC, dI) vwCl [(kA, .inl (cI, 2, .inl (fun _ => 0))), (k0, .inr (9, [.ref kN, .ref kA, .ref kO, .ref kK, .ref kV, .ref kG, .ref kP, .ref kC, .ref kD, .ref kE, .ref kF, .ref kX, .ref kY, .int 0, .ref kT, .ref kU, .int 0, .int 0, .int 0])), (kN, .inl (cI, 2, .inl (fun _ => 0)))] _ := hP
      have hD : va_D A [(kA, .inl (cI, 2, .inl (fun _ => 0))), (k0, .inr (9, [.ref kN, .ref kA, .ref kO, .ref kK, .ref kV, .ref kG, .ref kP, .ref kC, .ref kD, .ref kE, .ref kF, .ref kX, .ref kY, .int 0, .ref kT, .ref kU, .int 0, .int 0, .int 0])), (kN, .inl (cI, 2, .inl (fun _ => 0)))] := hD
      subst hw
      refine lv_if_ne (tgt := 32) hx hb dX6_netsLike_25 (by decide) (fun h9 => absurd (by decide) h9) (fun _ => ?_)
      refine lv_iconst (v := 2) hx hb dX6_netsLike_28 (by decide) ?_
      refine lv_goto (tgt := 33) hx hb dX6_netsLike_29 (by decide) ?_
      refine va_put (D := (dC, dI)) (ci := 9) (v := .int 2) (ty := .int) (C := RX6) (T := TX6) (N := 19) hx hb hts (fun w h => List.mem_cons_of_mem _ (List.mem_append_left _ (List.mem_append_right _ (h)))) tyX6 tyX6_ok nmX6 hown hK hP hD hS 1 rfl rfl 16 (by decide) (hts (.fieldLink RX6 57 "NetcompareModel" "thrown" "I") (List.mem_cons_of_mem _ (List.mem_append_left _ (List.mem_append_left _ (List.mem_append_left _ (List.mem_of_getElem? (i := 0) rfl)))))) (fun _ h9 => h9) rfl (by decide +kernel) rfl rfl (Nat.le_of_ble_eq_true rfl) dX6_netsLike_33 (fun H locs hP hD hS => ?_)
      have hP : va_P (dC, dI) vwCl [(kA, .inl (cI, 2, .inl (fun _ => 0))), (k0, .inr (9, [.ref kN, .ref kA, .ref kO, .ref kK, .ref kV, .ref kG, .ref kP, .ref kC, .ref kD, .ref kE, .ref kF, .ref kX, .ref kY, .int 0, .ref kT, .ref kU, .int 2, .int 0, .int 0])), (kN, .inl (cI, 2, .inl (fun _ => 0)))] _ := hP
      have hD : va_D A [(kA, .inl (cI, 2, .inl (fun _ => 0))), (k0, .inr (9, [.ref kN, .ref kA, .ref kO, .ref kK, .ref kV, .ref kG, .ref kP, .ref kC, .ref kD, .ref kE, .ref kF, .ref kX, .ref kY, .int 0, .ref kT, .ref kU, .int 2, .int 0, .int 0])), (kN, .inl (cI, 2, .inl (fun _ => 0)))] := hD
      refine lv_aload_n hx hb dX6_netsLike_36 rfl (lv_at hl 0 rfl) ?_
      refine va_get (D := (dC, dI)) (ci := 9) (v := .int 2) (C := RX6) (T := TX6) (N := 19) hx hb hts (fun w h => List.mem_cons_of_mem _ (List.mem_append_left _ (List.mem_append_right _ (h)))) hown hK hP 1 rfl rfl 16 (by decide) (hts (.fieldLink RX6 57 "NetcompareModel" "thrown" "I") (List.mem_cons_of_mem _ (List.mem_append_left _ (List.mem_append_left _ (List.mem_append_left _ (List.mem_of_getElem? (i := 0) rfl)))))) (fun _ h9 => h9) rfl dX6_netsLike_37 ?_
      refine lv_if_le (tgt := 45) hx hb dX6_netsLike_40 (by decide) (fun h9 => absurd h9 (by decide)) (fun _ => ?_)
      refine lv_iconst (v := (-1)) hx hb dX6_netsLike_43 (by decide) ?_
      exact ret _ 2 _ _ _ _ _ _ (Or.inr (⟨rfl, (fun h9 => h9.elim ((fun h9 => h9 (Or.inl (rfl)))) ((fun h9 => h9 (Or.inr (rfl)))))⟩)) (hP.sub [1] rfl) (hK.sub [] rfl) (hD.sub [1] (by decide) rfl) hS (Nat.le_of_ble_eq_true rfl) (Nat.le_of_ble_eq_true rfl) dX6_netsLike_44
    · skip
      have hc1 := hc
      refine lv_if_ne (tgt := 19) hx hb dX6_netsLike_12 (by decide) (fun h9 => absurd (by decide) h9) (fun _ => ?_)
      refine lv_iconst (v := 1) hx hb dX6_netsLike_15 (by decide) ?_
      refine lv_goto (tgt := 33) hx hb dX6_netsLike_16 (by decide) ?_
      refine va_put (D := (dC, dI)) (ci := 9) (v := .int 1) (ty := .int) (C := RX6) (T := TX6) (N := 19) hx hb hts (fun w h => List.mem_cons_of_mem _ (List.mem_append_left _ (List.mem_append_right _ (h)))) tyX6 tyX6_ok nmX6 hown hK hP hD hS 0 rfl rfl 16 (by decide) (hts (.fieldLink RX6 57 "NetcompareModel" "thrown" "I") (List.mem_cons_of_mem _ (List.mem_append_left _ (List.mem_append_left _ (List.mem_append_left _ (List.mem_of_getElem? (i := 0) rfl)))))) (fun _ h9 => h9) rfl (by decide +kernel) rfl rfl (Nat.le_of_ble_eq_true rfl) dX6_netsLike_33 (fun H locs hP hD hS => ?_)
      have hP : va_P (dC, dI) vwCl [(k0, .inr (9, [.ref kN, .ref kA, .ref kO, .ref kK, .ref kV, .ref kG, .ref kP, .ref kC, .ref kD, .ref kE, .ref kF, .ref kX, .ref kY, .int 0, .ref kT, .ref kU, .int 1, .int 0, .int 0])), (kN, .inl (cI, 2, .inl (fun _ => 0))), (kA, .inl (cI, 2, .inl (fun _ => 0)))] _ := hP
      have hD : va_D A [(k0, .inr (9, [.ref kN, .ref kA, .ref kO, .ref kK, .ref kV, .ref kG, .ref kP, .ref kC, .ref kD, .ref kE, .ref kF, .ref kX, .ref kY, .int 0, .ref kT, .ref kU, .int 1, .int 0, .int 0])), (kN, .inl (cI, 2, .inl (fun _ => 0))), (kA, .inl (cI, 2, .inl (fun _ => 0)))] := hD
      refine lv_aload_n hx hb dX6_netsLike_36 rfl (lv_at hl 0 rfl) ?_
      refine va_get (D := (dC, dI)) (ci := 9) (v := .int 1) (C := RX6) (T := TX6) (N := 19) hx hb hts (fun w h => List.mem_cons_of_mem _ (List.mem_append_left _ (List.mem_append_right _ (h)))) hown hK hP 0 rfl rfl 16 (by decide) (hts (.fieldLink RX6 57 "NetcompareModel" "thrown" "I") (List.mem_cons_of_mem _ (List.mem_append_left _ (List.mem_append_left _ (List.mem_append_left _ (List.mem_of_getElem? (i := 0) rfl)))))) (fun _ h9 => h9) rfl dX6_netsLike_37 ?_
      refine lv_if_le (tgt := 45) hx hb dX6_netsLike_40 (by decide) (fun h9 => absurd h9 (by decide)) (fun _ => ?_)
      refine lv_iconst (v := (-1)) hx hb dX6_netsLike_43 (by decide) ?_
      exact ret _ 1 _ _ _ _ _ _ (Or.inl (⟨rfl, Or.inr (hc1)⟩)) (hP.sub [0] rfl) (hK.sub [] rfl) (hD.sub [0] (by decide) rfl) hS (Nat.le_of_ble_eq_true rfl) (Nat.le_of_ble_eq_true rfl) dX6_netsLike_44
  · skip
    subst hc
    have hP : va_P (dC, dI) vwCl [(k0, .inr (9, [.ref kN, .ref kA, .ref kO, .ref kK, .ref kV, .ref kG, .ref kP, .ref kC, .ref kD, .ref kE, .ref kF, .ref kX, .ref kY, .int 0, .ref kT, .ref kU, .int 0, .int 0, .int 0])), (kN, .inl (cI, 2, .inl (fun _ => 0))), (kA, .inl (cI, 2, .inl (fun _ => 0)))] _ := hP
    have hD : va_D A [(k0, .inr (9, [.ref kN, .ref kA, .ref kO, .ref kK, .ref kV, .ref kG, .ref kP, .ref kC, .ref kD, .ref kE, .ref kF, .ref kX, .ref kY, .int 0, .ref kT, .ref kU, .int 0, .int 0, .int 0])), (kN, .inl (cI, 2, .inl (fun _ => 0))), (kA, .inl (cI, 2, .inl (fun _ => 0)))] := hD
    refine lv_if_eq (tgt := 15) hx hb dX6_netsLike_5 (by decide) (fun h9 => absurd h9 (by decide)) (fun _ => ?_)
    refine lv_iload_n hx hb dX6_netsLike_8 rfl (lv_at hl 3 rfl) ?_
    have hPc := hP.sub (ws' := []) [] rfl
    have hDc := hD.sub (ws' := []) [] (by decide) rfl
    have hKc := hK.sub (tys' := []) [] rfl
    have hFc := va_free (wc := []) hD hS hA [] rfl
    refine va_calli (va_runS (As := [.int p2]) (rest := [.ref k0]) ⟨hx, hb, hml, hown, hts⟩ (kX6_isCircuit l dC dI p2 H.size) (va_cwS 1 hts gX6_netsLike_X6_isCircuit rfl rfl rfl (by decide +kernel) ⟨Nat.le_of_ble_eq_true rfl, Nat.le_of_ble_eq_true rfl⟩) (fPreS hN hZ hS (fun q h => hFc q h) hPc hKc hDc) rfl rfl hl.1 rfl (lv_room (Nat.le_of_ble_eq_true rfl)) dX6_netsLike_9 ⟨Nat.le_of_ble_eq_true rfl, Nat.le_of_ble_eq_true rfl⟩) hS (fun q _ h => hFc q h) hFc (fun r u t H1 locs ht hvm hw hB hz1 hk1 hS => ?_)
    obtain ⟨hP1, hK1, hD1⟩ := hB
    rw [ht] at hP1
    have hK1 := va_K.moved hvm.symm hK1
    obtain ⟨hP, hD⟩ := va_join (wr := [(k0, .inr (9, [.ref kN, .ref kA, .ref kO, .ref kK, .ref kV, .ref kG, .ref kP, .ref kC, .ref kD, .ref kE, .ref kF, .ref kX, .ref kY, .int 0, .ref kT, .ref kU, .int 0, .int 0, .int 0])), (kN, .inl (cI, 2, .inl (fun _ => 0))), (kA, .inl (cI, 2, .inl (fun _ => 0)))]) (w1 := []) hP hD [] [0, 1, 2] rfl rfl (by decide) (by decide) hk1 hFc hP1 hD1
    generalize H1 = H at hP hS ⊢
    have hP : va_P (dC, dI) vwCl [(k0, .inr (9, [.ref kN, .ref kA, .ref kO, .ref kK, .ref kV, .ref kG, .ref kP, .ref kC, .ref kD, .ref kE, .ref kF, .ref kX, .ref kY, .int 0, .ref kT, .ref kU, .int 0, .int 0, .int 0])), (kN, .inl (cI, 2, .inl (fun _ => 0))), (kA, .inl (cI, 2, .inl (fun _ => 0)))] _ := hP
    have hD : va_D A [(k0, .inr (9, [.ref kN, .ref kA, .ref kO, .ref kK, .ref kV, .ref kG, .ref kP, .ref kC, .ref kD, .ref kE, .ref kF, .ref kX, .ref kY, .int 0, .ref kT, .ref kU, .int 0, .int 0, .int 0])), (kN, .inl (cI, 2, .inl (fun _ => 0))), (kA, .inl (cI, 2, .inl (fun _ => 0)))] := hD
    rcases hw with ⟨rfl, hc | hc⟩ | ⟨rfl, hc⟩
    · skip
      subst hc
      have hP : va_P (dC, dI) vwCl [(k0, .inr (9, [.ref kN, .ref kA, .ref kO, .ref kK, .ref kV, .ref kG, .ref kP, .ref kC, .ref kD, .ref kE, .ref kF, .ref kX, .ref kY, .int 0, .ref kT, .ref kU, .int 0, .int 0, .int 0])), (kN, .inl (cI, 2, .inl (fun _ => 0))), (kA, .inl (cI, 2, .inl (fun _ => 0)))] _ := hP
      have hD : va_D A [(k0, .inr (9, [.ref kN, .ref kA, .ref kO, .ref kK, .ref kV, .ref kG, .ref kP, .ref kC, .ref kD, .ref kE, .ref kF, .ref kX, .ref kY, .int 0, .ref kT, .ref kU, .int 0, .int 0, .int 0])), (kN, .inl (cI, 2, .inl (fun _ => 0))), (kA, .inl (cI, 2, .inl (fun _ => 0)))] := hD
      refine lv_if_ne (tgt := 19) hx hb dX6_netsLike_12 (by decide) (fun _ => ?_) (fun h9 => absurd h9 (by decide))
      refine lv_aload_n hx hb dX6_netsLike_19 rfl (lv_at hl 0 rfl) ?_
      refine lv_iload_n hx hb dX6_netsLike_20 rfl (lv_at hl 1 rfl) ?_
      refine lv_iload_n hx hb dX6_netsLike_21 rfl (lv_at hl 2 rfl) ?_
      have hPc := hP.sub (ws' := [(k0, .inr (9, [.ref kN, .ref kA, .ref kO, .ref kK, .ref kV, .ref kG, .ref kP, .ref kC, .ref kD, .ref kE, .ref kF, .ref kX, .ref kY, .int 0, .ref kT, .ref kU, .int 0, .int 0, .int 0])), (kN, .inl (cI, 2, .inl (fun _ => 0)))]) [0, 1] rfl
      have hDc := hD.sub (ws' := [(k0, .inr (9, [.ref kN, .ref kA, .ref kO, .ref kK, .ref kV, .ref kG, .ref kP, .ref kC, .ref kD, .ref kE, .ref kF, .ref kX, .ref kY, .int 0, .ref kT, .ref kU, .int 0, .int 0, .int 0])), (kN, .inl (cI, 2, .inl (fun _ => 0)))]) [0, 1] (by decide) rfl
      have hKc := hK.sub (tys' := [(cI, .int)]) [0] rfl
      have hFc := va_free (wc := [(k0, .inr (9, [.ref kN, .ref kA, .ref kO, .ref kK, .ref kV, .ref kG, .ref kP, .ref kC, .ref kD, .ref kE, .ref kF, .ref kX, .ref kY, .int 0, .ref kT, .ref kU, .int 0, .int 0, .int 0])), (kN, .inl (cI, 2, .inl (fun _ => 0)))]) hD hS hA [0, 1] rfl
      refine va_calli (va_runV (As := [.int 1, .int p1]) (rest := [.ref k0]) ⟨hx, hb, hml, hown, hts⟩ (kX6_isNet1 l dC dI k0 kN kA kO kK kV kG kP kC kD kE kF kX kY kT kU cI p1 H.size) (cwV 2 hts gX6_netsLike_X6_isNet rfl rfl rfl (by decide +kernel) ⟨Nat.le_of_ble_eq_true rfl, Nat.le_of_ble_eq_true rfl⟩) (fPreV hN hZ hS (fun q h => hFc q h) hPc hKc hDc (ci := 9) (q0 := 0) rfl rfl) rfl rfl hl.1 rfl (lv_room (Nat.le_of_ble_eq_true rfl)) dX6_netsLike_22 ⟨Nat.le_of_ble_eq_true rfl, Nat.le_of_ble_eq_true rfl⟩) hS (fun q _ h => hFc q h) hFc (fun r u t H1 locs ht hvm hw hB hz1 hk1 hS => ?_)
      obtain ⟨hP1, hK1, hD1⟩ := hB
      rw [ht] at hP1
      have hK1 := va_K.moved hvm.symm hK1
      obtain ⟨hP, hD⟩ := va_join (wr := [(kA, .inl (cI, 2, .inl (fun _ => 0)))]) (w1 := [(k0, .inr (9, [.ref kN, .ref kA, .ref kO, .ref kK, .ref kV, .ref kG, .ref kP, .ref kC, .ref kD, .ref kE, .ref kF, .ref kX, .ref kY, .int 0, .ref kT, .ref kU, .int 0, .int 0, .int 0])), (kN, .inl (cI, 2, .inl (fun _ => 0)))]) hP hD [0, 1] [2] rfl rfl (by decide) (by decide) hk1 hFc hP1 hD1
      generalize H1 = H at hP hS ⊢
      have hP : va_P (dC, dI) vwCl [(kA, .inl (cI, 2, .inl (fun _ => 0))), (k0, .inr (9, [.ref kN, .ref kA, .ref kO, .ref kK, .ref kV, .ref kG, .ref kP, .ref kC, .ref kD, .ref kE, .ref kF, .ref kX, .ref kY, .int 0, .ref kT, .ref kU, .int 0, .int 0, .int 0])), (kN, .inl (cI, 2, .inl (fun _ => 0)))] _ := hP
      have hD : va_D A [(kA, .inl (cI, 2, .inl (fun _ => 0))), (k0, .inr (9, [.ref kN, .ref kA, .ref kO, .ref kK, .ref kV, .ref kG, .ref kP, .ref kC, .ref kD, .ref kE, .ref kF, .ref kX, .ref kY, .int 0, .ref kT, .ref kU, .int 0, .int 0, .int 0])), (kN, .inl (cI, 2, .inl (fun _ => 0)))] := hD
      subst hw
      refine lv_if_ne (tgt := 32) hx hb dX6_netsLike_25 (by decide) (fun h9 => absurd (by decide) h9) (fun _ => ?_)
      refine lv_iconst (v := 2) hx hb dX6_netsLike_28 (by decide) ?_
      refine lv_goto (tgt := 33) hx hb dX6_netsLike_29 (by decide) ?_
      refine va_put (D := (dC, dI)) (ci := 9) (v := .int 2) (ty := .int) (C := RX6) (T := TX6) (N := 19) hx hb hts (fun w h => List.mem_cons_of_mem _ (List.mem_append_left _ (List.mem_append_right _ (h)))) tyX6 tyX6_ok nmX6 hown hK hP hD hS 1 rfl rfl 16 (by decide) (hts (.fieldLink RX6 57 "NetcompareModel" "thrown" "I") (List.mem_cons_of_mem _ (List.mem_append_left _ (List.mem_append_left _ (List.mem_append_left _ (List.mem_of_getElem? (i := 0) rfl)))))) (fun _ h9 => h9) rfl (by decide +kernel) rfl rfl (Nat.le_of_ble_eq_true rfl) dX6_netsLike_33 (fun H locs hP hD hS => ?_)
      have hP : va_P (dC, dI) vwCl [(kA, .inl (cI, 2, .inl (fun _ => 0))), (k0, .inr (9, [.ref kN, .ref kA, .ref kO, .ref kK, .ref kV, .ref kG, .ref kP, .ref kC, .ref kD, .ref kE, .ref kF, .ref kX, .ref kY, .int 0, .ref kT, .ref kU, .int 2, .int 0, .int 0])), (kN, .inl (cI, 2, .inl (fun _ => 0)))] _ := hP
      have hD : va_D A [(kA, .inl (cI, 2, .inl (fun _ => 0))), (k0, .inr (9, [.ref kN, .ref kA, .ref kO, .ref kK, .ref kV, .ref kG, .ref kP, .ref kC, .ref kD, .ref kE, .ref kF, .ref kX, .ref kY, .int 0, .ref kT, .ref kU, .int 2, .int 0, .int 0])), (kN, .inl (cI, 2, .inl (fun _ => 0)))] := hD
      refine lv_aload_n hx hb dX6_netsLike_36 rfl (lv_at hl 0 rfl) ?_
      refine va_get (D := (dC, dI)) (ci := 9) (v := .int 2) (C := RX6) (T := TX6) (N := 19) hx hb hts (fun w h => List.mem_cons_of_mem _ (List.mem_append_left _ (List.mem_append_right _ (h)))) hown hK hP 1 rfl rfl 16 (by decide) (hts (.fieldLink RX6 57 "NetcompareModel" "thrown" "I") (List.mem_cons_of_mem _ (List.mem_append_left _ (List.mem_append_left _ (List.mem_append_left _ (List.mem_of_getElem? (i := 0) rfl)))))) (fun _ h9 => h9) rfl dX6_netsLike_37 ?_
      refine lv_if_le (tgt := 45) hx hb dX6_netsLike_40 (by decide) (fun h9 => absurd h9 (by decide)) (fun _ => ?_)
      refine lv_iconst (v := (-1)) hx hb dX6_netsLike_43 (by decide) ?_
      exact ret _ 2 _ _ _ _ _ _ (Or.inr (⟨rfl, (fun h9 => h9.elim ((fun h9 => h9 (Or.inr (rfl)))) ((fun h9 => h9 (Or.inl (rfl)))))⟩)) (hP.sub [1] rfl) (hK.sub [] rfl) (hD.sub [1] (by decide) rfl) hS (Nat.le_of_ble_eq_true rfl) (Nat.le_of_ble_eq_true rfl) dX6_netsLike_44
    · skip
      subst hc
      have hP : va_P (dC, dI) vwCl [(k0, .inr (9, [.ref kN, .ref kA, .ref kO, .ref kK, .ref kV, .ref kG, .ref kP, .ref kC, .ref kD, .ref kE, .ref kF, .ref kX, .ref kY, .int 0, .ref kT, .ref kU, .int 0, .int 0, .int 0])), (kN, .inl (cI, 2, .inl (fun _ => 0))), (kA, .inl (cI, 2, .inl (fun _ => 0)))] _ := hP
      have hD : va_D A [(k0, .inr (9, [.ref kN, .ref kA, .ref kO, .ref kK, .ref kV, .ref kG, .ref kP, .ref kC, .ref kD, .ref kE, .ref kF, .ref kX, .ref kY, .int 0, .ref kT, .ref kU, .int 0, .int 0, .int 0])), (kN, .inl (cI, 2, .inl (fun _ => 0))), (kA, .inl (cI, 2, .inl (fun _ => 0)))] := hD
      refine lv_if_ne (tgt := 19) hx hb dX6_netsLike_12 (by decide) (fun _ => ?_) (fun h9 => absurd h9 (by decide))
      refine lv_aload_n hx hb dX6_netsLike_19 rfl (lv_at hl 0 rfl) ?_
      refine lv_iload_n hx hb dX6_netsLike_20 rfl (lv_at hl 1 rfl) ?_
      refine lv_iload_n hx hb dX6_netsLike_21 rfl (lv_at hl 2 rfl) ?_
      have hPc := hP.sub (ws' := [(k0, .inr (9, [.ref kN, .ref kA, .ref kO, .ref kK, .ref kV, .ref kG, .ref kP, .ref kC, .ref kD, .ref kE, .ref kF, .ref kX, .ref kY, .int 0, .ref kT, .ref kU, .int 0, .int 0, .int 0])), (kN, .inl (cI, 2, .inl (fun _ => 0)))]) [0, 1] rfl
      have hDc := hD.sub (ws' := [(k0, .inr (9, [.ref kN, .ref kA, .ref kO, .ref kK, .ref kV, .ref kG, .ref kP, .ref kC, .ref kD, .ref kE, .ref kF, .ref kX, .ref kY, .int 0, .ref kT, .ref kU, .int 0, .int 0, .int 0])), (kN, .inl (cI, 2, .inl (fun _ => 0)))]) [0, 1] (by decide) rfl
      have hKc := hK.sub (tys' := [(cI, .int)]) [0] rfl
      have hFc := va_free (wc := [(k0, .inr (9, [.ref kN, .ref kA, .ref kO, .ref kK, .ref kV, .ref kG, .ref kP, .ref kC, .ref kD, .ref kE, .ref kF, .ref kX, .ref kY, .int 0, .ref kT, .ref kU, .int 0, .int 0, .int 0])), (kN, .inl (cI, 2, .inl (fun _ => 0)))]) hD hS hA [0, 1] rfl
      refine va_calli (va_runV (As := [.int 1, .int p1]) (rest := [.ref k0]) ⟨hx, hb, hml, hown, hts⟩ (kX6_isNet1 l dC dI k0 kN kA kO kK kV kG kP kC kD kE kF kX kY kT kU cI p1 H.size) (cwV 2 hts gX6_netsLike_X6_isNet rfl rfl rfl (by decide +kernel) ⟨Nat.le_of_ble_eq_true rfl, Nat.le_of_ble_eq_true rfl⟩) (fPreV hN hZ hS (fun q h => hFc q h) hPc hKc hDc (ci := 9) (q0 := 0) rfl rfl) rfl rfl hl.1 rfl (lv_room (Nat.le_of_ble_eq_true rfl)) dX6_netsLike_22 ⟨Nat.le_of_ble_eq_true rfl, Nat.le_of_ble_eq_true rfl⟩) hS (fun q _ h => hFc q h) hFc (fun r u t H1 locs ht hvm hw hB hz1 hk1 hS => ?_)
      obtain ⟨hP1, hK1, hD1⟩ := hB
      rw [ht] at hP1
      have hK1 := va_K.moved hvm.symm hK1
      obtain ⟨hP, hD⟩ := va_join (wr := [(kA, .inl (cI, 2, .inl (fun _ => 0)))]) (w1 := [(k0, .inr (9, [.ref kN, .ref kA, .ref kO, .ref kK, .ref kV, .ref kG, .ref kP, .ref kC, .ref kD, .ref kE, .ref kF, .ref kX, .ref kY, .int 0, .ref kT, .ref kU, .int 0, .int 0, .int 0])), (kN, .inl (cI, 2, .inl (fun _ => 0)))]) hP hD [0, 1] [2] rfl rfl (by decide) (by decide) hk1 hFc hP1 hD1
      generalize H1 = H at hP hS ⊢
      have hP : va_P (dC, dI) vwCl [(kA, .inl (cI, 2, .inl (fun _ => 0))), (k0, .inr (9, [.ref kN, .ref kA, .ref kO, .ref kK, .ref kV, .ref kG, .ref kP, .ref kC, .ref kD, .ref kE, .ref kF, .ref kX, .ref kY, .int 0, .ref kT, .ref kU, .int 0, .int 0, .int 0])), (kN, .inl (cI, 2, .inl (fun _ => 0)))] _ := hP
      have hD : va_D A [(kA, .inl (cI, 2, .inl (fun _ => 0))), (k0, .inr (9, [.ref kN, .ref kA, .ref kO, .ref kK, .ref kV, .ref kG, .ref kP, .ref kC, .ref kD, .ref kE, .ref kF, .ref kX, .ref kY, .int 0, .ref kT, .ref kU, .int 0, .int 0, .int 0])), (kN, .inl (cI, 2, .inl (fun _ => 0)))] := hD
      subst hw
      refine lv_if_ne (tgt := 32) hx hb dX6_netsLike_25 (by decide) (fun h9 => absurd (by decide) h9) (fun _ => ?_)
      refine lv_iconst (v := 2) hx hb dX6_netsLike_28 (by decide) ?_
      refine lv_goto (tgt := 33) hx hb dX6_netsLike_29 (by decide) ?_
      refine va_put (D := (dC, dI)) (ci := 9) (v := .int 2) (ty := .int) (C := RX6) (T := TX6) (N := 19) hx hb hts (fun w h => List.mem_cons_of_mem _ (List.mem_append_left _ (List.mem_append_right _ (h)))) tyX6 tyX6_ok nmX6 hown hK hP hD hS 1 rfl rfl 16 (by decide) (hts (.fieldLink RX6 57 "NetcompareModel" "thrown" "I") (List.mem_cons_of_mem _ (List.mem_append_left _ (List.mem_append_left _ (List.mem_append_left _ (List.mem_of_getElem? (i := 0) rfl)))))) (fun _ h9 => h9) rfl (by decide +kernel) rfl rfl (Nat.le_of_ble_eq_true rfl) dX6_netsLike_33 (fun H locs hP hD hS => ?_)
      have hP : va_P (dC, dI) vwCl [(kA, .inl (cI, 2, .inl (fun _ => 0))), (k0, .inr (9, [.ref kN, .ref kA, .ref kO, .ref kK, .ref kV, .ref kG, .ref kP, .ref kC, .ref kD, .ref kE, .ref kF, .ref kX, .ref kY, .int 0, .ref kT, .ref kU, .int 2, .int 0, .int 0])), (kN, .inl (cI, 2, .inl (fun _ => 0)))] _ := hP
      have hD : va_D A [(kA, .inl (cI, 2, .inl (fun _ => 0))), (k0, .inr (9, [.ref kN, .ref kA, .ref kO, .ref kK, .ref kV, .ref kG, .ref kP, .ref kC, .ref kD, .ref kE, .ref kF, .ref kX, .ref kY, .int 0, .ref kT, .ref kU, .int 2, .int 0, .int 0])), (kN, .inl (cI, 2, .inl (fun _ => 0)))] := hD
      refine lv_aload_n hx hb dX6_netsLike_36 rfl (lv_at hl 0 rfl) ?_
      refine va_get (D := (dC, dI)) (ci := 9) (v := .int 2) (C := RX6) (T := TX6) (N := 19) hx hb hts (fun w h => List.mem_cons_of_mem _ (List.mem_append_left _ (List.mem_append_right _ (h)))) hown hK hP 1 rfl rfl 16 (by decide) (hts (.fieldLink RX6 57 "NetcompareModel" "thrown" "I") (List.mem_cons_of_mem _ (List.mem_append_left _ (List.mem_append_left _ (List.mem_append_left _ (List.mem_of_getElem? (i := 0) rfl)))))) (fun _ h9 => h9) rfl dX6_netsLike_37 ?_
      refine lv_if_le (tgt := 45) hx hb dX6_netsLike_40 (by decide) (fun h9 => absurd h9 (by decide)) (fun _ => ?_)
      refine lv_iconst (v := (-1)) hx hb dX6_netsLike_43 (by decide) ?_
      exact ret _ 2 _ _ _ _ _ _ (Or.inr (⟨rfl, (fun h9 => h9.elim ((fun h9 => h9 (Or.inr (rfl)))) ((fun h9 => h9 (Or.inr (rfl)))))⟩)) (hP.sub [1] rfl) (hK.sub [] rfl) (hD.sub [1] (by decide) rfl) hS (Nat.le_of_ble_eq_true rfl) (Nat.le_of_ble_eq_true rfl) dX6_netsLike_44
    · skip
      have hc2 := hc
      refine lv_if_ne (tgt := 19) hx hb dX6_netsLike_12 (by decide) (fun h9 => absurd (by decide) h9) (fun _ => ?_)
      refine lv_iconst (v := 1) hx hb dX6_netsLike_15 (by decide) ?_
      refine lv_goto (tgt := 33) hx hb dX6_netsLike_16 (by decide) ?_
      refine va_put (D := (dC, dI)) (ci := 9) (v := .int 1) (ty := .int) (C := RX6) (T := TX6) (N := 19) hx hb hts (fun w h => List.mem_cons_of_mem _ (List.mem_append_left _ (List.mem_append_right _ (h)))) tyX6 tyX6_ok nmX6 hown hK hP hD hS 0 rfl rfl 16 (by decide) (hts (.fieldLink RX6 57 "NetcompareModel" "thrown" "I") (List.mem_cons_of_mem _ (List.mem_append_left _ (List.mem_append_left _ (List.mem_append_left _ (List.mem_of_getElem? (i := 0) rfl)))))) (fun _ h9 => h9) rfl (by decide +kernel) rfl rfl (Nat.le_of_ble_eq_true rfl) dX6_netsLike_33 (fun H locs hP hD hS => ?_)
      have hP : va_P (dC, dI) vwCl [(k0, .inr (9, [.ref kN, .ref kA, .ref kO, .ref kK, .ref kV, .ref kG, .ref kP, .ref kC, .ref kD, .ref kE, .ref kF, .ref kX, .ref kY, .int 0, .ref kT, .ref kU, .int 1, .int 0, .int 0])), (kN, .inl (cI, 2, .inl (fun _ => 0))), (kA, .inl (cI, 2, .inl (fun _ => 0)))] _ := hP
      have hD : va_D A [(k0, .inr (9, [.ref kN, .ref kA, .ref kO, .ref kK, .ref kV, .ref kG, .ref kP, .ref kC, .ref kD, .ref kE, .ref kF, .ref kX, .ref kY, .int 0, .ref kT, .ref kU, .int 1, .int 0, .int 0])), (kN, .inl (cI, 2, .inl (fun _ => 0))), (kA, .inl (cI, 2, .inl (fun _ => 0)))] := hD
      refine lv_aload_n hx hb dX6_netsLike_36 rfl (lv_at hl 0 rfl) ?_
      refine va_get (D := (dC, dI)) (ci := 9) (v := .int 1) (C := RX6) (T := TX6) (N := 19) hx hb hts (fun w h => List.mem_cons_of_mem _ (List.mem_append_left _ (List.mem_append_right _ (h)))) hown hK hP 0 rfl rfl 16 (by decide) (hts (.fieldLink RX6 57 "NetcompareModel" "thrown" "I") (List.mem_cons_of_mem _ (List.mem_append_left _ (List.mem_append_left _ (List.mem_append_left _ (List.mem_of_getElem? (i := 0) rfl)))))) (fun _ h9 => h9) rfl dX6_netsLike_37 ?_
      refine lv_if_le (tgt := 45) hx hb dX6_netsLike_40 (by decide) (fun h9 => absurd h9 (by decide)) (fun _ => ?_)
      refine lv_iconst (v := (-1)) hx hb dX6_netsLike_43 (by decide) ?_
      exact ret _ 1 _ _ _ _ _ _ (Or.inl (⟨rfl, Or.inr (hc2)⟩)) (hP.sub [0] rfl) (hK.sub [] rfl) (hD.sub [0] (by decide) rfl) hS (Nat.le_of_ble_eq_true rfl) (Nat.le_of_ble_eq_true rfl) dX6_netsLike_44
  · skip
    have hc3 := hc
    refine lv_if_eq (tgt := 15) hx hb dX6_netsLike_5 (by decide) (fun _ => ?_) (fun h9 => absurd (by decide) h9)
    refine lv_iconst (v := 1) hx hb dX6_netsLike_15 (by decide) ?_
    refine lv_goto (tgt := 33) hx hb dX6_netsLike_16 (by decide) ?_
    refine va_put (D := (dC, dI)) (ci := 9) (v := .int 1) (ty := .int) (C := RX6) (T := TX6) (N := 19) hx hb hts (fun w h => List.mem_cons_of_mem _ (List.mem_append_left _ (List.mem_append_right _ (h)))) tyX6 tyX6_ok nmX6 hown hK hP hD hS 0 rfl rfl 16 (by decide) (hts (.fieldLink RX6 57 "NetcompareModel" "thrown" "I") (List.mem_cons_of_mem _ (List.mem_append_left _ (List.mem_append_left _ (List.mem_append_left _ (List.mem_of_getElem? (i := 0) rfl)))))) (fun _ h9 => h9) rfl (by decide +kernel) rfl rfl (Nat.le_of_ble_eq_true rfl) dX6_netsLike_33 (fun H locs hP hD hS => ?_)
    have hP : va_P (dC, dI) vwCl [(k0, .inr (9, [.ref kN, .ref kA, .ref kO, .ref kK, .ref kV, .ref kG, .ref kP, .ref kC, .ref kD, .ref kE, .ref kF, .ref kX, .ref kY, .int 0, .ref kT, .ref kU, .int 1, .int 0, .int 0])), (kN, .inl (cI, 2, .inl (fun _ => 0))), (kA, .inl (cI, 2, .inl (fun _ => 0)))] _ := hP
    have hD : va_D A [(k0, .inr (9, [.ref kN, .ref kA, .ref kO, .ref kK, .ref kV, .ref kG, .ref kP, .ref kC, .ref kD, .ref kE, .ref kF, .ref kX, .ref kY, .int 0, .ref kT, .ref kU, .int 1, .int 0, .int 0])), (kN, .inl (cI, 2, .inl (fun _ => 0))), (kA, .inl (cI, 2, .inl (fun _ => 0)))] := hD
    refine lv_aload_n hx hb dX6_netsLike_36 rfl (lv_at hl 0 rfl) ?_
    refine va_get (D := (dC, dI)) (ci := 9) (v := .int 1) (C := RX6) (T := TX6) (N := 19) hx hb hts (fun w h => List.mem_cons_of_mem _ (List.mem_append_left _ (List.mem_append_right _ (h)))) hown hK hP 0 rfl rfl 16 (by decide) (hts (.fieldLink RX6 57 "NetcompareModel" "thrown" "I") (List.mem_cons_of_mem _ (List.mem_append_left _ (List.mem_append_left _ (List.mem_append_left _ (List.mem_of_getElem? (i := 0) rfl)))))) (fun _ h9 => h9) rfl dX6_netsLike_37 ?_
    refine lv_if_le (tgt := 45) hx hb dX6_netsLike_40 (by decide) (fun h9 => absurd h9 (by decide)) (fun _ => ?_)
    refine lv_iconst (v := (-1)) hx hb dX6_netsLike_43 (by decide) ?_
    exact ret _ 1 _ _ _ _ _ _ (Or.inl (⟨rfl, Or.inl (hc3)⟩)) (hP.sub [0] rfl) (hK.sub [] rfl) (hD.sub [0] (by decide) rfl) hS (Nat.le_of_ble_eq_true rfl) (Nat.le_of_ble_eq_true rfl) dX6_netsLike_44

set_option maxHeartbeats 4000000 in
set_option maxRecDepth 100000 in
/-- the model: partsLike on a fresh one -/
theorem kX6_partsLike (l : Launch) (dC : Nat → ClassId) (dI : Nat → Nat → Nat) (k0 kN kA kO kK kV kG kP kC kD kE kF kX kY kT kU : Nat) (cI : ClassId) (p0 p1 p2 : Int32) (sz : Nat) : fMi l yX6_partsLike wsX6_partsLike ({ frames := 2, cells := 0, slots := 0, locals := 47 } : Room) dC dI [.ref k0, .int p0, .int p1, .int p2] [(k0, .inr (9, [.ref kN, .ref kA, .ref kO, .ref kK, .ref kV, .ref kG, .ref kP, .ref kC, .ref kD, .ref kE, .ref kF, .ref kX, .ref kY, .int 0, .ref kT, .ref kU, .int 0, .int 0, .int 0])), (kN, .inl (cI, 2, .inl (fun _ => 0))), (kA, .inl (cI, 2, .inl (fun _ => 0)))] [(cI, .int)] sz (fun (r : Int32) (u : Int32) => u = 1 ∧ ((¬ ((p0 = 0) ∨ (p0 = 1))) ∨ (¬ ((p2 = 0) ∨ (p2 = 1)))) ∨ u = 2 ∧ (¬ ((¬ ((p0 = 0) ∨ (p0 = 1))) ∨ (¬ ((p2 = 0) ∨ (p2 = 1)))))) (fun u => [(k0, .inr (9, [.ref kN, .ref kA, .ref kO, .ref kK, .ref kV, .ref kG, .ref kP, .ref kC, .ref kD, .ref kE, .ref kF, .ref kX, .ref kY, .int 0, .ref kT, .ref kU, .int u, .int 0, .int 0]))]) (fun u => []) := by
  refine oP_i (y := yX6_partsLike) (cc := cX6_partsLike) (maxL := 4) (by decide) rfl (Nat.le_of_ble_eq_true rfl) ?_
  intro p e s m args below meth c ls A Q hx hb hr hml hown hts hN hZ hA hin hlk hP hK hD hl ret
  have hS : va_S A s.heap s.heap [] := va_S.rf
  have hl : lv_has ls 4 [(0, .ref k0), (1, .int p0), (2, .int p1), (3, .int p2)] := hl
  have hP : va_P (dC, dI) vwCl [(k0, .inr (9, [.ref kN, .ref kA, .ref kO, .ref kK, .ref kV, .ref kG, .ref kP, .ref kC, .ref kD, .ref kE, .ref kF, .ref kX, .ref kY, .int 0, .ref kT, .ref kU, .int 0, .int 0, .int 0])), (kN, .inl (cI, 2, .inl (fun _ => 0))), (kA, .inl (cI, 2, .inl (fun _ => 0)))] _ := hP
  have hD : va_D A [(k0, .inr (9, [.ref kN, .ref kA, .ref kO, .ref kK, .ref kV, .ref kG, .ref kP, .ref kC, .ref kD, .ref kE, .ref kF, .ref kX, .ref kY, .int 0, .ref kT, .ref kU, .int 0, .int 0, .int 0])), (kN, .inl (cI, 2, .inl (fun _ => 0))), (kA, .inl (cI, 2, .inl (fun _ => 0)))] := hD
  refine lv_aload_n hx hb dX6_partsLike_0 rfl (lv_at hl 0 rfl) ?_
  refine lv_iload_n hx hb dX6_partsLike_1 rfl (lv_at hl 1 rfl) ?_
  have hPc := hP.sub (ws' := []) [] rfl
  have hDc := hD.sub (ws' := []) [] (by decide) rfl
  have hKc := hK.sub (tys' := []) [] rfl
  have hFc := va_free (wc := []) hD hS hA [] rfl
  refine va_calli (va_runS (As := [.int p0]) (rest := [.ref k0]) ⟨hx, hb, hml, hown, hts⟩ (kX6_isCircuit l dC dI p0 s.heap.size) (va_cwS 1 hts gX6_partsLike_X6_isCircuit rfl rfl rfl (by decide +kernel) ⟨Nat.le_of_ble_eq_true rfl, Nat.le_of_ble_eq_true rfl⟩) (fPreS hN hZ hS (fun q h => hFc q h) hPc hKc hDc) rfl rfl hl.1 rfl (lv_room (Nat.le_of_ble_eq_true rfl)) dX6_partsLike_2 ⟨Nat.le_of_ble_eq_true rfl, Nat.le_of_ble_eq_true rfl⟩) hS (fun q _ h => hFc q h) hFc (fun r u t H1 locs ht hvm hw hB hz1 hk1 hS => ?_)
  obtain ⟨hP1, hK1, hD1⟩ := hB
  rw [ht] at hP1
  have hK1 := va_K.moved hvm.symm hK1
  obtain ⟨hP, hD⟩ := va_join (wr := [(k0, .inr (9, [.ref kN, .ref kA, .ref kO, .ref kK, .ref kV, .ref kG, .ref kP, .ref kC, .ref kD, .ref kE, .ref kF, .ref kX, .ref kY, .int 0, .ref kT, .ref kU, .int 0, .int 0, .int 0])), (kN, .inl (cI, 2, .inl (fun _ => 0))), (kA, .inl (cI, 2, .inl (fun _ => 0)))]) (w1 := []) hP hD [] [0, 1, 2] rfl rfl (by decide) (by decide) hk1 hFc hP1 hD1
  generalize H1 = H at hP hS ⊢
  have hP : va_P (dC, dI) vwCl [(k0, .inr (9, [.ref kN, .ref kA, .ref kO, .ref kK, .ref kV, .ref kG, .ref kP, .ref kC, .ref kD, .ref kE, .ref kF, .ref kX, .ref kY, .int 0, .ref kT, .ref kU, .int 0, .int 0, .int 0])), (kN, .inl (cI, 2, .inl (fun _ => 0))), (kA, .inl (cI, 2, .inl (fun _ => 0)))] _ := hP
  have hD : va_D A [(k0, .inr (9, [.ref kN, .ref kA, .ref kO, .ref kK, .ref kV, .ref kG, .ref kP, .ref kC, .ref kD, .ref kE, .ref kF, .ref kX, .ref kY, .int 0, .ref kT, .ref kU, .int 0, .int 0, .int 0])), (kN, .inl (cI, 2, .inl (fun _ => 0))), (kA, .inl (cI, 2, .inl (fun _ => 0)))] := hD
  rcases hw with ⟨rfl, hc | hc⟩ | ⟨rfl, hc⟩
  · skip
    subst hc
    have hP : va_P (dC, dI) vwCl [(k0, .inr (9, [.ref kN, .ref kA, .ref kO, .ref kK, .ref kV, .ref kG, .ref kP, .ref kC, .ref kD, .ref kE, .ref kF, .ref kX, .ref kY, .int 0, .ref kT, .ref kU, .int 0, .int 0, .int 0])), (kN, .inl (cI, 2, .inl (fun _ => 0))), (kA, .inl (cI, 2, .inl (fun _ => 0)))] _ := hP
    have hD : va_D A [(k0, .inr (9, [.ref kN, .ref kA, .ref kO, .ref kK, .ref kV, .ref kG, .ref kP, .ref kC, .ref kD, .ref kE, .ref kF, .ref kX, .ref kY, .int 0, .ref kT, .ref kU, .int 0, .int 0, .int 0])), (kN, .inl (cI, 2, .inl (fun _ => 0))), (kA, .inl (cI, 2, .inl (fun _ => 0)))] := hD
    refine lv_if_eq (tgt := 15) hx hb dX6_partsLike_5 (by decide) (fun h9 => absurd h9 (by decide)) (fun _ => ?_)
    refine lv_iload_n hx hb dX6_partsLike_8 rfl (lv_at hl 3 rfl) ?_
    have hPc := hP.sub (ws' := []) [] rfl
    have hDc := hD.sub (ws' := []) [] (by decide) rfl
    have hKc := hK.sub (tys' := []) [] rfl
    have hFc := va_free (wc := []) hD hS hA [] rfl
    refine va_calli (va_runS (As := [.int p2]) (rest := [.ref k0]) ⟨hx, hb, hml, hown, hts⟩ (kX6_isCircuit l dC dI p2 H.size) (va_cwS 1 hts gX6_partsLike_X6_isCircuit rfl rfl rfl (by decide +kernel) ⟨Nat.le_of_ble_eq_true rfl, Nat.le_of_ble_eq_true rfl⟩) (fPreS hN hZ hS (fun q h => hFc q h) hPc hKc hDc) rfl rfl hl.1 rfl (lv_room (Nat.le_of_ble_eq_true rfl)) dX6_partsLike_9 ⟨Nat.le_of_ble_eq_true rfl, Nat.le_of_ble_eq_true rfl⟩) hS (fun q _ h => hFc q h) hFc (fun r u t H1 locs ht hvm hw hB hz1 hk1 hS => ?_)
    obtain ⟨hP1, hK1, hD1⟩ := hB
    rw [ht] at hP1
    have hK1 := va_K.moved hvm.symm hK1
    obtain ⟨hP, hD⟩ := va_join (wr := [(k0, .inr (9, [.ref kN, .ref kA, .ref kO, .ref kK, .ref kV, .ref kG, .ref kP, .ref kC, .ref kD, .ref kE, .ref kF, .ref kX, .ref kY, .int 0, .ref kT, .ref kU, .int 0, .int 0, .int 0])), (kN, .inl (cI, 2, .inl (fun _ => 0))), (kA, .inl (cI, 2, .inl (fun _ => 0)))]) (w1 := []) hP hD [] [0, 1, 2] rfl rfl (by decide) (by decide) hk1 hFc hP1 hD1
    generalize H1 = H at hP hS ⊢
    have hP : va_P (dC, dI) vwCl [(k0, .inr (9, [.ref kN, .ref kA, .ref kO, .ref kK, .ref kV, .ref kG, .ref kP, .ref kC, .ref kD, .ref kE, .ref kF, .ref kX, .ref kY, .int 0, .ref kT, .ref kU, .int 0, .int 0, .int 0])), (kN, .inl (cI, 2, .inl (fun _ => 0))), (kA, .inl (cI, 2, .inl (fun _ => 0)))] _ := hP
    have hD : va_D A [(k0, .inr (9, [.ref kN, .ref kA, .ref kO, .ref kK, .ref kV, .ref kG, .ref kP, .ref kC, .ref kD, .ref kE, .ref kF, .ref kX, .ref kY, .int 0, .ref kT, .ref kU, .int 0, .int 0, .int 0])), (kN, .inl (cI, 2, .inl (fun _ => 0))), (kA, .inl (cI, 2, .inl (fun _ => 0)))] := hD
    rcases hw with ⟨rfl, hc | hc⟩ | ⟨rfl, hc⟩
    · skip
      subst hc
      have hP : va_P (dC, dI) vwCl [(k0, .inr (9, [.ref kN, .ref kA, .ref kO, .ref kK, .ref kV, .ref kG, .ref kP, .ref kC, .ref kD, .ref kE, .ref kF, .ref kX, .ref kY, .int 0, .ref kT, .ref kU, .int 0, .int 0, .int 0])), (kN, .inl (cI, 2, .inl (fun _ => 0))), (kA, .inl (cI, 2, .inl (fun _ => 0)))] _ := hP
      have hD : va_D A [(k0, .inr (9, [.ref kN, .ref kA, .ref kO, .ref kK, .ref kV, .ref kG, .ref kP, .ref kC, .ref kD, .ref kE, .ref kF, .ref kX, .ref kY, .int 0, .ref kT, .ref kU, .int 0, .int 0, .int 0])), (kN, .inl (cI, 2, .inl (fun _ => 0))), (kA, .inl (cI, 2, .inl (fun _ => 0)))] := hD
      refine lv_if_ne (tgt := 19) hx hb dX6_partsLike_12 (by decide) (fun _ => ?_) (fun h9 => absurd h9 (by decide))
      refine lv_aload_n hx hb dX6_partsLike_19 rfl (lv_at hl 0 rfl) ?_
      refine lv_iload_n hx hb dX6_partsLike_20 rfl (lv_at hl 1 rfl) ?_
      refine lv_iload_n hx hb dX6_partsLike_21 rfl (lv_at hl 2 rfl) ?_
      have hPc := hP.sub (ws' := [(k0, .inr (9, [.ref kN, .ref kA, .ref kO, .ref kK, .ref kV, .ref kG, .ref kP, .ref kC, .ref kD, .ref kE, .ref kF, .ref kX, .ref kY, .int 0, .ref kT, .ref kU, .int 0, .int 0, .int 0])), (kA, .inl (cI, 2, .inl (fun _ => 0)))]) [0, 2] rfl
      have hDc := hD.sub (ws' := [(k0, .inr (9, [.ref kN, .ref kA, .ref kO, .ref kK, .ref kV, .ref kG, .ref kP, .ref kC, .ref kD, .ref kE, .ref kF, .ref kX, .ref kY, .int 0, .ref kT, .ref kU, .int 0, .int 0, .int 0])), (kA, .inl (cI, 2, .inl (fun _ => 0)))]) [0, 2] (by decide) rfl
      have hKc := hK.sub (tys' := [(cI, .int)]) [0] rfl
      have hFc := va_free (wc := [(k0, .inr (9, [.ref kN, .ref kA, .ref kO, .ref kK, .ref kV, .ref kG, .ref kP, .ref kC, .ref kD, .ref kE, .ref kF, .ref kX, .ref kY, .int 0, .ref kT, .ref kU, .int 0, .int 0, .int 0])), (kA, .inl (cI, 2, .inl (fun _ => 0)))]) hD hS hA [0, 2] rfl
      refine va_calli (va_runV (As := [.int 0, .int p1]) (rest := [.ref k0]) ⟨hx, hb, hml, hown, hts⟩ (kX6_isPart0 l dC dI k0 kN kA kO kK kV kG kP kC kD kE kF kX kY kT kU cI p1 H.size) (cwV 2 hts gX6_partsLike_X6_isPart rfl rfl rfl (by decide +kernel) ⟨Nat.le_of_ble_eq_true rfl, Nat.le_of_ble_eq_true rfl⟩) (fPreV hN hZ hS (fun q h => hFc q h) hPc hKc hDc (ci := 9) (q0 := 0) rfl rfl) rfl rfl hl.1 rfl (lv_room (Nat.le_of_ble_eq_true rfl)) dX6_partsLike_22 ⟨Nat.le_of_ble_eq_true rfl, Nat.le_of_ble_eq_true rfl⟩) hS (fun q _ h => hFc q h) hFc (fun r u t H1 locs ht hvm hw hB hz1 hk1 hS => ?_)
      obtain ⟨hP1, hK1, hD1⟩ := hB
      rw [ht] at hP1
      have hK1 := va_K.moved hvm.symm hK1
      obtain ⟨hP, hD⟩ := va_join (wr := [(kN, .inl (cI, 2, .inl (fun _ => 0)))]) (w1 := [(k0, .inr (9, [.ref kN, .ref kA, .ref kO, .ref kK, .ref kV, .ref kG, .ref kP, .ref kC, .ref kD, .ref kE, .ref kF, .ref kX, .ref kY, .int 0, .ref kT, .ref kU, .int 0, .int 0, .int 0])), (kA, .inl (cI, 2, .inl (fun _ => 0)))]) hP hD [0, 2] [1] rfl rfl (by decide) (by decide) hk1 hFc hP1 hD1
      generalize H1 = H at hP hS ⊢
      have hP : va_P (dC, dI) vwCl [(kN, .inl (cI, 2, .inl (fun _ => 0))), (k0, .inr (9, [.ref kN, .ref kA, .ref kO, .ref kK, .ref kV, .ref kG, .ref kP, .ref kC, .ref kD, .ref kE, .ref kF, .ref kX, .ref kY, .int 0, .ref kT, .ref kU, .int 0, .int 0, .int 0])), (kA, .inl (cI, 2, .inl (fun _ => 0)))] _ := hP
      have hD : va_D A [(kN, .inl (cI, 2, .inl (fun _ => 0))), (k0, .inr (9, [.ref kN, .ref kA, .ref kO, .ref kK, .ref kV, .ref kG, .ref kP, .ref kC, .ref kD, .ref kE, .ref kF, .ref kX, .ref kY, .int 0, .ref kT, .ref kU, .int 0, .int 0, .int 0])), (kA, .inl (cI, 2, .inl (fun _ => 0)))] := hD
      subst hw
      refine lv_if_ne (tgt := 32) hx hb dX6_partsLike_25 (by decide) (fun h9 => absurd (by decide) h9) (fun _ => ?_)
      refine lv_iconst (v := 2) hx hb dX6_partsLike_28 (by decide) ?_
      refine lv_goto (tgt := 33) hx hb dX6_partsLike_29 (by decide) ?_
      refine va_put (D := (dC, dI)) (ci := 9) (v := .int 2) (ty := .int) (C := RX6) (T := TX6) (N := 19) hx hb hts (fun w h => List.mem_cons_of_mem _ (List.mem_append_left _ (List.mem_append_right _ (h)))) tyX6 tyX6_ok nmX6 hown hK hP hD hS 1 rfl rfl 16 (by decide) (hts (.fieldLink RX6 57 "NetcompareModel" "thrown" "I") (List.mem_cons_of_mem _ (List.mem_append_left _ (List.mem_append_left _ (List.mem_append_left _ (List.mem_of_getElem? (i := 0) rfl)))))) (fun _ h9 => h9) rfl (by decide +kernel) rfl rfl (Nat.le_of_ble_eq_true rfl) dX6_partsLike_33 (fun H locs hP hD hS => ?_)
      have hP : va_P (dC, dI) vwCl [(kN, .inl (cI, 2, .inl (fun _ => 0))), (k0, .inr (9, [.ref kN, .ref kA, .ref kO, .ref kK, .ref kV, .ref kG, .ref kP, .ref kC, .ref kD, .ref kE, .ref kF, .ref kX, .ref kY, .int 0, .ref kT, .ref kU, .int 2, .int 0, .int 0])), (kA, .inl (cI, 2, .inl (fun _ => 0)))] _ := hP
      have hD : va_D A [(kN, .inl (cI, 2, .inl (fun _ => 0))), (k0, .inr (9, [.ref kN, .ref kA, .ref kO, .ref kK, .ref kV, .ref kG, .ref kP, .ref kC, .ref kD, .ref kE, .ref kF, .ref kX, .ref kY, .int 0, .ref kT, .ref kU, .int 2, .int 0, .int 0])), (kA, .inl (cI, 2, .inl (fun _ => 0)))] := hD
      refine lv_aload_n hx hb dX6_partsLike_36 rfl (lv_at hl 0 rfl) ?_
      refine va_get (D := (dC, dI)) (ci := 9) (v := .int 2) (C := RX6) (T := TX6) (N := 19) hx hb hts (fun w h => List.mem_cons_of_mem _ (List.mem_append_left _ (List.mem_append_right _ (h)))) hown hK hP 1 rfl rfl 16 (by decide) (hts (.fieldLink RX6 57 "NetcompareModel" "thrown" "I") (List.mem_cons_of_mem _ (List.mem_append_left _ (List.mem_append_left _ (List.mem_append_left _ (List.mem_of_getElem? (i := 0) rfl)))))) (fun _ h9 => h9) rfl dX6_partsLike_37 ?_
      refine lv_if_le (tgt := 45) hx hb dX6_partsLike_40 (by decide) (fun h9 => absurd h9 (by decide)) (fun _ => ?_)
      refine lv_iconst (v := (-1)) hx hb dX6_partsLike_43 (by decide) ?_
      exact ret _ 2 _ _ _ _ _ _ (Or.inr (⟨rfl, (fun h9 => h9.elim ((fun h9 => h9 (Or.inl (rfl)))) ((fun h9 => h9 (Or.inl (rfl)))))⟩)) (hP.sub [1] rfl) (hK.sub [] rfl) (hD.sub [1] (by decide) rfl) hS (Nat.le_of_ble_eq_true rfl) (Nat.le_of_ble_eq_true rfl) dX6_partsLike_44
    · skip
      subst hc
      have hP : va_P (dC, dI) vwCl [(k0, .inr (9, [.ref kN, .ref kA, .ref kO, .ref kK, .ref kV, .ref kG, .ref kP, .ref kC, .ref kD, .ref kE, .ref kF, .ref kX, .ref kY, .int 0, .ref kT, .ref kU, .int 0, .int 0, .int 0])), (kN, .inl (cI, 2, .inl (fun _ => 0))), (kA, .inl (cI, 2, .inl (fun _ => 0)))] _ := hP
      have hD : va_D A [(k0, .inr (9, [.ref kN, .ref kA, .ref kO, .ref kK, .ref kV, .ref kG, .ref kP, .ref kC, .ref kD, .ref kE, .ref kF, .ref kX, .ref kY, .int 0, .ref kT, .ref kU, .int 0, .int 0, .int 0])), (kN, .inl (cI, 2, .inl (fun _ => 0))), (kA, .inl (cI, 2, .inl (fun _ => 0)))] := hD
      refine lv_if_ne (tgt := 19) hx hb dX6_partsLike_12 (by decide) (fun _ => ?_) (fun h9 => absurd h9 (by decide))
      refine lv_aload_n hx hb dX6_partsLike_19 rfl (lv_at hl 0 rfl) ?_
      refine lv_iload_n hx hb dX6_partsLike_20 rfl (lv_at hl 1 rfl) ?_
      refine lv_iload_n hx hb dX6_partsLike_21 rfl (lv_at hl 2 rfl) ?_
      have hPc := hP.sub (ws' := [(k0, .inr (9, [.ref kN, .ref kA, .ref kO, .ref kK, .ref kV, .ref kG, .ref kP, .ref kC, .ref kD, .ref kE, .ref kF, .ref kX, .ref kY, .int 0, .ref kT, .ref kU, .int 0, .int 0, .int 0])), (kA, .inl (cI, 2, .inl (fun _ => 0)))]) [0, 2] rfl
      have hDc := hD.sub (ws' := [(k0, .inr (9, [.ref kN, .ref kA, .ref kO, .ref kK, .ref kV, .ref kG, .ref kP, .ref kC, .ref kD, .ref kE, .ref kF, .ref kX, .ref kY, .int 0, .ref kT, .ref kU, .int 0, .int 0, .int 0])), (kA, .inl (cI, 2, .inl (fun _ => 0)))]) [0, 2] (by decide) rfl
      have hKc := hK.sub (tys' := [(cI, .int)]) [0] rfl
      have hFc := va_free (wc := [(k0, .inr (9, [.ref kN, .ref kA, .ref kO, .ref kK, .ref kV, .ref kG, .ref kP, .ref kC, .ref kD, .ref kE, .ref kF, .ref kX, .ref kY, .int 0, .ref kT, .ref kU, .int 0, .int 0, .int 0])), (kA, .inl (cI, 2, .inl (fun _ => 0)))]) hD hS hA [0, 2] rfl
      refine va_calli (va_runV (As := [.int 0, .int p1]) (rest := [.ref k0]) ⟨hx, hb, hml, hown, hts⟩ (kX6_isPart0 l dC dI k0 kN kA kO kK kV kG kP kC kD kE kF kX kY kT kU cI p1 H.size) (cwV 2 hts gX6_partsLike_X6_isPart rfl rfl rfl (by decide +kernel) ⟨Nat.le_of_ble_eq_true rfl, Nat.le_of_ble_eq_true rfl⟩) (fPreV hN hZ hS (fun q h => hFc q h) hPc hKc hDc (ci := 9) (q0 := 0) rfl rfl) rfl rfl hl.1 rfl (lv_room (Nat.le_of_ble_eq_true rfl)) dX6_partsLike_22 ⟨Nat.le_of_ble_eq_true rfl, Nat.le_of_ble_eq_true rfl⟩) hS (fun q _ h => hFc q h) hFc (fun r u t H1 locs ht hvm hw hB hz1 hk1 hS => ?_)
      obtain ⟨hP1, hK1, hD1⟩ := hB
      rw [ht] at hP1
      have hK1 := va_K.moved hvm.symm hK1
      obtain ⟨hP, hD⟩ := va_join (wr := [(kN, .inl (cI, 2, .inl (fun _ => 0)))]) (w1 := [(k0, .inr (9, [.ref kN, .ref kA, .ref kO, .ref kK, .ref kV, .ref kG, .ref kP, .ref kC, .ref kD, .ref kE, .ref kF, .ref kX, .ref kY, .int 0, .ref kT, .ref kU, .int 0, .int 0, .int 0])), (kA, .inl (cI, 2, .inl (fun _ => 0)))]) hP hD [0, 2] [1] rfl rfl (by decide) (by decide) hk1 hFc hP1 hD1
      generalize H1 = H at hP hS ⊢
      have hP : va_P (dC, dI) vwCl [(kN, .inl (cI, 2, .inl (fun _ => 0))), (k0, .inr (9, [.ref kN, .ref kA, .ref kO, .ref kK, .ref kV, .ref kG, .ref kP, .ref kC, .ref kD, .ref kE, .ref kF, .ref kX, .ref kY, .int 0, .ref kT, .ref kU, .int 0, .int 0, .int 0])), (kA, .inl (cI, 2, .inl (fun _ => 0)))] _ := hP
      have hD : va_D A [(kN, .inl (cI, 2, .inl (fun _ => 0))), (k0, .inr (9, [.ref kN, .ref kA, .ref kO, .ref kK, .ref kV, .ref kG, .ref kP, .ref kC, .ref kD, .ref kE, .ref kF, .ref kX, .ref kY, .int 0, .ref kT, .ref kU, .int 0, .int 0, .int 0])), (kA, .inl (cI, 2, .inl (fun _ => 0)))] := hD
      subst hw
      refine lv_if_ne (tgt := 32) hx hb dX6_partsLike_25 (by decide) (fun h9 => absurd (by decide) h9) (fun _ => ?_)
      refine lv_iconst (v := 2) hx hb dX6_partsLike_28 (by decide) ?_
      refine lv_goto (tgt := 33) hx hb dX6_partsLike_29 (by decide) ?_
      refine va_put (D := (dC, dI)) (ci := 9) (v := .int 2) (ty := .int) (C := RX6) (T := TX6) (N := 19) hx hb hts (fun w h => List.mem_cons_of_mem _ (List.mem_append_left _ (List.mem_append_right _ (h)))) tyX6 tyX6_ok nmX6 hown hK hP hD hS 1 rfl rfl 16 (by decide) (hts (.fieldLink RX6 57 "NetcompareModel" "thrown" "I") (List.mem_cons_of_mem _ (List.mem_append_left _ (List.mem_append_left _ (List.mem_append_left _ (List.mem_of_getElem? (i := 0) rfl)))))) (fun _ h9 => h9) rfl (by decide +kernel) rfl rfl (Nat.le_of_ble_eq_true rfl) dX6_partsLike_33 (fun H locs hP hD hS => ?_)
      have hP : va_P (dC, dI) vwCl [(kN, .inl (cI, 2, .inl (fun _ => 0))), (k0, .inr (9, [.ref kN, .ref kA, .ref kO, .ref kK, .ref kV, .ref kG, .ref kP, .ref kC, .ref kD, .ref kE, .ref kF, .ref kX, .ref kY, .int 0, .ref kT, .ref kU, .int 2, .int 0, .int 0])), (kA, .inl (cI, 2, .inl (fun _ => 0)))] _ := hP
      have hD : va_D A [(kN, .inl (cI, 2, .inl (fun _ => 0))), (k0, .inr (9, [.ref kN, .ref kA, .ref kO, .ref kK, .ref kV, .ref kG, .ref kP, .ref kC, .ref kD, .ref kE, .ref kF, .ref kX, .ref kY, .int 0, .ref kT, .ref kU, .int 2, .int 0, .int 0])), (kA, .inl (cI, 2, .inl (fun _ => 0)))] := hD
      refine lv_aload_n hx hb dX6_partsLike_36 rfl (lv_at hl 0 rfl) ?_
      refine va_get (D := (dC, dI)) (ci := 9) (v := .int 2) (C := RX6) (T := TX6) (N := 19) hx hb hts (fun w h => List.mem_cons_of_mem _ (List.mem_append_left _ (List.mem_append_right _ (h)))) hown hK hP 1 rfl rfl 16 (by decide) (hts (.fieldLink RX6 57 "NetcompareModel" "thrown" "I") (List.mem_cons_of_mem _ (List.mem_append_left _ (List.mem_append_left _ (List.mem_append_left _ (List.mem_of_getElem? (i := 0) rfl)))))) (fun _ h9 => h9) rfl dX6_partsLike_37 ?_
      refine lv_if_le (tgt := 45) hx hb dX6_partsLike_40 (by decide) (fun h9 => absurd h9 (by decide)) (fun _ => ?_)
      refine lv_iconst (v := (-1)) hx hb dX6_partsLike_43 (by decide) ?_
      exact ret _ 2 _ _ _ _ _ _ (Or.inr (⟨rfl, (fun h9 => h9.elim ((fun h9 => h9 (Or.inl (rfl)))) ((fun h9 => h9 (Or.inr (rfl)))))⟩)) (hP.sub [1] rfl) (hK.sub [] rfl) (hD.sub [1] (by decide) rfl) hS (Nat.le_of_ble_eq_true rfl) (Nat.le_of_ble_eq_true rfl) dX6_partsLike_44
    · skip
      have hc1 := hc
      refine lv_if_ne (tgt := 19) hx hb dX6_partsLike_12 (by decide) (fun h9 => absurd (by decide) h9) (fun _ => ?_)
      refine lv_iconst (v := 1) hx hb dX6_partsLike_15 (by decide) ?_
      refine lv_goto (tgt := 33) hx hb dX6_partsLike_16 (by decide) ?_
      refine va_put (D := (dC, dI)) (ci := 9) (v := .int 1) (ty := .int) (C := RX6) (T := TX6) (N := 19) hx hb hts (fun w h => List.mem_cons_of_mem _ (List.mem_append_left _ (List.mem_append_right _ (h)))) tyX6 tyX6_ok nmX6 hown hK hP hD hS 0 rfl rfl 16 (by decide) (hts (.fieldLink RX6 57 "NetcompareModel" "thrown" "I") (List.mem_cons_of_mem _ (List.mem_append_left _ (List.mem_append_left _ (List.mem_append_left _ (List.mem_of_getElem? (i := 0) rfl)))))) (fun _ h9 => h9) rfl (by decide +kernel) rfl rfl (Nat.le_of_ble_eq_true rfl) dX6_partsLike_33 (fun H locs hP hD hS => ?_)
      have hP : va_P (dC, dI) vwCl [(k0, .inr (9, [.ref kN, .ref kA, .ref kO, .ref kK, .ref kV, .ref kG, .ref kP, .ref kC, .ref kD, .ref kE, .ref kF, .ref kX, .ref kY, .int 0, .ref kT, .ref kU, .int 1, .int 0, .int 0])), (kN, .inl (cI, 2, .inl (fun _ => 0))), (kA, .inl (cI, 2, .inl (fun _ => 0)))] _ := hP
      have hD : va_D A [(k0, .inr (9, [.ref kN, .ref kA, .ref kO, .ref kK, .ref kV, .ref kG, .ref kP, .ref kC, .ref kD, .ref kE, .ref kF, .ref kX, .ref kY, .int 0, .ref kT, .ref kU, .int 1, .int 0, .int 0])), (kN, .inl (cI, 2, .inl (fun _ => 0))), (kA, .inl (cI, 2, .inl (fun _ => 0)))] := hD
      refine lv_aload_n hx hb dX6_partsLike_36 rfl (lv_at hl 0 rfl) ?_
      refine va_get (D := (dC, dI)) (ci := 9) (v := .int 1) (C := RX6) (T := TX6) (N := 19) hx hb hts (fun w h => List.mem_cons_of_mem _ (List.mem_append_left _ (List.mem_append_right _ (h)))) hown hK hP 0 rfl rfl 16 (by decide) (hts (.fieldLink RX6 57 "NetcompareModel" "thrown" "I") (List.mem_cons_of_mem _ (List.mem_append_left _ (List.mem_append_left _ (List.mem_append_left _ (List.mem_of_getElem? (i := 0) rfl)))))) (fun _ h9 => h9) rfl dX6_partsLike_37 ?_
      refine lv_if_le (tgt := 45) hx hb dX6_partsLike_40 (by decide) (fun h9 => absurd h9 (by decide)) (fun _ => ?_)
      refine lv_iconst (v := (-1)) hx hb dX6_partsLike_43 (by decide) ?_
      exact ret _ 1 _ _ _ _ _ _ (Or.inl (⟨rfl, Or.inr (hc1)⟩)) (hP.sub [0] rfl) (hK.sub [] rfl) (hD.sub [0] (by decide) rfl) hS (Nat.le_of_ble_eq_true rfl) (Nat.le_of_ble_eq_true rfl) dX6_partsLike_44
  · skip
    subst hc
    have hP : va_P (dC, dI) vwCl [(k0, .inr (9, [.ref kN, .ref kA, .ref kO, .ref kK, .ref kV, .ref kG, .ref kP, .ref kC, .ref kD, .ref kE, .ref kF, .ref kX, .ref kY, .int 0, .ref kT, .ref kU, .int 0, .int 0, .int 0])), (kN, .inl (cI, 2, .inl (fun _ => 0))), (kA, .inl (cI, 2, .inl (fun _ => 0)))] _ := hP
    have hD : va_D A [(k0, .inr (9, [.ref kN, .ref kA, .ref kO, .ref kK, .ref kV, .ref kG, .ref kP, .ref kC, .ref kD, .ref kE, .ref kF, .ref kX, .ref kY, .int 0, .ref kT, .ref kU, .int 0, .int 0, .int 0])), (kN, .inl (cI, 2, .inl (fun _ => 0))), (kA, .inl (cI, 2, .inl (fun _ => 0)))] := hD
    refine lv_if_eq (tgt := 15) hx hb dX6_partsLike_5 (by decide) (fun h9 => absurd h9 (by decide)) (fun _ => ?_)
    refine lv_iload_n hx hb dX6_partsLike_8 rfl (lv_at hl 3 rfl) ?_
    have hPc := hP.sub (ws' := []) [] rfl
    have hDc := hD.sub (ws' := []) [] (by decide) rfl
    have hKc := hK.sub (tys' := []) [] rfl
    have hFc := va_free (wc := []) hD hS hA [] rfl
    refine va_calli (va_runS (As := [.int p2]) (rest := [.ref k0]) ⟨hx, hb, hml, hown, hts⟩ (kX6_isCircuit l dC dI p2 H.size) (va_cwS 1 hts gX6_partsLike_X6_isCircuit rfl rfl rfl (by decide +kernel) ⟨Nat.le_of_ble_eq_true rfl, Nat.le_of_ble_eq_true rfl⟩) (fPreS hN hZ hS (fun q h => hFc q h) hPc hKc hDc) rfl rfl hl.1 rfl (lv_room (Nat.le_of_ble_eq_true rfl)) dX6_partsLike_9 ⟨Nat.le_of_ble_eq_true rfl, Nat.le_of_ble_eq_true rfl⟩) hS (fun q _ h => hFc q h) hFc (fun r u t H1 locs ht hvm hw hB hz1 hk1 hS => ?_)
    obtain ⟨hP1, hK1, hD1⟩ := hB
    rw [ht] at hP1
    have hK1 := va_K.moved hvm.symm hK1
    obtain ⟨hP, hD⟩ := va_join (wr := [(k0, .inr (9, [.ref kN, .ref kA, .ref kO, .ref kK, .ref kV, .ref kG, .ref kP, .ref kC, .ref kD, .ref kE, .ref kF, .ref kX, .ref kY, .int 0, .ref kT, .ref kU, .int 0, .int 0, .int 0])), (kN, .inl (cI, 2, .inl (fun _ => 0))), (kA, .inl (cI, 2, .inl (fun _ => 0)))]) (w1 := []) hP hD [] [0, 1, 2] rfl rfl (by decide) (by decide) hk1 hFc hP1 hD1
    generalize H1 = H at hP hS ⊢
    have hP : va_P (dC, dI) vwCl [(k0, .inr (9, [.ref kN, .ref kA, .ref kO, .ref kK, .ref kV, .ref kG, .ref kP, .ref kC, .ref kD, .ref kE, .ref kF, .ref kX, .ref kY, .int 0, .ref kT, .ref kU, .int 0, .int 0, .int 0])), (kN, .inl (cI, 2, .inl (fun _ => 0))), (kA, .inl (cI, 2, .inl (fun _ => 0)))] _ := hP
    have hD : va_D A [(k0, .inr (9, [.ref kN, .ref kA, .ref kO, .ref kK, .ref kV, .ref kG, .ref kP, .ref kC, .ref kD, .ref kE, .ref kF, .ref kX, .ref kY, .int 0, .ref kT, .ref kU, .int 0, .int 0, .int 0])), (kN, .inl (cI, 2, .inl (fun _ => 0))), (kA, .inl (cI, 2, .inl (fun _ => 0)))] := hD
    rcases hw with ⟨rfl, hc | hc⟩ | ⟨rfl, hc⟩
    · skip
      subst hc
      have hP : va_P (dC, dI) vwCl [(k0, .inr (9, [.ref kN, .ref kA, .ref kO, .ref kK, .ref kV, .ref kG, .ref kP, .ref kC, .ref kD, .ref kE, .ref kF, .ref kX, .ref kY, .int 0, .ref kT, .ref kU, .int 0, .int 0, .int 0])), (kN, .inl (cI, 2, .inl (fun _ => 0))), (kA, .inl (cI, 2, .inl (fun _ => 0)))] _ := hP
      have hD : va_D A [(k0, .inr (9, [.ref kN, .ref kA, .ref kO, .ref kK, .ref kV, .ref kG, .ref kP, .ref kC, .ref kD, .ref kE, .ref kF, .ref kX, .ref kY, .int 0, .ref kT, .ref kU, .int 0, .int 0, .int 0])), (kN, .inl (cI, 2, .inl (fun _ => 0))), (kA, .inl (cI, 2, .inl (fun _ => 0)))] := hD
      refine lv_if_ne (tgt := 19) hx hb dX6_partsLike_12 (by decide) (fun _ => ?_) (fun h9 => absurd h9 (by decide))
      refine lv_aload_n hx hb dX6_partsLike_19 rfl (lv_at hl 0 rfl) ?_
      refine lv_iload_n hx hb dX6_partsLike_20 rfl (lv_at hl 1 rfl) ?_
      refine lv_iload_n hx hb dX6_partsLike_21 rfl (lv_at hl 2 rfl) ?_
      have hPc := hP.sub (ws' := [(k0, .inr (9, [.ref kN, .ref kA, .ref kO, .ref kK, .ref kV, .ref kG, .ref kP, .ref kC, .ref kD, .ref kE, .ref kF, .ref kX, .ref kY, .int 0, .ref kT, .ref kU, .int 0, .int 0, .int 0])), (kA, .inl (cI, 2, .inl (fun _ => 0)))]) [0, 2] rfl
      have hDc := hD.sub (ws' := [(k0, .inr (9, [.ref kN, .ref kA, .ref kO, .ref kK, .ref kV, .ref kG, .ref kP, .ref kC, .ref kD, .ref kE, .ref kF, .ref kX, .ref kY, .int 0, .ref kT, .ref kU, .int 0, .int 0, .int 0])), (kA, .inl (cI, 2, .inl (fun _ => 0)))]) [0, 2] (by decide) rfl
      have hKc := hK.sub (tys' := [(cI, .int)]) [0] rfl
      have hFc := va_free (wc := [(k0, .inr (9, [.ref kN, .ref kA, .ref kO, .ref kK, .ref kV, .ref kG, .ref kP, .ref kC, .ref kD, .ref kE, .ref kF, .ref kX, .ref kY, .int 0, .ref kT, .ref kU, .int 0, .int 0, .int 0])), (kA, .inl (cI, 2, .inl (fun _ => 0)))]) hD hS hA [0, 2] rfl
      refine va_calli (va_runV (As := [.int 1, .int p1]) (rest := [.ref k0]) ⟨hx, hb, hml, hown, hts⟩ (kX6_isPart1 l dC dI k0 kN kA kO kK kV kG kP kC kD kE kF kX kY kT kU cI p1 H.size) (cwV 2 hts gX6_partsLike_X6_isPart rfl rfl rfl (by decide +kernel) ⟨Nat.le_of_ble_eq_true rfl, Nat.le_of_ble_eq_true rfl⟩) (fPreV hN hZ hS (fun q h => hFc q h) hPc hKc hDc (ci := 9) (q0 := 0) rfl rfl) rfl rfl hl.1 rfl (lv_room (Nat.le_of_ble_eq_true rfl)) dX6_partsLike_22 ⟨Nat.le_of_ble_eq_true rfl, Nat.le_of_ble_eq_true rfl⟩) hS (fun q _ h => hFc q h) hFc (fun r u t H1 locs ht hvm hw hB hz1 hk1 hS => ?_)
      obtain ⟨hP1, hK1, hD1⟩ := hB
      rw [ht] at hP1
      have hK1 := va_K.moved hvm.symm hK1
      obtain ⟨hP, hD⟩ := va_join (wr := [(kN, .inl (cI, 2, .inl (fun _ => 0)))]) (w1 := [(k0, .inr (9, [.ref kN, .ref kA, .ref kO, .ref kK, .ref kV, .ref kG, .ref kP, .ref kC, .ref kD, .ref kE, .ref kF, .ref kX, .ref kY, .int 0, .ref kT, .ref kU, .int 0, .int 0, .int 0])), (kA, .inl (cI, 2, .inl (fun _ => 0)))]) hP hD [0, 2] [1] rfl rfl (by decide) (by decide) hk1 hFc hP1 hD1
      generalize H1 = H at hP hS ⊢
      have hP : va_P (dC, dI) vwCl [(kN, .inl (cI, 2, .inl (fun _ => 0))), (k0, .inr (9, [.ref kN, .ref kA, .ref kO, .ref kK, .ref kV, .ref kG, .ref kP, .ref kC, .ref kD, .ref kE, .ref kF, .ref kX, .ref kY, .int 0, .ref kT, .ref kU, .int 0, .int 0, .int 0])), (kA, .inl (cI, 2, .inl (fun _ => 0)))] _ := hP
      have hD : va_D A [(kN, .inl (cI, 2, .inl (fun _ => 0))), (k0, .inr (9, [.ref kN, .ref kA, .ref kO, .ref kK, .ref kV, .ref kG, .ref kP, .ref kC, .ref kD, .ref kE, .ref kF, .ref kX, .ref kY, .int 0, .ref kT, .ref kU, .int 0, .int 0, .int 0])), (kA, .inl (cI, 2, .inl (fun _ => 0)))] := hD
      subst hw
      refine lv_if_ne (tgt := 32) hx hb dX6_partsLike_25 (by decide) (fun h9 => absurd (by decide) h9) (fun _ => ?_)
      refine lv_iconst (v := 2) hx hb dX6_partsLike_28 (by decide) ?_
      refine lv_goto (tgt := 33) hx hb dX6_partsLike_29 (by decide) ?_
      refine va_put (D := (dC, dI)) (ci := 9) (v := .int 2) (ty := .int) (C := RX6) (T := TX6) (N := 19) hx hb hts (fun w h => List.mem_cons_of_mem _ (List.mem_append_left _ (List.mem_append_right _ (h)))) tyX6 tyX6_ok nmX6 hown hK hP hD hS 1 rfl rfl 16 (by decide) (hts (.fieldLink RX6 57 "NetcompareModel" "thrown" "I") (List.mem_cons_of_mem _ (List.mem_append_left _ (List.mem_append_left _ (List.mem_append_left _ (List.mem_of_getElem? (i := 0) rfl)))))) (fun _ h9 => h9) rfl (by decide +kernel) rfl rfl (Nat.le_of_ble_eq_true rfl) dX6_partsLike_33 (fun H locs hP hD hS => ?_)
      have hP : va_P (dC, dI) vwCl [(kN, .inl (cI, 2, .inl (fun _ => 0))), (k0, .inr (9, [.ref kN, .ref kA, .ref kO, .ref kK, .ref kV, .ref kG, .ref kP, .ref kC, .ref kD, .ref kE, .ref kF, .ref kX, .ref kY, .int 0, .ref kT, .ref kU, .int 2, .int 0, .int 0])), (kA, .inl (cI, 2, .inl (fun _ => 0)))] _ := hP
      have hD : va_D A [(kN, .inl (cI, 2, .inl (fun _ => 0))), (k0, .inr (9, [.ref kN, .ref kA, .ref kO, .ref kK, .ref kV, .ref kG, .ref kP, .ref kC, .ref kD, .ref kE, .ref kF, .ref kX, .ref kY, .int 0, .ref kT, .ref kU, .int 2, .int 0, .int 0])), (kA, .inl (cI, 2, .inl (fun _ => 0)))] := hD
      refine lv_aload_n hx hb dX6_partsLike_36 rfl (lv_at hl 0 rfl) ?_
      refine va_get (D := (dC, dI)) (ci := 9) (v := .int 2) (C := RX6) (T := TX6) (N := 19) hx hb hts (fun w h => List.mem_cons_of_mem _ (List.mem_append_left _ (List.mem_append_right _ (h)))) hown hK hP 1 rfl rfl 16 (by decide) (hts (.fieldLink RX6 57 "NetcompareModel" "thrown" "I") (List.mem_cons_of_mem _ (List.mem_append_left _ (List.mem_append_left _ (List.mem_append_left _ (List.mem_of_getElem? (i := 0) rfl)))))) (fun _ h9 => h9) rfl dX6_partsLike_37 ?_
      refine lv_if_le (tgt := 45) hx hb dX6_partsLike_40 (by decide) (fun h9 => absurd h9 (by decide)) (fun _ => ?_)
      refine lv_iconst (v := (-1)) hx hb dX6_partsLike_43 (by decide) ?_
      exact ret _ 2 _ _ _ _ _ _ (Or.inr (⟨rfl, (fun h9 => h9.elim ((fun h9 => h9 (Or.inr (rfl)))) ((fun h9 => h9 (Or.inl (rfl)))))⟩)) (hP.sub [1] rfl) (hK.sub [] rfl) (hD.sub [1] (by decide) rfl) hS (Nat.le_of_ble_eq_true rfl) (Nat.le_of_ble_eq_true rfl) dX6_partsLike_44
    · skip
      subst hc
      have hP : va_P (dC, dI) vwCl [(k0, .inr (9, [.ref kN, .ref kA, .ref kO, .ref kK, .ref kV, .ref kG, .ref kP, .ref kC, .ref kD, .ref kE, .ref kF, .ref kX, .ref kY, .int 0, .ref kT, .ref kU, .int 0, .int 0, .int 0])), (kN, .inl (cI, 2, .inl (fun _ => 0))), (kA, .inl (cI, 2, .inl (fun _ => 0)))] _ := hP
      have hD : va_D A [(k0, .inr (9, [.ref kN, .ref kA, .ref kO, .ref kK, .ref kV, .ref kG, .ref kP, .ref kC, .ref kD, .ref kE, .ref kF, .ref kX, .ref kY, .int 0, .ref kT, .ref kU, .int 0, .int 0, .int 0])), (kN, .inl (cI, 2, .inl (fun _ => 0))), (kA, .inl (cI, 2, .inl (fun _ => 0)))] := hD
      refine lv_if_ne (tgt := 19) hx hb dX6_partsLike_12 (by decide) (fun _ => ?_) (fun h9 => absurd h9 (by decide))
      refine lv_aload_n hx hb dX6_partsLike_19 rfl (lv_at hl 0 rfl) ?_
      refine lv_iload_n hx hb dX6_partsLike_20 rfl (lv_at hl 1 rfl) ?_
      refine lv_iload_n hx hb dX6_partsLike_21 rfl (lv_at hl 2 rfl) ?_
      have hPc := hP.sub (ws' := [(k0, .inr (9, [.ref kN, .ref kA, .ref kO, .ref kK, .ref kV, .ref kG, .ref kP, .ref kC, .ref kD, .ref kE, .ref kF, .ref kX, .ref kY, .int 0, .ref kT, .ref kU, .int 0, .int 0, .int 0])), (kA, .inl (cI, 2, .inl (fun _ => 0)))]) [0, 2] rfl
      have hDc := hD.sub (ws' := [(k0, .inr (9, [.ref kN, .ref kA, .ref kO, .ref kK, .ref kV, .ref kG, .ref kP, .ref kC, .ref kD, .ref kE, .ref kF, .ref kX, .ref kY, .int 0, .ref kT, .ref kU, .int 0, .int 0, .int 0])), (kA, .inl (cI, 2, .inl (fun _ => 0)))]) [0, 2] (by decide) rfl
      have hKc := hK.sub (tys' := [(cI, .int)]) [0] rfl
      have hFc := va_free (wc := [(k0, .inr (9, [.ref kN, .ref kA, .ref kO, .ref kK, .ref kV, .ref kG, .ref kP, .ref kC, .ref kD, .ref kE, .ref kF, .ref kX, .ref kY, .int 0, .ref kT, .ref kU, .int 0, .int 0, .int 0])), (kA, .inl (cI, 2, .inl (fun _ => 0)))]) hD hS hA [0, 2] rfl
      refine va_calli (va_runV (As := [.int 1, .int p1]) (rest := [.ref k0]) ⟨hx, hb, hml, hown, hts⟩ (kX6_isPart1 l dC dI k0 kN kA kO kK kV kG kP kC kD kE kF kX kY kT kU cI p1 H.size) (cwV 2 hts gX6_partsLike_X6_isPart rfl rfl rfl (by decide +kernel) ⟨Nat.le_of_ble_eq_true rfl, Nat.le_of_ble_eq_true rfl⟩) (fPreV hN hZ hS (fun q h => hFc q h) hPc hKc hDc (ci := 9) (q0 := 0) rfl rfl) rfl rfl hl.1 rfl (lv_room (Nat.le_of_ble_eq_true rfl)) dX6_partsLike_22 ⟨Nat.le_of_ble_eq_true rfl, Nat.le_of_ble_eq_true rfl⟩) hS (fun q _ h => hFc q h) hFc (fun r u t H1 locs ht hvm hw hB hz1 hk1 hS => ?_)
      obtain ⟨hP1, hK1, hD1⟩ := hB
      rw [ht] at hP1
      have hK1 := va_K.moved hvm.symm hK1
      obtain ⟨hP, hD⟩ := va_join (wr := [(kN, .inl (cI, 2, .inl (fun _ => 0)))]) (w1 := [(k0, .inr (9, [.ref kN, .ref kA, .ref kO, .ref kK, .ref kV, .ref kG, .ref kP, .ref kC, .ref kD, .ref kE, .ref kF, .ref kX, .ref kY, .int 0, .ref kT, .ref kU, .int 0, .int 0, .int 0])), (kA, .inl (cI, 2, .inl (fun _ => 0)))]) hP hD [0, 2] [1] rfl rfl (by decide) (by decide) hk1 hFc hP1 hD1
      generalize H1 = H at hP hS ⊢
      have hP : va_P (dC, dI) vwCl [(kN, .inl (cI, 2, .inl (fun _ => 0))), (k0, .inr (9, [.ref kN, .ref kA, .ref kO, .ref kK, .ref kV, .ref kG, .ref kP, .ref kC, .ref kD, .ref kE, .ref kF, .ref kX, .ref kY, .int 0, .ref kT, .ref kU, .int 0, .int 0, .int 0])), (kA, .inl (cI, 2, .inl (fun _ => 0)))] _ := hP
      have hD : va_D A [(kN, .inl (cI, 2, .inl (fun _ => 0))), (k0, .inr (9, [.ref kN, .ref kA, .ref kO, .ref kK, .ref kV, .ref kG, .ref kP, .ref kC, .ref kD, .ref kE, .ref kF, .ref kX, .ref kY, .int 0, .ref kT, .ref kU, .int 0, .int 0, .int 0])), (kA, .inl (cI, 2, .inl (fun _ => 0)))] := hD
      subst hw
      refine lv_if_ne (tgt := 32) hx hb dX6_partsLike_25 (by decide) (fun h9 => absurd (by decide) h9) (fun _ => ?_)
      refine lv_iconst (v := 2) hx hb dX6_partsLike_28 (by decide) ?_
      refine lv_goto (tgt := 33) hx hb dX6_partsLike_29 (by decide) ?_
      refine va_put (D := (dC, dI)) (ci := 9) (v := .int 2) (ty := .int) (C := RX6) (T := TX6) (N := 19) hx hb hts (fun w h => List.mem_cons_of_mem _ (List.mem_append_left _ (List.mem_append_right _ (h)))) tyX6 tyX6_ok nmX6 hown hK hP hD hS 1 rfl rfl 16 (by decide) (hts (.fieldLink RX6 57 "NetcompareModel" "thrown" "I") (List.mem_cons_of_mem _ (List.mem_append_left _ (List.mem_append_left _ (List.mem_append_left _ (List.mem_of_getElem? (i := 0) rfl)))))) (fun _ h9 => h9) rfl (by decide +kernel) rfl rfl (Nat.le_of_ble_eq_true rfl) dX6_partsLike_33 (fun H locs hP hD hS => ?_)
      have hP : va_P (dC, dI) vwCl [(kN, .inl (cI, 2, .inl (fun _ => 0))), (k0, .inr (9, [.ref kN, .ref kA, .ref kO, .ref kK, .ref kV, .ref kG, .ref kP, .ref kC, .ref kD, .ref kE, .ref kF, .ref kX, .ref kY, .int 0, .ref kT, .ref kU, .int 2, .int 0, .int 0])), (kA, .inl (cI, 2, .inl (fun _ => 0)))] _ := hP
      have hD : va_D A [(kN, .inl (cI, 2, .inl (fun _ => 0))), (k0, .inr (9, [.ref kN, .ref kA, .ref kO, .ref kK, .ref kV, .ref kG, .ref kP, .ref kC, .ref kD, .ref kE, .ref kF, .ref kX, .ref kY, .int 0, .ref kT, .ref kU, .int 2, .int 0, .int 0])), (kA, .inl (cI, 2, .inl (fun _ => 0)))] := hD
      refine lv_aload_n hx hb dX6_partsLike_36 rfl (lv_at hl 0 rfl) ?_
      refine va_get (D := (dC, dI)) (ci := 9) (v := .int 2) (C := RX6) (T := TX6) (N := 19) hx hb hts (fun w h => List.mem_cons_of_mem _ (List.mem_append_left _ (List.mem_append_right _ (h)))) hown hK hP 1 rfl rfl 16 (by decide) (hts (.fieldLink RX6 57 "NetcompareModel" "thrown" "I") (List.mem_cons_of_mem _ (List.mem_append_left _ (List.mem_append_left _ (List.mem_append_left _ (List.mem_of_getElem? (i := 0) rfl)))))) (fun _ h9 => h9) rfl dX6_partsLike_37 ?_
      refine lv_if_le (tgt := 45) hx hb dX6_partsLike_40 (by decide) (fun h9 => absurd h9 (by decide)) (fun _ => ?_)
      refine lv_iconst (v := (-1)) hx hb dX6_partsLike_43 (by decide) ?_
      exact ret _ 2 _ _ _ _ _ _ (Or.inr (⟨rfl, (fun h9 => h9.elim ((fun h9 => h9 (Or.inr (rfl)))) ((fun h9 => h9 (Or.inr (rfl)))))⟩)) (hP.sub [1] rfl) (hK.sub [] rfl) (hD.sub [1] (by decide) rfl) hS (Nat.le_of_ble_eq_true rfl) (Nat.le_of_ble_eq_true rfl) dX6_partsLike_44
    · skip
      have hc2 := hc
      refine lv_if_ne (tgt := 19) hx hb dX6_partsLike_12 (by decide) (fun h9 => absurd (by decide) h9) (fun _ => ?_)
      refine lv_iconst (v := 1) hx hb dX6_partsLike_15 (by decide) ?_
      refine lv_goto (tgt := 33) hx hb dX6_partsLike_16 (by decide) ?_
      refine va_put (D := (dC, dI)) (ci := 9) (v := .int 1) (ty := .int) (C := RX6) (T := TX6) (N := 19) hx hb hts (fun w h => List.mem_cons_of_mem _ (List.mem_append_left _ (List.mem_append_right _ (h)))) tyX6 tyX6_ok nmX6 hown hK hP hD hS 0 rfl rfl 16 (by decide) (hts (.fieldLink RX6 57 "NetcompareModel" "thrown" "I") (List.mem_cons_of_mem _ (List.mem_append_left _ (List.mem_append_left _ (List.mem_append_left _ (List.mem_of_getElem? (i := 0) rfl)))))) (fun _ h9 => h9) rfl (by decide +kernel) rfl rfl (Nat.le_of_ble_eq_true rfl) dX6_partsLike_33 (fun H locs hP hD hS => ?_)
      have hP : va_P (dC, dI) vwCl [(k0, .inr (9, [.ref kN, .ref kA, .ref kO, .ref kK, .ref kV, .ref kG, .ref kP, .ref kC, .ref kD, .ref kE, .ref kF, .ref kX, .ref kY, .int 0, .ref kT, .ref kU, .int 1, .int 0, .int 0])), (kN, .inl (cI, 2, .inl (fun _ => 0))), (kA, .inl (cI, 2, .inl (fun _ => 0)))] _ := hP
      have hD : va_D A [(k0, .inr (9, [.ref kN, .ref kA, .ref kO, .ref kK, .ref kV, .ref kG, .ref kP, .ref kC, .ref kD, .ref kE, .ref kF, .ref kX, .ref kY, .int 0, .ref kT, .ref kU, .int 1, .int 0, .int 0])), (kN, .inl (cI, 2, .inl (fun _ => 0))), (kA, .inl (cI, 2, .inl (fun _ => 0)))] := hD
      refine lv_aload_n hx hb dX6_partsLike_36 rfl (lv_at hl 0 rfl) ?_
      refine va_get (D := (dC, dI)) (ci := 9) (v := .int 1) (C := RX6) (T := TX6) (N := 19) hx hb hts (fun w h => List.mem_cons_of_mem _ (List.mem_append_left _ (List.mem_append_right _ (h)))) hown hK hP 0 rfl rfl 16 (by decide) (hts (.fieldLink RX6 57 "NetcompareModel" "thrown" "I") (List.mem_cons_of_mem _ (List.mem_append_left _ (List.mem_append_left _ (List.mem_append_left _ (List.mem_of_getElem? (i := 0) rfl)))))) (fun _ h9 => h9) rfl dX6_partsLike_37 ?_
      refine lv_if_le (tgt := 45) hx hb dX6_partsLike_40 (by decide) (fun h9 => absurd h9 (by decide)) (fun _ => ?_)
      refine lv_iconst (v := (-1)) hx hb dX6_partsLike_43 (by decide) ?_
      exact ret _ 1 _ _ _ _ _ _ (Or.inl (⟨rfl, Or.inr (hc2)⟩)) (hP.sub [0] rfl) (hK.sub [] rfl) (hD.sub [0] (by decide) rfl) hS (Nat.le_of_ble_eq_true rfl) (Nat.le_of_ble_eq_true rfl) dX6_partsLike_44
  · skip
    have hc3 := hc
    refine lv_if_eq (tgt := 15) hx hb dX6_partsLike_5 (by decide) (fun _ => ?_) (fun h9 => absurd (by decide) h9)
    refine lv_iconst (v := 1) hx hb dX6_partsLike_15 (by decide) ?_
    refine lv_goto (tgt := 33) hx hb dX6_partsLike_16 (by decide) ?_
    refine va_put (D := (dC, dI)) (ci := 9) (v := .int 1) (ty := .int) (C := RX6) (T := TX6) (N := 19) hx hb hts (fun w h => List.mem_cons_of_mem _ (List.mem_append_left _ (List.mem_append_right _ (h)))) tyX6 tyX6_ok nmX6 hown hK hP hD hS 0 rfl rfl 16 (by decide) (hts (.fieldLink RX6 57 "NetcompareModel" "thrown" "I") (List.mem_cons_of_mem _ (List.mem_append_left _ (List.mem_append_left _ (List.mem_append_left _ (List.mem_of_getElem? (i := 0) rfl)))))) (fun _ h9 => h9) rfl (by decide +kernel) rfl rfl (Nat.le_of_ble_eq_true rfl) dX6_partsLike_33 (fun H locs hP hD hS => ?_)
    have hP : va_P (dC, dI) vwCl [(k0, .inr (9, [.ref kN, .ref kA, .ref kO, .ref kK, .ref kV, .ref kG, .ref kP, .ref kC, .ref kD, .ref kE, .ref kF, .ref kX, .ref kY, .int 0, .ref kT, .ref kU, .int 1, .int 0, .int 0])), (kN, .inl (cI, 2, .inl (fun _ => 0))), (kA, .inl (cI, 2, .inl (fun _ => 0)))] _ := hP
    have hD : va_D A [(k0, .inr (9, [.ref kN, .ref kA, .ref kO, .ref kK, .ref kV, .ref kG, .ref kP, .ref kC, .ref kD, .ref kE, .ref kF, .ref kX, .ref kY, .int 0, .ref kT, .ref kU, .int 1, .int 0, .int 0])), (kN, .inl (cI, 2, .inl (fun _ => 0))), (kA, .inl (cI, 2, .inl (fun _ => 0)))] := hD
    refine lv_aload_n hx hb dX6_partsLike_36 rfl (lv_at hl 0 rfl) ?_
    refine va_get (D := (dC, dI)) (ci := 9) (v := .int 1) (C := RX6) (T := TX6) (N := 19) hx hb hts (fun w h => List.mem_cons_of_mem _ (List.mem_append_left _ (List.mem_append_right _ (h)))) hown hK hP 0 rfl rfl 16 (by decide) (hts (.fieldLink RX6 57 "NetcompareModel" "thrown" "I") (List.mem_cons_of_mem _ (List.mem_append_left _ (List.mem_append_left _ (List.mem_append_left _ (List.mem_of_getElem? (i := 0) rfl)))))) (fun _ h9 => h9) rfl dX6_partsLike_37 ?_
    refine lv_if_le (tgt := 45) hx hb dX6_partsLike_40 (by decide) (fun h9 => absurd h9 (by decide)) (fun _ => ?_)
    refine lv_iconst (v := (-1)) hx hb dX6_partsLike_43 (by decide) ?_
    exact ret _ 1 _ _ _ _ _ _ (Or.inl (⟨rfl, Or.inl (hc3)⟩)) (hP.sub [0] rfl) (hK.sub [] rfl) (hD.sub [0] (by decide) rfl) hS (Nat.le_of_ble_eq_true rfl) (Nat.le_of_ble_eq_true rfl) dX6_partsLike_44

set_option maxHeartbeats 4000000 in
set_option maxRecDepth 100000 in
/-- the model: areAlike on a fresh one -/
theorem kX6_areAlike (l : Launch) (dC : Nat → ClassId) (dI : Nat → Nat → Nat) (k0 kN kA kO kK kV kG kP kC kD kE kF kX kY kT kU : Nat) (cI : ClassId) (p0 p1 : Int32) (sz : Nat) : fMi l yX6_areAlike wsX6_areAlike ({ frames := 2, cells := 0, slots := 0, locals := 47 } : Room) dC dI [.ref k0, .int p0, .int p1] [(k0, .inr (9, [.ref kN, .ref kA, .ref kO, .ref kK, .ref kV, .ref kG, .ref kP, .ref kC, .ref kD, .ref kE, .ref kF, .ref kX, .ref kY, .int 0, .ref kT, .ref kU, .int 0, .int 0, .int 0])), (kN, .inl (cI, 2, .inl (fun _ => 0))), (kA, .inl (cI, 2, .inl (fun _ => 0)))] [(cI, .int)] sz (fun (r : Int32) (u : Int32) => u = 1) (fun u => [(k0, .inr (9, [.ref kN, .ref kA, .ref kO, .ref kK, .ref kV, .ref kG, .ref kP, .ref kC, .ref kD, .ref kE, .ref kF, .ref kX, .ref kY, .int 0, .ref kT, .ref kU, .int u, .int 0, .int 0]))]) (fun u => []) := by
  refine oP_z (y := yX6_areAlike) (cc := cX6_areAlike) (maxL := 3) (by decide) rfl (Nat.le_of_ble_eq_true rfl) ?_
  intro p e s m args below meth c ls A Q hx hb hr hml hown hts hN hZ hA hin hlk hP hK hD hl ret
  have hS : va_S A s.heap s.heap [] := va_S.rf
  have hl : lv_has ls 3 [(0, .ref k0), (1, .int p0), (2, .int p1)] := hl
  have hP : va_P (dC, dI) vwCl [(k0, .inr (9, [.ref kN, .ref kA, .ref kO, .ref kK, .ref kV, .ref kG, .ref kP, .ref kC, .ref kD, .ref kE, .ref kF, .ref kX, .ref kY, .int 0, .ref kT, .ref kU, .int 0, .int 0, .int 0])), (kN, .inl (cI, 2, .inl (fun _ => 0))), (kA, .inl (cI, 2, .inl (fun _ => 0)))] _ := hP
  have hD : va_D A [(k0, .inr (9, [.ref kN, .ref kA, .ref kO, .ref kK, .ref kV, .ref kG, .ref kP, .ref kC, .ref kD, .ref kE, .ref kF, .ref kX, .ref kY, .int 0, .ref kT, .ref kU, .int 0, .int 0, .int 0])), (kN, .inl (cI, 2, .inl (fun _ => 0))), (kA, .inl (cI, 2, .inl (fun _ => 0)))] := hD
  refine lv_aload_n hx hb dX6_areAlike_0 rfl (lv_at hl 0 rfl) ?_
  refine lv_aload_n hx hb dX6_areAlike_1 rfl (lv_at hl 0 rfl) ?_
  refine lv_iconst (v := 0) hx hb dX6_areAlike_2 (by decide) ?_
  refine lv_iload_n hx hb dX6_areAlike_3 rfl (lv_at hl 1 rfl) ?_
  have hPc := hP.sub (ws' := [(k0, .inr (9, [.ref kN, .ref kA, .ref kO, .ref kK, .ref kV, .ref kG, .ref kP, .ref kC, .ref kD, .ref kE, .ref kF, .ref kX, .ref kY, .int 0, .ref kT, .ref kU, .int 0, .int 0, .int 0])), (kN, .inl (cI, 2, .inl (fun _ => 0)))]) [0, 1] rfl
  have hDc := hD.sub (ws' := [(k0, .inr (9, [.ref kN, .ref kA, .ref kO, .ref kK, .ref kV, .ref kG, .ref kP, .ref kC, .ref kD, .ref kE, .ref kF, .ref kX, .ref kY, .int 0, .ref kT, .ref kU, .int 0, .int 0, .int 0])), (kN, .inl (cI, 2, .inl (fun _ => 0)))]) [0, 1] (by decide) rfl
  have hKc := hK.sub (tys' := [(cI, .int)]) [0] rfl
  have hFc := va_free (wc := [(k0, .inr (9, [.ref kN, .ref kA, .ref kO, .ref kK, .ref kV, .ref kG, .ref kP, .ref kC, .ref kD, .ref kE, .ref kF, .ref kX, .ref kY, .int 0, .ref kT, .ref kU, .int 0, .int 0, .int 0])), (kN, .inl (cI, 2, .inl (fun _ => 0)))]) hD hS hA [0, 1] rfl
  refine va_calli (va_runV (As := [.int 0, .int p0]) (rest := [.ref k0]) ⟨hx, hb, hml, hown, hts⟩ (kX6_isNet0 l dC dI k0 kN kA kO kK kV kG kP kC kD kE kF kX kY kT kU cI p0 s.heap.size) (cwV 2 hts gX6_areAlike_X6_isNet rfl rfl rfl (by decide +kernel) ⟨Nat.le_of_ble_eq_true rfl, Nat.le_of_ble_eq_true rfl⟩) (fPreV hN hZ hS (fun q h => hFc q h) hPc hKc hDc (ci := 9) (q0 := 0) rfl rfl) rfl rfl hl.1 rfl (lv_room (Nat.le_of_ble_eq_true rfl)) dX6_areAlike_4 ⟨Nat.le_of_ble_eq_true rfl, Nat.le_of_ble_eq_true rfl⟩) hS (fun q _ h => hFc q h) hFc (fun r u t H1 locs ht hvm hw hB hz1 hk1 hS => ?_)
  obtain ⟨hP1, hK1, hD1⟩ := hB
  rw [ht] at hP1
  have hK1 := va_K.moved hvm.symm hK1
  obtain ⟨hP, hD⟩ := va_join (wr := [(kA, .inl (cI, 2, .inl (fun _ => 0)))]) (w1 := [(k0, .inr (9, [.ref kN, .ref kA, .ref kO, .ref kK, .ref kV, .ref kG, .ref kP, .ref kC, .ref kD, .ref kE, .ref kF, .ref kX, .ref kY, .int 0, .ref kT, .ref kU, .int 0, .int 0, .int 0])), (kN, .inl (cI, 2, .inl (fun _ => 0)))]) hP hD [0, 1] [2] rfl rfl (by decide) (by decide) hk1 hFc hP1 hD1
  generalize H1 = H at hP hS ⊢
  have hP : va_P (dC, dI) vwCl [(kA, .inl (cI, 2, .inl (fun _ => 0))), (k0, .inr (9, [.ref kN, .ref kA, .ref kO, .ref kK, .ref kV, .ref kG, .ref kP, .ref kC, .ref kD, .ref kE, .ref kF, .ref kX, .ref kY, .int 0, .ref kT, .ref kU, .int 0, .int 0, .int 0])), (kN, .inl (cI, 2, .inl (fun _ => 0)))] _ := hP
  have hD : va_D A [(kA, .inl (cI, 2, .inl (fun _ => 0))), (k0, .inr (9, [.ref kN, .ref kA, .ref kO, .ref kK, .ref kV, .ref kG, .ref kP, .ref kC, .ref kD, .ref kE, .ref kF, .ref kX, .ref kY, .int 0, .ref kT, .ref kU, .int 0, .int 0, .int 0])), (kN, .inl (cI, 2, .inl (fun _ => 0)))] := hD
  subst hw
  refine lv_if_eq (tgt := 19) hx hb dX6_areAlike_7 (by decide) (fun _ => ?_) (fun h9 => absurd (by decide) h9)
  refine lv_iconst (v := 1) hx hb dX6_areAlike_19 (by decide) ?_
  refine lv_goto (tgt := 24) hx hb dX6_areAlike_20 (by decide) ?_
  refine va_put (D := (dC, dI)) (ci := 9) (v := .int 1) (ty := .int) (C := RX6) (T := TX6) (N := 19) hx hb hts (fun w h => List.mem_cons_of_mem _ (List.mem_append_left _ (List.mem_append_right _ (h)))) tyX6 tyX6_ok nmX6 hown hK hP hD hS 1 rfl rfl 16 (by decide) (hts (.fieldLink RX6 57 "NetcompareModel" "thrown" "I") (List.mem_cons_of_mem _ (List.mem_append_left _ (List.mem_append_left _ (List.mem_append_left _ (List.mem_of_getElem? (i := 0) rfl)))))) (fun _ h9 => h9) rfl (by decide +kernel) rfl rfl (Nat.le_of_ble_eq_true rfl) dX6_areAlike_24 (fun H locs hP hD hS => ?_)
  have hP : va_P (dC, dI) vwCl [(kA, .inl (cI, 2, .inl (fun _ => 0))), (k0, .inr (9, [.ref kN, .ref kA, .ref kO, .ref kK, .ref kV, .ref kG, .ref kP, .ref kC, .ref kD, .ref kE, .ref kF, .ref kX, .ref kY, .int 0, .ref kT, .ref kU, .int 1, .int 0, .int 0])), (kN, .inl (cI, 2, .inl (fun _ => 0)))] _ := hP
  have hD : va_D A [(kA, .inl (cI, 2, .inl (fun _ => 0))), (k0, .inr (9, [.ref kN, .ref kA, .ref kO, .ref kK, .ref kV, .ref kG, .ref kP, .ref kC, .ref kD, .ref kE, .ref kF, .ref kX, .ref kY, .int 0, .ref kT, .ref kU, .int 1, .int 0, .int 0])), (kN, .inl (cI, 2, .inl (fun _ => 0)))] := hD
  refine lv_aload_n hx hb dX6_areAlike_27 rfl (lv_at hl 0 rfl) ?_
  refine va_get (D := (dC, dI)) (ci := 9) (v := .int 1) (C := RX6) (T := TX6) (N := 19) hx hb hts (fun w h => List.mem_cons_of_mem _ (List.mem_append_left _ (List.mem_append_right _ (h)))) hown hK hP 1 rfl rfl 16 (by decide) (hts (.fieldLink RX6 57 "NetcompareModel" "thrown" "I") (List.mem_cons_of_mem _ (List.mem_append_left _ (List.mem_append_left _ (List.mem_append_left _ (List.mem_of_getElem? (i := 0) rfl)))))) (fun _ h9 => h9) rfl dX6_areAlike_28 ?_
  refine lv_if_le (tgt := 36) hx hb dX6_areAlike_31 (by decide) (fun h9 => absurd h9 (by decide)) (fun _ => ?_)
  refine lv_iconst (v := 0) hx hb dX6_areAlike_34 (by decide) ?_
  exact ret _ 1 _ _ _ _ _ _ (by decide) (rfl) (hP.sub [1] rfl) (hK.sub [] rfl) (hD.sub [1] (by decide) rfl) hS (Nat.le_of_ble_eq_true rfl) (Nat.le_of_ble_eq_true rfl) dX6_areAlike_35

set_option maxHeartbeats 4000000 in
set_option maxRecDepth 100000 in
/-- the model: isMatched on a fresh one -/
theorem kX6_isMatched (l : Launch) (dC : Nat → ClassId) (dI : Nat → Nat → Nat) (k0 kN kA kO kK kV kG kP kC kD kE kF kX kY kT kU : Nat) (cI : ClassId) (g1 g2 g3 g4 : Nat → Int32) (sz : Nat) : fMi l yX6_isMatched wsX6_isMatched ({ frames := 6, cells := 3, slots := 50, locals := 137 } : Room) dC dI [.ref k0] [(k0, .inr (9, [.ref kN, .ref kA, .ref kO, .ref kK, .ref kV, .ref kG, .ref kP, .ref kC, .ref kD, .ref kE, .ref kF, .ref kX, .ref kY, .int 0, .ref kT, .ref kU, .int 0, .int 0, .int 0])), (kN, .inl (cI, 2, .inl (fun _ => 0))), (kA, .inl (cI, 2, .inl (fun _ => 0))), (kC, .inl (cI, 20, .inl g1)), (kD, .inl (cI, 20, .inl g2)), (kE, .inl (cI, 20, .inl g3)), (kF, .inl (cI, 20, .inl g4))] [(cI, .int)] sz (fun (r : Int32) (u : Int32) => u = 0 ∧ r = 1) (fun u => [(k0, .inr (9, [.ref kN, .ref kA, .ref kO, .ref kK, .ref kV, .ref kG, .ref kP, .ref kC, .ref kD, .ref kE, .ref kF, .ref kX, .ref kY, .int 0, .ref kT, .ref kU, .int u, .int 0, .int 0]))]) (fun u => []) := by
  refine oP_z (y := yX6_isMatched) (cc := cX6_isMatched) (maxL := 1) (by decide) rfl (Nat.le_of_ble_eq_true rfl) ?_
  intro p e s m args below meth c ls A Q hx hb hr hml hown hts hN hZ hA hin hlk hP hK hD hl ret
  have hS : va_S A s.heap s.heap [] := va_S.rf
  have hl : lv_has ls 1 [(0, .ref k0)] := hl
  have hP : va_P (dC, dI) vwCl [(k0, .inr (9, [.ref kN, .ref kA, .ref kO, .ref kK, .ref kV, .ref kG, .ref kP, .ref kC, .ref kD, .ref kE, .ref kF, .ref kX, .ref kY, .int 0, .ref kT, .ref kU, .int 0, .int 0, .int 0])), (kN, .inl (cI, 2, .inl (fun _ => 0))), (kA, .inl (cI, 2, .inl (fun _ => 0))), (kC, .inl (cI, 20, .inl g1)), (kD, .inl (cI, 20, .inl g2)), (kE, .inl (cI, 20, .inl g3)), (kF, .inl (cI, 20, .inl g4))] _ := hP
  have hD : va_D A [(k0, .inr (9, [.ref kN, .ref kA, .ref kO, .ref kK, .ref kV, .ref kG, .ref kP, .ref kC, .ref kD, .ref kE, .ref kF, .ref kX, .ref kY, .int 0, .ref kT, .ref kU, .int 0, .int 0, .int 0])), (kN, .inl (cI, 2, .inl (fun _ => 0))), (kA, .inl (cI, 2, .inl (fun _ => 0))), (kC, .inl (cI, 20, .inl g1)), (kD, .inl (cI, 20, .inl g2)), (kE, .inl (cI, 20, .inl g3)), (kF, .inl (cI, 20, .inl g4))] := hD
  refine lv_aload_n hx hb dX6_isMatched_0 rfl (lv_at hl 0 rfl) ?_
  refine lv_iconst (v := 0) hx hb dX6_isMatched_1 (by decide) ?_
  refine va_put (D := (dC, dI)) (ci := 9) (v := .int 0) (ty := .int) (C := RX6) (T := TX6) (N := 19) hx hb hts (fun w h => List.mem_cons_of_mem _ (List.mem_append_left _ (List.mem_append_right _ (h)))) tyX6 tyX6_ok nmX6 hown hK hP hD hS 0 rfl rfl 16 (by decide) (hts (.fieldLink RX6 57 "NetcompareModel" "thrown" "I") (List.mem_cons_of_mem _ (List.mem_append_left _ (List.mem_append_left _ (List.mem_append_left _ (List.mem_of_getElem? (i := 0) rfl)))))) (fun _ h9 => h9) rfl (by decide +kernel) rfl rfl (Nat.le_of_ble_eq_true rfl) dX6_isMatched_2 (fun H locs hP hD hS => ?_)
  have hP : va_P (dC, dI) vwCl [(k0, .inr (9, [.ref kN, .ref kA, .ref kO, .ref kK, .ref kV, .ref kG, .ref kP, .ref kC, .ref kD, .ref kE, .ref kF, .ref kX, .ref kY, .int 0, .ref kT, .ref kU, .int 0, .int 0, .int 0])), (kN, .inl (cI, 2, .inl (fun _ => 0))), (kA, .inl (cI, 2, .inl (fun _ => 0))), (kC, .inl (cI, 20, .inl g1)), (kD, .inl (cI, 20, .inl g2)), (kE, .inl (cI, 20, .inl g3)), (kF, .inl (cI, 20, .inl g4))] _ := hP
  have hD : va_D A [(k0, .inr (9, [.ref kN, .ref kA, .ref kO, .ref kK, .ref kV, .ref kG, .ref kP, .ref kC, .ref kD, .ref kE, .ref kF, .ref kX, .ref kY, .int 0, .ref kT, .ref kU, .int 0, .int 0, .int 0])), (kN, .inl (cI, 2, .inl (fun _ => 0))), (kA, .inl (cI, 2, .inl (fun _ => 0))), (kC, .inl (cI, 20, .inl g1)), (kD, .inl (cI, 20, .inl g2)), (kE, .inl (cI, 20, .inl g3)), (kF, .inl (cI, 20, .inl g4))] := hD
  refine lv_aload_n hx hb dX6_isMatched_5 rfl (lv_at hl 0 rfl) ?_
  have hPc := hP.sub (ws' := [(k0, .inr (9, [.ref kN, .ref kA, .ref kO, .ref kK, .ref kV, .ref kG, .ref kP, .ref kC, .ref kD, .ref kE, .ref kF, .ref kX, .ref kY, .int 0, .ref kT, .ref kU, .int 0, .int 0, .int 0])), (kN, .inl (cI, 2, .inl (fun _ => 0))), (kA, .inl (cI, 2, .inl (fun _ => 0))), (kC, .inl (cI, 20, .inl g1)), (kD, .inl (cI, 20, .inl g2)), (kE, .inl (cI, 20, .inl g3)), (kF, .inl (cI, 20, .inl g4))]) [0, 1, 2, 3, 4, 5, 6] rfl
  have hDc := hD.sub (ws' := [(k0, .inr (9, [.ref kN, .ref kA, .ref kO, .ref kK, .ref kV, .ref kG, .ref kP, .ref kC, .ref kD, .ref kE, .ref kF, .ref kX, .ref kY, .int 0, .ref kT, .ref kU, .int 0, .int 0, .int 0])), (kN, .inl (cI, 2, .inl (fun _ => 0))), (kA, .inl (cI, 2, .inl (fun _ => 0))), (kC, .inl (cI, 20, .inl g1)), (kD, .inl (cI, 20, .inl g2)), (kE, .inl (cI, 20, .inl g3)), (kF, .inl (cI, 20, .inl g4))]) [0, 1, 2, 3, 4, 5, 6] (by decide) rfl
  have hKc := hK.sub (tys' := [(cI, .int)]) [0] rfl
  have hFc := va_free (wc := [(k0, .inr (9, [.ref kN, .ref kA, .ref kO, .ref kK, .ref kV, .ref kG, .ref kP, .ref kC, .ref kD, .ref kE, .ref kF, .ref kX, .ref kY, .int 0, .ref kT, .ref kU, .int 0, .int 0, .int 0])), (kN, .inl (cI, 2, .inl (fun _ => 0))), (kA, .inl (cI, 2, .inl (fun _ => 0))), (kC, .inl (cI, 20, .inl g1)), (kD, .inl (cI, 20, .inl g2)), (kE, .inl (cI, 20, .inl g3)), (kF, .inl (cI, 20, .inl g4))]) hD hS hA [0, 1, 2, 3, 4, 5, 6] rfl
  refine va_calli (va_runV (As := []) (rest := []) ⟨hx, hb, hml, hown, hts⟩ (kX6_matches l dC dI k0 kN kA kO kK kV kG kP kC kD kE kF kX kY kT kU cI g1 g2 g3 g4 H.size) (cwV 0 hts gX6_isMatched_X6_matches rfl rfl rfl (by decide +kernel) ⟨Nat.le_of_ble_eq_true rfl, Nat.le_of_ble_eq_true rfl⟩) (fPreV hN hZ hS (fun q h => hFc q h) hPc hKc hDc (ci := 9) (q0 := 0) rfl rfl) rfl rfl hl.1 rfl (lv_room (Nat.le_of_ble_eq_true rfl)) dX6_isMatched_6 ⟨Nat.le_of_ble_eq_true rfl, Nat.le_of_ble_eq_true rfl⟩) hS (fun q _ h => hFc q h) hFc (fun r u t H1 locs ht hvm hw hB hz1 hk1 hS => ?_)
  obtain ⟨hP1, hK1, hD1⟩ := hB
  rw [ht] at hP1
  have hK1 := va_K.moved hvm.symm hK1
  obtain ⟨hP, hD⟩ := va_join (wr := []) (w1 := [(k0, .inr (9, [.ref kN, .ref kA, .ref kO, .ref kK, .ref kV, .ref kG, .ref kP, .ref kC, .ref kD, .ref kE, .ref kF, .ref kX, .ref kY, .int 0, .ref kT, .ref kU, .int 0, .int 0, .int 0]))]) hP hD [0, 1, 2, 3, 4, 5, 6] [] rfl rfl (by decide) (by decide) hk1 hFc hP1 hD1
  generalize H1 = H at hP hS ⊢
  have hP : va_P (dC, dI) vwCl [(k0, .inr (9, [.ref kN, .ref kA, .ref kO, .ref kK, .ref kV, .ref kG, .ref kP, .ref kC, .ref kD, .ref kE, .ref kF, .ref kX, .ref kY, .int 0, .ref kT, .ref kU, .int 0, .int 0, .int 0]))] _ := hP
  have hD : va_D A [(k0, .inr (9, [.ref kN, .ref kA, .ref kO, .ref kK, .ref kV, .ref kG, .ref kP, .ref kC, .ref kD, .ref kE, .ref kF, .ref kX, .ref kY, .int 0, .ref kT, .ref kU, .int 0, .int 0, .int 0]))] := hD
  refine W.widen (k := 3) (n := 50) (Nat.le_of_ble_eq_true rfl) (Nat.le_of_ble_eq_true rfl) ?_
  subst hw
  exact ret _ 0 _ _ _ _ _ _ (by decide) (⟨rfl, rfl⟩) (hP.sub [0] rfl) (hK.sub [] rfl) (hD.sub [0] (by decide) rfl) hS (Nat.le_of_ble_eq_true rfl) (Nat.le_of_ble_eq_true rfl) dX6_isMatched_9

set_option maxHeartbeats 4000000 in
set_option maxRecDepth 100000 in
/-- the model: isMatchedByTrying on a fresh one -/
theorem kX6_isMatchedByTrying (l : Launch) (dC : Nat → ClassId) (dI : Nat → Nat → Nat) (k0 kN kA kO kK kV kG kP kC kD kE kF kX kY kT kU : Nat) (cI : ClassId) (g1 g2 g3 g4 : Nat → Int32) (sz : Nat) : fMi l yX6_isMatchedByTrying wsX6_isMatchedByTrying ({ frames := 6, cells := 3, slots := 50, locals := 137 } : Room) dC dI [.ref k0] [(k0, .inr (9, [.ref kN, .ref kA, .ref kO, .ref kK, .ref kV, .ref kG, .ref kP, .ref kC, .ref kD, .ref kE, .ref kF, .ref kX, .ref kY, .int 0, .ref kT, .ref kU, .int 0, .int 0, .int 0])), (kN, .inl (cI, 2, .inl (fun _ => 0))), (kA, .inl (cI, 2, .inl (fun _ => 0))), (kC, .inl (cI, 20, .inl g1)), (kD, .inl (cI, 20, .inl g2)), (kE, .inl (cI, 20, .inl g3)), (kF, .inl (cI, 20, .inl g4))] [(cI, .int)] sz (fun (r : Int32) (u : Int32) => u = 0 ∧ r = 1) (fun u => [(k0, .inr (9, [.ref kN, .ref kA, .ref kO, .ref kK, .ref kV, .ref kG, .ref kP, .ref kC, .ref kD, .ref kE, .ref kF, .ref kX, .ref kY, .int 0, .ref kT, .ref kU, .int u, .int 0, .int 0]))]) (fun u => []) := by
  refine oP_z (y := yX6_isMatchedByTrying) (cc := cX6_isMatchedByTrying) (maxL := 1) (by decide) rfl (Nat.le_of_ble_eq_true rfl) ?_
  intro p e s m args below meth c ls A Q hx hb hr hml hown hts hN hZ hA hin hlk hP hK hD hl ret
  have hS : va_S A s.heap s.heap [] := va_S.rf
  have hl : lv_has ls 1 [(0, .ref k0)] := hl
  have hP : va_P (dC, dI) vwCl [(k0, .inr (9, [.ref kN, .ref kA, .ref kO, .ref kK, .ref kV, .ref kG, .ref kP, .ref kC, .ref kD, .ref kE, .ref kF, .ref kX, .ref kY, .int 0, .ref kT, .ref kU, .int 0, .int 0, .int 0])), (kN, .inl (cI, 2, .inl (fun _ => 0))), (kA, .inl (cI, 2, .inl (fun _ => 0))), (kC, .inl (cI, 20, .inl g1)), (kD, .inl (cI, 20, .inl g2)), (kE, .inl (cI, 20, .inl g3)), (kF, .inl (cI, 20, .inl g4))] _ := hP
  have hD : va_D A [(k0, .inr (9, [.ref kN, .ref kA, .ref kO, .ref kK, .ref kV, .ref kG, .ref kP, .ref kC, .ref kD, .ref kE, .ref kF, .ref kX, .ref kY, .int 0, .ref kT, .ref kU, .int 0, .int 0, .int 0])), (kN, .inl (cI, 2, .inl (fun _ => 0))), (kA, .inl (cI, 2, .inl (fun _ => 0))), (kC, .inl (cI, 20, .inl g1)), (kD, .inl (cI, 20, .inl g2)), (kE, .inl (cI, 20, .inl g3)), (kF, .inl (cI, 20, .inl g4))] := hD
  refine lv_aload_n hx hb dX6_isMatchedByTrying_0 rfl (lv_at hl 0 rfl) ?_
  refine lv_aload_n hx hb dX6_isMatchedByTrying_1 rfl (lv_at hl 0 rfl) ?_
  have hPc := hP.sub (ws' := [(k0, .inr (9, [.ref kN, .ref kA, .ref kO, .ref kK, .ref kV, .ref kG, .ref kP, .ref kC, .ref kD, .ref kE, .ref kF, .ref kX, .ref kY, .int 0, .ref kT, .ref kU, .int 0, .int 0, .int 0])), (kN, .inl (cI, 2, .inl (fun _ => 0)))]) [0, 1] rfl
  have hDc := hD.sub (ws' := [(k0, .inr (9, [.ref kN, .ref kA, .ref kO, .ref kK, .ref kV, .ref kG, .ref kP, .ref kC, .ref kD, .ref kE, .ref kF, .ref kX, .ref kY, .int 0, .ref kT, .ref kU, .int 0, .int 0, .int 0])), (kN, .inl (cI, 2, .inl (fun _ => 0)))]) [0, 1] (by decide) rfl
  have hKc := hK.sub (tys' := [(cI, .int)]) [0] rfl
  have hFc := va_free (wc := [(k0, .inr (9, [.ref kN, .ref kA, .ref kO, .ref kK, .ref kV, .ref kG, .ref kP, .ref kC, .ref kD, .ref kE, .ref kF, .ref kX, .ref kY, .int 0, .ref kT, .ref kU, .int 0, .int 0, .int 0])), (kN, .inl (cI, 2, .inl (fun _ => 0)))]) hD hS hA [0, 1] rfl
  refine va_calli (va_runV (As := []) (rest := [.ref k0]) ⟨hx, hb, hml, hown, hts⟩ (kX6_isLarge l dC dI k0 kN kA kO kK kV kG kP kC kD kE kF kX kY kT kU cI s.heap.size) (cwV 0 hts gX6_isMatchedByTrying_X6_isLarge rfl rfl rfl (by decide +kernel) ⟨Nat.le_of_ble_eq_true rfl, Nat.le_of_ble_eq_true rfl⟩) (fPreV hN hZ hS (fun q h => hFc q h) hPc hKc hDc (ci := 9) (q0 := 0) rfl rfl) rfl rfl hl.1 rfl (lv_room (Nat.le_of_ble_eq_true rfl)) dX6_isMatchedByTrying_2 ⟨Nat.le_of_ble_eq_true rfl, Nat.le_of_ble_eq_true rfl⟩) hS (fun q _ h => hFc q h) hFc (fun r u t H1 locs ht hvm hw hB hz1 hk1 hS => ?_)
  obtain ⟨hP1, hK1, hD1⟩ := hB
  rw [ht] at hP1
  have hK1 := va_K.moved hvm.symm hK1
  obtain ⟨hP, hD⟩ := va_join (wr := [(kA, .inl (cI, 2, .inl (fun _ => 0))), (kC, .inl (cI, 20, .inl g1)), (kD, .inl (cI, 20, .inl g2)), (kE, .inl (cI, 20, .inl g3)), (kF, .inl (cI, 20, .inl g4))]) (w1 := [(k0, .inr (9, [.ref kN, .ref kA, .ref kO, .ref kK, .ref kV, .ref kG, .ref kP, .ref kC, .ref kD, .ref kE, .ref kF, .ref kX, .ref kY, .int 0, .ref kT, .ref kU, .int 0, .int 0, .int 0])), (kN, .inl (cI, 2, .inl (fun _ => 0)))]) hP hD [0, 1] [2, 3, 4, 5, 6] rfl rfl (by decide) (by decide) hk1 hFc hP1 hD1
  generalize H1 = H at hP hS ⊢
  have hP : va_P (dC, dI) vwCl [(kA, .inl (cI, 2, .inl (fun _ => 0))), (kC, .inl (cI, 20, .inl g1)), (kD, .inl (cI, 20, .inl g2)), (kE, .inl (cI, 20, .inl g3)), (kF, .inl (cI, 20, .inl g4)), (k0, .inr (9, [.ref kN, .ref kA, .ref kO, .ref kK, .ref kV, .ref kG, .ref kP, .ref kC, .ref kD, .ref kE, .ref kF, .ref kX, .ref kY, .int 0, .ref kT, .ref kU, .int 0, .int 0, .int 0])), (kN, .inl (cI, 2, .inl (fun _ => 0)))] _ := hP
  have hD : va_D A [(kA, .inl (cI, 2, .inl (fun _ => 0))), (kC, .inl (cI, 20, .inl g1)), (kD, .inl (cI, 20, .inl g2)), (kE, .inl (cI, 20, .inl g3)), (kF, .inl (cI, 20, .inl g4)), (k0, .inr (9, [.ref kN, .ref kA, .ref kO, .ref kK, .ref kV, .ref kG, .ref kP, .ref kC, .ref kD, .ref kE, .ref kF, .ref kX, .ref kY, .int 0, .ref kT, .ref kU, .int 0, .int 0, .int 0])), (kN, .inl (cI, 2, .inl (fun _ => 0)))] := hD
  subst hw
  refine lv_if_eq (tgt := 12) hx hb dX6_isMatchedByTrying_5 (by decide) (fun _ => ?_) (fun h9 => absurd (by decide) h9)
  refine lv_iconst (v := 0) hx hb dX6_isMatchedByTrying_12 (by decide) ?_
  refine va_put (D := (dC, dI)) (ci := 9) (v := .int 0) (ty := .int) (C := RX6) (T := TX6) (N := 19) hx hb hts (fun w h => List.mem_cons_of_mem _ (List.mem_append_left _ (List.mem_append_right _ (h)))) tyX6 tyX6_ok nmX6 hown hK hP hD hS 5 rfl rfl 16 (by decide) (hts (.fieldLink RX6 57 "NetcompareModel" "thrown" "I") (List.mem_cons_of_mem _ (List.mem_append_left _ (List.mem_append_left _ (List.mem_append_left _ (List.mem_of_getElem? (i := 0) rfl)))))) (fun _ h9 => h9) rfl (by decide +kernel) rfl rfl (Nat.le_of_ble_eq_true rfl) dX6_isMatchedByTrying_13 (fun H locs hP hD hS => ?_)
  have hP : va_P (dC, dI) vwCl [(kA, .inl (cI, 2, .inl (fun _ => 0))), (kC, .inl (cI, 20, .inl g1)), (kD, .inl (cI, 20, .inl g2)), (kE, .inl (cI, 20, .inl g3)), (kF, .inl (cI, 20, .inl g4)), (k0, .inr (9, [.ref kN, .ref kA, .ref kO, .ref kK, .ref kV, .ref kG, .ref kP, .ref kC, .ref kD, .ref kE, .ref kF, .ref kX, .ref kY, .int 0, .ref kT, .ref kU, .int 0, .int 0, .int 0])), (kN, .inl (cI, 2, .inl (fun _ => 0)))] _ := hP
  have hD : va_D A [(kA, .inl (cI, 2, .inl (fun _ => 0))), (kC, .inl (cI, 20, .inl g1)), (kD, .inl (cI, 20, .inl g2)), (kE, .inl (cI, 20, .inl g3)), (kF, .inl (cI, 20, .inl g4)), (k0, .inr (9, [.ref kN, .ref kA, .ref kO, .ref kK, .ref kV, .ref kG, .ref kP, .ref kC, .ref kD, .ref kE, .ref kF, .ref kX, .ref kY, .int 0, .ref kT, .ref kU, .int 0, .int 0, .int 0])), (kN, .inl (cI, 2, .inl (fun _ => 0)))] := hD
  refine lv_aload_n hx hb dX6_isMatchedByTrying_16 rfl (lv_at hl 0 rfl) ?_
  refine va_get (D := (dC, dI)) (ci := 9) (v := .int 0) (C := RX6) (T := TX6) (N := 19) hx hb hts (fun w h => List.mem_cons_of_mem _ (List.mem_append_left _ (List.mem_append_right _ (h)))) hown hK hP 5 rfl rfl 16 (by decide) (hts (.fieldLink RX6 57 "NetcompareModel" "thrown" "I") (List.mem_cons_of_mem _ (List.mem_append_left _ (List.mem_append_left _ (List.mem_append_left _ (List.mem_of_getElem? (i := 0) rfl)))))) (fun _ h9 => h9) rfl dX6_isMatchedByTrying_17 ?_
  refine lv_if_ne (tgt := 34) hx hb dX6_isMatchedByTrying_20 (by decide) (fun h9 => absurd (by decide) h9) (fun _ => ?_)
  refine lv_aload_n hx hb dX6_isMatchedByTrying_23 rfl (lv_at hl 0 rfl) ?_
  have hPc := hP.sub (ws' := [(k0, .inr (9, [.ref kN, .ref kA, .ref kO, .ref kK, .ref kV, .ref kG, .ref kP, .ref kC, .ref kD, .ref kE, .ref kF, .ref kX, .ref kY, .int 0, .ref kT, .ref kU, .int 0, .int 0, .int 0])), (kN, .inl (cI, 2, .inl (fun _ => 0))), (kA, .inl (cI, 2, .inl (fun _ => 0))), (kC, .inl (cI, 20, .inl g1)), (kD, .inl (cI, 20, .inl g2)), (kE, .inl (cI, 20, .inl g3)), (kF, .inl (cI, 20, .inl g4))]) [5, 6, 0, 1, 2, 3, 4] rfl
  have hDc := hD.sub (ws' := [(k0, .inr (9, [.ref kN, .ref kA, .ref kO, .ref kK, .ref kV, .ref kG, .ref kP, .ref kC, .ref kD, .ref kE, .ref kF, .ref kX, .ref kY, .int 0, .ref kT, .ref kU, .int 0, .int 0, .int 0])), (kN, .inl (cI, 2, .inl (fun _ => 0))), (kA, .inl (cI, 2, .inl (fun _ => 0))), (kC, .inl (cI, 20, .inl g1)), (kD, .inl (cI, 20, .inl g2)), (kE, .inl (cI, 20, .inl g3)), (kF, .inl (cI, 20, .inl g4))]) [5, 6, 0, 1, 2, 3, 4] (by decide) rfl
  have hKc := hK.sub (tys' := [(cI, .int)]) [0] rfl
  have hFc := va_free (wc := [(k0, .inr (9, [.ref kN, .ref kA, .ref kO, .ref kK, .ref kV, .ref kG, .ref kP, .ref kC, .ref kD, .ref kE, .ref kF, .ref kX, .ref kY, .int 0, .ref kT, .ref kU, .int 0, .int 0, .int 0])), (kN, .inl (cI, 2, .inl (fun _ => 0))), (kA, .inl (cI, 2, .inl (fun _ => 0))), (kC, .inl (cI, 20, .inl g1)), (kD, .inl (cI, 20, .inl g2)), (kE, .inl (cI, 20, .inl g3)), (kF, .inl (cI, 20, .inl g4))]) hD hS hA [5, 6, 0, 1, 2, 3, 4] rfl
  refine va_calli (va_runV (As := []) (rest := []) ⟨hx, hb, hml, hown, hts⟩ (kX6_matches l dC dI k0 kN kA kO kK kV kG kP kC kD kE kF kX kY kT kU cI g1 g2 g3 g4 H.size) (cwV 0 hts gX6_isMatchedByTrying_X6_matches rfl rfl rfl (by decide +kernel) ⟨Nat.le_of_ble_eq_true rfl, Nat.le_of_ble_eq_true rfl⟩) (fPreV hN hZ hS (fun q h => hFc q h) hPc hKc hDc (ci := 9) (q0 := 0) rfl rfl) rfl rfl hl.1 rfl (lv_room (Nat.le_of_ble_eq_true rfl)) dX6_isMatchedByTrying_24 ⟨Nat.le_of_ble_eq_true rfl, Nat.le_of_ble_eq_true rfl⟩) hS (fun q _ h => hFc q h) hFc (fun r u t H1 locs ht hvm hw hB hz1 hk1 hS => ?_)
  obtain ⟨hP1, hK1, hD1⟩ := hB
  rw [ht] at hP1
  have hK1 := va_K.moved hvm.symm hK1
  obtain ⟨hP, hD⟩ := va_join (wr := []) (w1 := [(k0, .inr (9, [.ref kN, .ref kA, .ref kO, .ref kK, .ref kV, .ref kG, .ref kP, .ref kC, .ref kD, .ref kE, .ref kF, .ref kX, .ref kY, .int 0, .ref kT, .ref kU, .int 0, .int 0, .int 0]))]) hP hD [5, 6, 0, 1, 2, 3, 4] [] rfl rfl (by decide) (by decide) hk1 hFc hP1 hD1
  generalize H1 = H at hP hS ⊢
  have hP : va_P (dC, dI) vwCl [(k0, .inr (9, [.ref kN, .ref kA, .ref kO, .ref kK, .ref kV, .ref kG, .ref kP, .ref kC, .ref kD, .ref kE, .ref kF, .ref kX, .ref kY, .int 0, .ref kT, .ref kU, .int 0, .int 0, .int 0]))] _ := hP
  have hD : va_D A [(k0, .inr (9, [.ref kN, .ref kA, .ref kO, .ref kK, .ref kV, .ref kG, .ref kP, .ref kC, .ref kD, .ref kE, .ref kF, .ref kX, .ref kY, .int 0, .ref kT, .ref kU, .int 0, .int 0, .int 0]))] := hD
  refine W.widen (k := 3) (n := 50) (Nat.le_of_ble_eq_true rfl) (Nat.le_of_ble_eq_true rfl) ?_
  subst hw
  refine lv_if_eq (tgt := 34) hx hb dX6_isMatchedByTrying_27 (by decide) (fun h9 => absurd h9 (by decide)) (fun _ => ?_)
  refine lv_iconst (v := 1) hx hb dX6_isMatchedByTrying_30 (by decide) ?_
  refine lv_goto (tgt := 35) hx hb dX6_isMatchedByTrying_31 (by decide) ?_
  exact ret _ 0 _ _ _ _ _ _ (by decide) (⟨rfl, rfl⟩) (hP.sub [0] rfl) (hK.sub [] rfl) (hD.sub [0] (by decide) rfl) hS (Nat.le_of_ble_eq_true rfl) (Nat.le_of_ble_eq_true rfl) dX6_isMatchedByTrying_35

set_option maxHeartbeats 4000000 in
set_option maxRecDepth 100000 in
/-- the model: matchedNet on a fresh one -/
theorem kX6_matchedNet (l : Launch) (dC : Nat → ClassId) (dI : Nat → Nat → Nat) (k0 kN kA kO kK kV kG kP kC kD kE kF kX kY kT kU : Nat) (cI : ClassId) (p0 : Int32) (sz : Nat) : fMi l yX6_matchedNet wsX6_matchedNet ({ frames := 2, cells := 0, slots := 0, locals := 47 } : Room) dC dI [.ref k0, .int p0] [(k0, .inr (9, [.ref kN, .ref kA, .ref kO, .ref kK, .ref kV, .ref kG, .ref kP, .ref kC, .ref kD, .ref kE, .ref kF, .ref kX, .ref kY, .int 0, .ref kT, .ref kU, .int 0, .int 0, .int 0])), (kN, .inl (cI, 2, .inl (fun _ => 0))), (kA, .inl (cI, 2, .inl (fun _ => 0)))] [(cI, .int)] sz (fun (r : Int32) (u : Int32) => u = 1) (fun u => [(k0, .inr (9, [.ref kN, .ref kA, .ref kO, .ref kK, .ref kV, .ref kG, .ref kP, .ref kC, .ref kD, .ref kE, .ref kF, .ref kX, .ref kY, .int 0, .ref kT, .ref kU, .int u, .int 0, .int 0]))]) (fun u => []) := by
  refine oP_i (y := yX6_matchedNet) (cc := cX6_matchedNet) (maxL := 2) (by decide) rfl (Nat.le_of_ble_eq_true rfl) ?_
  intro p e s m args below meth c ls A Q hx hb hr hml hown hts hN hZ hA hin hlk hP hK hD hl ret
  have hS : va_S A s.heap s.heap [] := va_S.rf
  have hl : lv_has ls 2 [(0, .ref k0), (1, .int p0)] := hl
  have hP : va_P (dC, dI) vwCl [(k0, .inr (9, [.ref kN, .ref kA, .ref kO, .ref kK, .ref kV, .ref kG, .ref kP, .ref kC, .ref kD, .ref kE, .ref kF, .ref kX, .ref kY, .int 0, .ref kT, .ref kU, .int 0, .int 0, .int 0])), (kN, .inl (cI, 2, .inl (fun _ => 0))), (kA, .inl (cI, 2, .inl (fun _ => 0)))] _ := hP
  have hD : va_D A [(k0, .inr (9, [.ref kN, .ref kA, .ref kO, .ref kK, .ref kV, .ref kG, .ref kP, .ref kC, .ref kD, .ref kE, .ref kF, .ref kX, .ref kY, .int 0, .ref kT, .ref kU, .int 0, .int 0, .int 0])), (kN, .inl (cI, 2, .inl (fun _ => 0))), (kA, .inl (cI, 2, .inl (fun _ => 0)))] := hD
  refine lv_aload_n hx hb dX6_matchedNet_0 rfl (lv_at hl 0 rfl) ?_
  refine lv_aload_n hx hb dX6_matchedNet_1 rfl (lv_at hl 0 rfl) ?_
  refine lv_iconst (v := 0) hx hb dX6_matchedNet_2 (by decide) ?_
  refine lv_iload_n hx hb dX6_matchedNet_3 rfl (lv_at hl 1 rfl) ?_
  have hPc := hP.sub (ws' := [(k0, .inr (9, [.ref kN, .ref kA, .ref kO, .ref kK, .ref kV, .ref kG, .ref kP, .ref kC, .ref kD, .ref kE, .ref kF, .ref kX, .ref kY, .int 0, .ref kT, .ref kU, .int 0, .int 0, .int 0])), (kN, .inl (cI, 2, .inl (fun _ => 0)))]) [0, 1] rfl
  have hDc := hD.sub (ws' := [(k0, .inr (9, [.ref kN, .ref kA, .ref kO, .ref kK, .ref kV, .ref kG, .ref kP, .ref kC, .ref kD, .ref kE, .ref kF, .ref kX, .ref kY, .int 0, .ref kT, .ref kU, .int 0, .int 0, .int 0])), (kN, .inl (cI, 2, .inl (fun _ => 0)))]) [0, 1] (by decide) rfl
  have hKc := hK.sub (tys' := [(cI, .int)]) [0] rfl
  have hFc := va_free (wc := [(k0, .inr (9, [.ref kN, .ref kA, .ref kO, .ref kK, .ref kV, .ref kG, .ref kP, .ref kC, .ref kD, .ref kE, .ref kF, .ref kX, .ref kY, .int 0, .ref kT, .ref kU, .int 0, .int 0, .int 0])), (kN, .inl (cI, 2, .inl (fun _ => 0)))]) hD hS hA [0, 1] rfl
  refine va_calli (va_runV (As := [.int 0, .int p0]) (rest := [.ref k0]) ⟨hx, hb, hml, hown, hts⟩ (kX6_isNet0 l dC dI k0 kN kA kO kK kV kG kP kC kD kE kF kX kY kT kU cI p0 s.heap.size) (cwV 2 hts gX6_matchedNet_X6_isNet rfl rfl rfl (by decide +kernel) ⟨Nat.le_of_ble_eq_true rfl, Nat.le_of_ble_eq_true rfl⟩) (fPreV hN hZ hS (fun q h => hFc q h) hPc hKc hDc (ci := 9) (q0 := 0) rfl rfl) rfl rfl hl.1 rfl (lv_room (Nat.le_of_ble_eq_true rfl)) dX6_matchedNet_4 ⟨Nat.le_of_ble_eq_true rfl, Nat.le_of_ble_eq_true rfl⟩) hS (fun q _ h => hFc q h) hFc (fun r u t H1 locs ht hvm hw hB hz1 hk1 hS => ?_)
  obtain ⟨hP1, hK1, hD1⟩ := hB
  rw [ht] at hP1
  have hK1 := va_K.moved hvm.symm hK1
  obtain ⟨hP, hD⟩ := va_join (wr := [(kA, .inl (cI, 2, .inl (fun _ => 0)))]) (w1 := [(k0, .inr (9, [.ref kN, .ref kA, .ref kO, .ref kK, .ref kV, .ref kG, .ref kP, .ref kC, .ref kD, .ref kE, .ref kF, .ref kX, .ref kY, .int 0, .ref kT, .ref kU, .int 0, .int 0, .int 0])), (kN, .inl (cI, 2, .inl (fun _ => 0)))]) hP hD [0, 1] [2] rfl rfl (by decide) (by decide) hk1 hFc hP1 hD1
  generalize H1 = H at hP hS ⊢
  have hP : va_P (dC, dI) vwCl [(kA, .inl (cI, 2, .inl (fun _ => 0))), (k0, .inr (9, [.ref kN, .ref kA, .ref kO, .ref kK, .ref kV, .ref kG, .ref kP, .ref kC, .ref kD, .ref kE, .ref kF, .ref kX, .ref kY, .int 0, .ref kT, .ref kU, .int 0, .int 0, .int 0])), (kN, .inl (cI, 2, .inl (fun _ => 0)))] _ := hP
  have hD : va_D A [(kA, .inl (cI, 2, .inl (fun _ => 0))), (k0, .inr (9, [.ref kN, .ref kA, .ref kO, .ref kK, .ref kV, .ref kG, .ref kP, .ref kC, .ref kD, .ref kE, .ref kF, .ref kX, .ref kY, .int 0, .ref kT, .ref kU, .int 0, .int 0, .int 0])), (kN, .inl (cI, 2, .inl (fun _ => 0)))] := hD
  subst hw
  refine lv_if_ne (tgt := 14) hx hb dX6_matchedNet_7 (by decide) (fun h9 => absurd (by decide) h9) (fun _ => ?_)
  refine lv_iconst (v := 1) hx hb dX6_matchedNet_10 (by decide) ?_
  refine lv_goto (tgt := 26) hx hb dX6_matchedNet_11 (by decide) ?_
  refine va_put (D := (dC, dI)) (ci := 9) (v := .int 1) (ty := .int) (C := RX6) (T := TX6) (N := 19) hx hb hts (fun w h => List.mem_cons_of_mem _ (List.mem_append_left _ (List.mem_append_right _ (h)))) tyX6 tyX6_ok nmX6 hown hK hP hD hS 1 rfl rfl 16 (by decide) (hts (.fieldLink RX6 57 "NetcompareModel" "thrown" "I") (List.mem_cons_of_mem _ (List.mem_append_left _ (List.mem_append_left _ (List.mem_append_left _ (List.mem_of_getElem? (i := 0) rfl)))))) (fun _ h9 => h9) rfl (by decide +kernel) rfl rfl (Nat.le_of_ble_eq_true rfl) dX6_matchedNet_26 (fun H locs hP hD hS => ?_)
  have hP : va_P (dC, dI) vwCl [(kA, .inl (cI, 2, .inl (fun _ => 0))), (k0, .inr (9, [.ref kN, .ref kA, .ref kO, .ref kK, .ref kV, .ref kG, .ref kP, .ref kC, .ref kD, .ref kE, .ref kF, .ref kX, .ref kY, .int 0, .ref kT, .ref kU, .int 1, .int 0, .int 0])), (kN, .inl (cI, 2, .inl (fun _ => 0)))] _ := hP
  have hD : va_D A [(kA, .inl (cI, 2, .inl (fun _ => 0))), (k0, .inr (9, [.ref kN, .ref kA, .ref kO, .ref kK, .ref kV, .ref kG, .ref kP, .ref kC, .ref kD, .ref kE, .ref kF, .ref kX, .ref kY, .int 0, .ref kT, .ref kU, .int 1, .int 0, .int 0])), (kN, .inl (cI, 2, .inl (fun _ => 0)))] := hD
  refine lv_aload_n hx hb dX6_matchedNet_29 rfl (lv_at hl 0 rfl) ?_
  refine va_get (D := (dC, dI)) (ci := 9) (v := .int 1) (C := RX6) (T := TX6) (N := 19) hx hb hts (fun w h => List.mem_cons_of_mem _ (List.mem_append_left _ (List.mem_append_right _ (h)))) hown hK hP 1 rfl rfl 16 (by decide) (hts (.fieldLink RX6 57 "NetcompareModel" "thrown" "I") (List.mem_cons_of_mem _ (List.mem_append_left _ (List.mem_append_left _ (List.mem_append_left _ (List.mem_of_getElem? (i := 0) rfl)))))) (fun _ h9 => h9) rfl dX6_matchedNet_30 ?_
  refine lv_if_ne (tgt := 45) hx hb dX6_matchedNet_33 (by decide) (fun _ => ?_) (fun h9 => absurd h9 (by decide))
  refine lv_iconst (v := (-1)) hx hb dX6_matchedNet_45 (by decide) ?_
  exact ret _ 1 _ _ _ _ _ _ (rfl) (hP.sub [1] rfl) (hK.sub [] rfl) (hD.sub [1] (by decide) rfl) hS (Nat.le_of_ble_eq_true rfl) (Nat.le_of_ble_eq_true rfl) dX6_matchedNet_46

set_option maxHeartbeats 4000000 in
set_option maxRecDepth 100000 in
/-- the model: netByTrying on a fresh one -/
theorem kX6_netByTrying (l : Launch) (dC : Nat → ClassId) (dI : Nat → Nat → Nat) (k0 kN kA kO kK kV kG kP kC kD kE kF kX kY kT kU : Nat) (cI : ClassId) (p0 : Int32) (sz : Nat) : fMi l yX6_netByTrying wsX6_netByTrying ({ frames := 2, cells := 0, slots := 0, locals := 47 } : Room) dC dI [.ref k0, .int p0] [(k0, .inr (9, [.ref kN, .ref kA, .ref kO, .ref kK, .ref kV, .ref kG, .ref kP, .ref kC, .ref kD, .ref kE, .ref kF, .ref kX, .ref kY, .int 0, .ref kT, .ref kU, .int 0, .int 0, .int 0])), (kN, .inl (cI, 2, .inl (fun _ => 0))), (kA, .inl (cI, 2, .inl (fun _ => 0)))] [(cI, .int)] sz (fun (r : Int32) (u : Int32) => u = 1) (fun u => [(k0, .inr (9, [.ref kN, .ref kA, .ref kO, .ref kK, .ref kV, .ref kG, .ref kP, .ref kC, .ref kD, .ref kE, .ref kF, .ref kX, .ref kY, .int 0, .ref kT, .ref kU, .int u, .int 0, .int 0]))]) (fun u => []) := by
  refine oP_i (y := yX6_netByTrying) (cc := cX6_netByTrying) (maxL := 2) (by decide) rfl (Nat.le_of_ble_eq_true rfl) ?_
  intro p e s m args below meth c ls A Q hx hb hr hml hown hts hN hZ hA hin hlk hP hK hD hl ret
  have hS : va_S A s.heap s.heap [] := va_S.rf
  have hl : lv_has ls 2 [(0, .ref k0), (1, .int p0)] := hl
  have hP : va_P (dC, dI) vwCl [(k0, .inr (9, [.ref kN, .ref kA, .ref kO, .ref kK, .ref kV, .ref kG, .ref kP, .ref kC, .ref kD, .ref kE, .ref kF, .ref kX, .ref kY, .int 0, .ref kT, .ref kU, .int 0, .int 0, .int 0])), (kN, .inl (cI, 2, .inl (fun _ => 0))), (kA, .inl (cI, 2, .inl (fun _ => 0)))] _ := hP
  have hD : va_D A [(k0, .inr (9, [.ref kN, .ref kA, .ref kO, .ref kK, .ref kV, .ref kG, .ref kP, .ref kC, .ref kD, .ref kE, .ref kF, .ref kX, .ref kY, .int 0, .ref kT, .ref kU, .int 0, .int 0, .int 0])), (kN, .inl (cI, 2, .inl (fun _ => 0))), (kA, .inl (cI, 2, .inl (fun _ => 0)))] := hD
  refine lv_aload_n hx hb dX6_netByTrying_0 rfl (lv_at hl 0 rfl) ?_
  refine lv_aload_n hx hb dX6_netByTrying_1 rfl (lv_at hl 0 rfl) ?_
  refine lv_iconst (v := 0) hx hb dX6_netByTrying_2 (by decide) ?_
  refine lv_iload_n hx hb dX6_netByTrying_3 rfl (lv_at hl 1 rfl) ?_
  have hPc := hP.sub (ws' := [(k0, .inr (9, [.ref kN, .ref kA, .ref kO, .ref kK, .ref kV, .ref kG, .ref kP, .ref kC, .ref kD, .ref kE, .ref kF, .ref kX, .ref kY, .int 0, .ref kT, .ref kU, .int 0, .int 0, .int 0])), (kN, .inl (cI, 2, .inl (fun _ => 0)))]) [0, 1] rfl
  have hDc := hD.sub (ws' := [(k0, .inr (9, [.ref kN, .ref kA, .ref kO, .ref kK, .ref kV, .ref kG, .ref kP, .ref kC, .ref kD, .ref kE, .ref kF, .ref kX, .ref kY, .int 0, .ref kT, .ref kU, .int 0, .int 0, .int 0])), (kN, .inl (cI, 2, .inl (fun _ => 0)))]) [0, 1] (by decide) rfl
  have hKc := hK.sub (tys' := [(cI, .int)]) [0] rfl
  have hFc := va_free (wc := [(k0, .inr (9, [.ref kN, .ref kA, .ref kO, .ref kK, .ref kV, .ref kG, .ref kP, .ref kC, .ref kD, .ref kE, .ref kF, .ref kX, .ref kY, .int 0, .ref kT, .ref kU, .int 0, .int 0, .int 0])), (kN, .inl (cI, 2, .inl (fun _ => 0)))]) hD hS hA [0, 1] rfl
  refine va_calli (va_runV (As := [.int 0, .int p0]) (rest := [.ref k0]) ⟨hx, hb, hml, hown, hts⟩ (kX6_isNet0 l dC dI k0 kN kA kO kK kV kG kP kC kD kE kF kX kY kT kU cI p0 s.heap.size) (cwV 2 hts gX6_netByTrying_X6_isNet rfl rfl rfl (by decide +kernel) ⟨Nat.le_of_ble_eq_true rfl, Nat.le_of_ble_eq_true rfl⟩) (fPreV hN hZ hS (fun q h => hFc q h) hPc hKc hDc (ci := 9) (q0 := 0) rfl rfl) rfl rfl hl.1 rfl (lv_room (Nat.le_of_ble_eq_true rfl)) dX6_netByTrying_4 ⟨Nat.le_of_ble_eq_true rfl, Nat.le_of_ble_eq_true rfl⟩) hS (fun q _ h => hFc q h) hFc (fun r u t H1 locs ht hvm hw hB hz1 hk1 hS => ?_)
  obtain ⟨hP1, hK1, hD1⟩ := hB
  rw [ht] at hP1
  have hK1 := va_K.moved hvm.symm hK1
  obtain ⟨hP, hD⟩ := va_join (wr := [(kA, .inl (cI, 2, .inl (fun _ => 0)))]) (w1 := [(k0, .inr (9, [.ref kN, .ref kA, .ref kO, .ref kK, .ref kV, .ref kG, .ref kP, .ref kC, .ref kD, .ref kE, .ref kF, .ref kX, .ref kY, .int 0, .ref kT, .ref kU, .int 0, .int 0, .int 0])), (kN, .inl (cI, 2, .inl (fun _ => 0)))]) hP hD [0, 1] [2] rfl rfl (by decide) (by decide) hk1 hFc hP1 hD1
  generalize H1 = H at hP hS ⊢
  have hP : va_P (dC, dI) vwCl [(kA, .inl (cI, 2, .inl (fun _ => 0))), (k0, .inr (9, [.ref kN, .ref kA, .ref kO, .ref kK, .ref kV, .ref kG, .ref kP, .ref kC, .ref kD, .ref kE, .ref kF, .ref kX, .ref kY, .int 0, .ref kT, .ref kU, .int 0, .int 0, .int 0])), (kN, .inl (cI, 2, .inl (fun _ => 0)))] _ := hP
  have hD : va_D A [(kA, .inl (cI, 2, .inl (fun _ => 0))), (k0, .inr (9, [.ref kN, .ref kA, .ref kO, .ref kK, .ref kV, .ref kG, .ref kP, .ref kC, .ref kD, .ref kE, .ref kF, .ref kX, .ref kY, .int 0, .ref kT, .ref kU, .int 0, .int 0, .int 0])), (kN, .inl (cI, 2, .inl (fun _ => 0)))] := hD
  subst hw
  refine lv_if_ne (tgt := 14) hx hb dX6_netByTrying_7 (by decide) (fun h9 => absurd (by decide) h9) (fun _ => ?_)
  refine lv_iconst (v := 1) hx hb dX6_netByTrying_10 (by decide) ?_
  refine lv_goto (tgt := 37) hx hb dX6_netByTrying_11 (by decide) ?_
  refine va_put (D := (dC, dI)) (ci := 9) (v := .int 1) (ty := .int) (C := RX6) (T := TX6) (N := 19) hx hb hts (fun w h => List.mem_cons_of_mem _ (List.mem_append_left _ (List.mem_append_right _ (h)))) tyX6 tyX6_ok nmX6 hown hK hP hD hS 1 rfl rfl 16 (by decide) (hts (.fieldLink RX6 57 "NetcompareModel" "thrown" "I") (List.mem_cons_of_mem _ (List.mem_append_left _ (List.mem_append_left _ (List.mem_append_left _ (List.mem_of_getElem? (i := 0) rfl)))))) (fun _ h9 => h9) rfl (by decide +kernel) rfl rfl (Nat.le_of_ble_eq_true rfl) dX6_netByTrying_37 (fun H locs hP hD hS => ?_)
  have hP : va_P (dC, dI) vwCl [(kA, .inl (cI, 2, .inl (fun _ => 0))), (k0, .inr (9, [.ref kN, .ref kA, .ref kO, .ref kK, .ref kV, .ref kG, .ref kP, .ref kC, .ref kD, .ref kE, .ref kF, .ref kX, .ref kY, .int 0, .ref kT, .ref kU, .int 1, .int 0, .int 0])), (kN, .inl (cI, 2, .inl (fun _ => 0)))] _ := hP
  have hD : va_D A [(kA, .inl (cI, 2, .inl (fun _ => 0))), (k0, .inr (9, [.ref kN, .ref kA, .ref kO, .ref kK, .ref kV, .ref kG, .ref kP, .ref kC, .ref kD, .ref kE, .ref kF, .ref kX, .ref kY, .int 0, .ref kT, .ref kU, .int 1, .int 0, .int 0])), (kN, .inl (cI, 2, .inl (fun _ => 0)))] := hD
  refine lv_aload_n hx hb dX6_netByTrying_40 rfl (lv_at hl 0 rfl) ?_
  refine va_get (D := (dC, dI)) (ci := 9) (v := .int 1) (C := RX6) (T := TX6) (N := 19) hx hb hts (fun w h => List.mem_cons_of_mem _ (List.mem_append_left _ (List.mem_append_right _ (h)))) hown hK hP 1 rfl rfl 16 (by decide) (hts (.fieldLink RX6 57 "NetcompareModel" "thrown" "I") (List.mem_cons_of_mem _ (List.mem_append_left _ (List.mem_append_left _ (List.mem_append_left _ (List.mem_of_getElem? (i := 0) rfl)))))) (fun _ h9 => h9) rfl dX6_netByTrying_41 ?_
  refine lv_if_ne (tgt := 56) hx hb dX6_netByTrying_44 (by decide) (fun _ => ?_) (fun h9 => absurd h9 (by decide))
  refine lv_iconst (v := (-1)) hx hb dX6_netByTrying_56 (by decide) ?_
  exact ret _ 1 _ _ _ _ _ _ (rfl) (hP.sub [1] rfl) (hK.sub [] rfl) (hD.sub [1] (by decide) rfl) hS (Nat.le_of_ble_eq_true rfl) (Nat.le_of_ble_eq_true rfl) dX6_netByTrying_57

set_option maxHeartbeats 4000000 in
set_option maxRecDepth 100000 in
/-- the model: matchedPart on a fresh one -/
theorem kX6_matchedPart (l : Launch) (dC : Nat → ClassId) (dI : Nat → Nat → Nat) (k0 kN kA kO kK kV kG kP kC kD kE kF kX kY kT kU : Nat) (cI : ClassId) (p0 : Int32) (sz : Nat) : fMi l yX6_matchedPart wsX6_matchedPart ({ frames := 2, cells := 0, slots := 0, locals := 47 } : Room) dC dI [.ref k0, .int p0] [(k0, .inr (9, [.ref kN, .ref kA, .ref kO, .ref kK, .ref kV, .ref kG, .ref kP, .ref kC, .ref kD, .ref kE, .ref kF, .ref kX, .ref kY, .int 0, .ref kT, .ref kU, .int 0, .int 0, .int 0])), (kN, .inl (cI, 2, .inl (fun _ => 0))), (kA, .inl (cI, 2, .inl (fun _ => 0)))] [(cI, .int)] sz (fun (r : Int32) (u : Int32) => u = 1) (fun u => [(k0, .inr (9, [.ref kN, .ref kA, .ref kO, .ref kK, .ref kV, .ref kG, .ref kP, .ref kC, .ref kD, .ref kE, .ref kF, .ref kX, .ref kY, .int 0, .ref kT, .ref kU, .int u, .int 0, .int 0]))]) (fun u => []) := by
  refine oP_i (y := yX6_matchedPart) (cc := cX6_matchedPart) (maxL := 2) (by decide) rfl (Nat.le_of_ble_eq_true rfl) ?_
  intro p e s m args below meth c ls A Q hx hb hr hml hown hts hN hZ hA hin hlk hP hK hD hl ret
  have hS : va_S A s.heap s.heap [] := va_S.rf
  have hl : lv_has ls 2 [(0, .ref k0), (1, .int p0)] := hl
  have hP : va_P (dC, dI) vwCl [(k0, .inr (9, [.ref kN, .ref kA, .ref kO, .ref kK, .ref kV, .ref kG, .ref kP, .ref kC, .ref kD, .ref kE, .ref kF, .ref kX, .ref kY, .int 0, .ref kT, .ref kU, .int 0, .int 0, .int 0])), (kN, .inl (cI, 2, .inl (fun _ => 0))), (kA, .inl (cI, 2, .inl (fun _ => 0)))] _ := hP
  have hD : va_D A [(k0, .inr (9, [.ref kN, .ref kA, .ref kO, .ref kK, .ref kV, .ref kG, .ref kP, .ref kC, .ref kD, .ref kE, .ref kF, .ref kX, .ref kY, .int 0, .ref kT, .ref kU, .int 0, .int 0, .int 0])), (kN, .inl (cI, 2, .inl (fun _ => 0))), (kA, .inl (cI, 2, .inl (fun _ => 0)))] := hD
  refine lv_aload_n hx hb dX6_matchedPart_0 rfl (lv_at hl 0 rfl) ?_
  refine lv_aload_n hx hb dX6_matchedPart_1 rfl (lv_at hl 0 rfl) ?_
  refine lv_iconst (v := 0) hx hb dX6_matchedPart_2 (by decide) ?_
  refine lv_iload_n hx hb dX6_matchedPart_3 rfl (lv_at hl 1 rfl) ?_
  have hPc := hP.sub (ws' := [(k0, .inr (9, [.ref kN, .ref kA, .ref kO, .ref kK, .ref kV, .ref kG, .ref kP, .ref kC, .ref kD, .ref kE, .ref kF, .ref kX, .ref kY, .int 0, .ref kT, .ref kU, .int 0, .int 0, .int 0])), (kA, .inl (cI, 2, .inl (fun _ => 0)))]) [0, 2] rfl
  have hDc := hD.sub (ws' := [(k0, .inr (9, [.ref kN, .ref kA, .ref kO, .ref kK, .ref kV, .ref kG, .ref kP, .ref kC, .ref kD, .ref kE, .ref kF, .ref kX, .ref kY, .int 0, .ref kT, .ref kU, .int 0, .int 0, .int 0])), (kA, .inl (cI, 2, .inl (fun _ => 0)))]) [0, 2] (by decide) rfl
  have hKc := hK.sub (tys' := [(cI, .int)]) [0] rfl
  have hFc := va_free (wc := [(k0, .inr (9, [.ref kN, .ref kA, .ref kO, .ref kK, .ref kV, .ref kG, .ref kP, .ref kC, .ref kD, .ref kE, .ref kF, .ref kX, .ref kY, .int 0, .ref kT, .ref kU, .int 0, .int 0, .int 0])), (kA, .inl (cI, 2, .inl (fun _ => 0)))]) hD hS hA [0, 2] rfl
  refine va_calli (va_runV (As := [.int 0, .int p0]) (rest := [.ref k0]) ⟨hx, hb, hml, hown, hts⟩ (kX6_isPart0 l dC dI k0 kN kA kO kK kV kG kP kC kD kE kF kX kY kT kU cI p0 s.heap.size) (cwV 2 hts gX6_matchedPart_X6_isPart rfl rfl rfl (by decide +kernel) ⟨Nat.le_of_ble_eq_true rfl, Nat.le_of_ble_eq_true rfl⟩) (fPreV hN hZ hS (fun q h => hFc q h) hPc hKc hDc (ci := 9) (q0 := 0) rfl rfl) rfl rfl hl.1 rfl (lv_room (Nat.le_of_ble_eq_true rfl)) dX6_matchedPart_4 ⟨Nat.le_of_ble_eq_true rfl, Nat.le_of_ble_eq_true rfl⟩) hS (fun q _ h => hFc q h) hFc (fun r u t H1 locs ht hvm hw hB hz1 hk1 hS => ?_)
  obtain ⟨hP1, hK1, hD1⟩ := hB
  rw [ht] at hP1
  have hK1 := va_K.moved hvm.symm hK1
  obtain ⟨hP, hD⟩ := va_join (wr := [(kN, .inl (cI, 2, .inl (fun _ => 0)))]) (w1 := [(k0, .inr (9, [.ref kN, .ref kA, .ref kO, .ref kK, .ref kV, .ref kG, .ref kP, .ref kC, .ref kD, .ref kE, .ref kF, .ref kX, .ref kY, .int 0, .ref kT, .ref kU, .int 0, .int 0, .int 0])), (kA, .inl (cI, 2, .inl (fun _ => 0)))]) hP hD [0, 2] [1] rfl rfl (by decide) (by decide) hk1 hFc hP1 hD1
  generalize H1 = H at hP hS ⊢
  have hP : va_P (dC, dI) vwCl [(kN, .inl (cI, 2, .inl (fun _ => 0))), (k0, .inr (9, [.ref kN, .ref kA, .ref kO, .ref kK, .ref kV, .ref kG, .ref kP, .ref kC, .ref kD, .ref kE, .ref kF, .ref kX, .ref kY, .int 0, .ref kT, .ref kU, .int 0, .int 0, .int 0])), (kA, .inl (cI, 2, .inl (fun _ => 0)))] _ := hP
  have hD : va_D A [(kN, .inl (cI, 2, .inl (fun _ => 0))), (k0, .inr (9, [.ref kN, .ref kA, .ref kO, .ref kK, .ref kV, .ref kG, .ref kP, .ref kC, .ref kD, .ref kE, .ref kF, .ref kX, .ref kY, .int 0, .ref kT, .ref kU, .int 0, .int 0, .int 0])), (kA, .inl (cI, 2, .inl (fun _ => 0)))] := hD
  subst hw
  refine lv_if_ne (tgt := 14) hx hb dX6_matchedPart_7 (by decide) (fun h9 => absurd (by decide) h9) (fun _ => ?_)
  refine lv_iconst (v := 1) hx hb dX6_matchedPart_10 (by decide) ?_
  refine lv_goto (tgt := 26) hx hb dX6_matchedPart_11 (by decide) ?_
  refine va_put (D := (dC, dI)) (ci := 9) (v := .int 1) (ty := .int) (C := RX6) (T := TX6) (N := 19) hx hb hts (fun w h => List.mem_cons_of_mem _ (List.mem_append_left _ (List.mem_append_right _ (h)))) tyX6 tyX6_ok nmX6 hown hK hP hD hS 1 rfl rfl 16 (by decide) (hts (.fieldLink RX6 57 "NetcompareModel" "thrown" "I") (List.mem_cons_of_mem _ (List.mem_append_left _ (List.mem_append_left _ (List.mem_append_left _ (List.mem_of_getElem? (i := 0) rfl)))))) (fun _ h9 => h9) rfl (by decide +kernel) rfl rfl (Nat.le_of_ble_eq_true rfl) dX6_matchedPart_26 (fun H locs hP hD hS => ?_)
  have hP : va_P (dC, dI) vwCl [(kN, .inl (cI, 2, .inl (fun _ => 0))), (k0, .inr (9, [.ref kN, .ref kA, .ref kO, .ref kK, .ref kV, .ref kG, .ref kP, .ref kC, .ref kD, .ref kE, .ref kF, .ref kX, .ref kY, .int 0, .ref kT, .ref kU, .int 1, .int 0, .int 0])), (kA, .inl (cI, 2, .inl (fun _ => 0)))] _ := hP
  have hD : va_D A [(kN, .inl (cI, 2, .inl (fun _ => 0))), (k0, .inr (9, [.ref kN, .ref kA, .ref kO, .ref kK, .ref kV, .ref kG, .ref kP, .ref kC, .ref kD, .ref kE, .ref kF, .ref kX, .ref kY, .int 0, .ref kT, .ref kU, .int 1, .int 0, .int 0])), (kA, .inl (cI, 2, .inl (fun _ => 0)))] := hD
  refine lv_aload_n hx hb dX6_matchedPart_29 rfl (lv_at hl 0 rfl) ?_
  refine va_get (D := (dC, dI)) (ci := 9) (v := .int 1) (C := RX6) (T := TX6) (N := 19) hx hb hts (fun w h => List.mem_cons_of_mem _ (List.mem_append_left _ (List.mem_append_right _ (h)))) hown hK hP 1 rfl rfl 16 (by decide) (hts (.fieldLink RX6 57 "NetcompareModel" "thrown" "I") (List.mem_cons_of_mem _ (List.mem_append_left _ (List.mem_append_left _ (List.mem_append_left _ (List.mem_of_getElem? (i := 0) rfl)))))) (fun _ h9 => h9) rfl dX6_matchedPart_30 ?_
  refine lv_if_ne (tgt := 45) hx hb dX6_matchedPart_33 (by decide) (fun _ => ?_) (fun h9 => absurd h9 (by decide))
  refine lv_iconst (v := (-1)) hx hb dX6_matchedPart_45 (by decide) ?_
  exact ret _ 1 _ _ _ _ _ _ (rfl) (hP.sub [1] rfl) (hK.sub [] rfl) (hD.sub [1] (by decide) rfl) hS (Nat.le_of_ble_eq_true rfl) (Nat.le_of_ble_eq_true rfl) dX6_matchedPart_46

set_option maxHeartbeats 4000000 in
set_option maxRecDepth 100000 in
/-- the model: matchedPin on a fresh one -/
theorem kX6_matchedPin (l : Launch) (dC : Nat → ClassId) (dI : Nat → Nat → Nat) (k0 kN kA kO kK kV kG kP kC kD kE kF kX kY kT kU : Nat) (cI : ClassId) (p0 p1 : Int32) (sz : Nat) : fMi l yX6_matchedPin wsX6_matchedPin ({ frames := 2, cells := 0, slots := 0, locals := 47 } : Room) dC dI [.ref k0, .int p0, .int p1] [(k0, .inr (9, [.ref kN, .ref kA, .ref kO, .ref kK, .ref kV, .ref kG, .ref kP, .ref kC, .ref kD, .ref kE, .ref kF, .ref kX, .ref kY, .int 0, .ref kT, .ref kU, .int 0, .int 0, .int 0])), (kN, .inl (cI, 2, .inl (fun _ => 0))), (kA, .inl (cI, 2, .inl (fun _ => 0)))] [(cI, .int)] sz (fun (r : Int32) (u : Int32) => u = 1) (fun u => [(k0, .inr (9, [.ref kN, .ref kA, .ref kO, .ref kK, .ref kV, .ref kG, .ref kP, .ref kC, .ref kD, .ref kE, .ref kF, .ref kX, .ref kY, .int 0, .ref kT, .ref kU, .int u, .int 0, .int 0]))]) (fun u => []) := by
  refine oP_i (y := yX6_matchedPin) (cc := cX6_matchedPin) (maxL := 5) (by decide) rfl (Nat.le_of_ble_eq_true rfl) ?_
  intro p e s m args below meth c ls A Q hx hb hr hml hown hts hN hZ hA hin hlk hP hK hD hl ret
  have hS : va_S A s.heap s.heap [] := va_S.rf
  have hl : lv_has ls 5 [(0, .ref k0), (1, .int p0), (2, .int p1)] := hl
  have hP : va_P (dC, dI) vwCl [(k0, .inr (9, [.ref kN, .ref kA, .ref kO, .ref kK, .ref kV, .ref kG, .ref kP, .ref kC, .ref kD, .ref kE, .ref kF, .ref kX, .ref kY, .int 0, .ref kT, .ref kU, .int 0, .int 0, .int 0])), (kN, .inl (cI, 2, .inl (fun _ => 0))), (kA, .inl (cI, 2, .inl (fun _ => 0)))] _ := hP
  have hD : va_D A [(k0, .inr (9, [.ref kN, .ref kA, .ref kO, .ref kK, .ref kV, .ref kG, .ref kP, .ref kC, .ref kD, .ref kE, .ref kF, .ref kX, .ref kY, .int 0, .ref kT, .ref kU, .int 0, .int 0, .int 0])), (kN, .inl (cI, 2, .inl (fun _ => 0))), (kA, .inl (cI, 2, .inl (fun _ => 0)))] := hD
  refine lv_aload_n hx hb dX6_matchedPin_0 rfl (lv_at hl 0 rfl) ?_
  refine lv_aload_n hx hb dX6_matchedPin_1 rfl (lv_at hl 0 rfl) ?_
  refine lv_iconst (v := 0) hx hb dX6_matchedPin_2 (by decide) ?_
  refine lv_iload_n hx hb dX6_matchedPin_3 rfl (lv_at hl 1 rfl) ?_
  have hPc := hP.sub (ws' := [(k0, .inr (9, [.ref kN, .ref kA, .ref kO, .ref kK, .ref kV, .ref kG, .ref kP, .ref kC, .ref kD, .ref kE, .ref kF, .ref kX, .ref kY, .int 0, .ref kT, .ref kU, .int 0, .int 0, .int 0])), (kA, .inl (cI, 2, .inl (fun _ => 0)))]) [0, 2] rfl
  have hDc := hD.sub (ws' := [(k0, .inr (9, [.ref kN, .ref kA, .ref kO, .ref kK, .ref kV, .ref kG, .ref kP, .ref kC, .ref kD, .ref kE, .ref kF, .ref kX, .ref kY, .int 0, .ref kT, .ref kU, .int 0, .int 0, .int 0])), (kA, .inl (cI, 2, .inl (fun _ => 0)))]) [0, 2] (by decide) rfl
  have hKc := hK.sub (tys' := [(cI, .int)]) [0] rfl
  have hFc := va_free (wc := [(k0, .inr (9, [.ref kN, .ref kA, .ref kO, .ref kK, .ref kV, .ref kG, .ref kP, .ref kC, .ref kD, .ref kE, .ref kF, .ref kX, .ref kY, .int 0, .ref kT, .ref kU, .int 0, .int 0, .int 0])), (kA, .inl (cI, 2, .inl (fun _ => 0)))]) hD hS hA [0, 2] rfl
  refine va_calli (va_runV (As := [.int 0, .int p0]) (rest := [.ref k0]) ⟨hx, hb, hml, hown, hts⟩ (kX6_isPart0 l dC dI k0 kN kA kO kK kV kG kP kC kD kE kF kX kY kT kU cI p0 s.heap.size) (cwV 2 hts gX6_matchedPin_X6_isPart rfl rfl rfl (by decide +kernel) ⟨Nat.le_of_ble_eq_true rfl, Nat.le_of_ble_eq_true rfl⟩) (fPreV hN hZ hS (fun q h => hFc q h) hPc hKc hDc (ci := 9) (q0 := 0) rfl rfl) rfl rfl hl.1 rfl (lv_room (Nat.le_of_ble_eq_true rfl)) dX6_matchedPin_4 ⟨Nat.le_of_ble_eq_true rfl, Nat.le_of_ble_eq_true rfl⟩) hS (fun q _ h => hFc q h) hFc (fun r u t H1 locs ht hvm hw hB hz1 hk1 hS => ?_)
  obtain ⟨hP1, hK1, hD1⟩ := hB
  rw [ht] at hP1
  have hK1 := va_K.moved hvm.symm hK1
  obtain ⟨hP, hD⟩ := va_join (wr := [(kN, .inl (cI, 2, .inl (fun _ => 0)))]) (w1 := [(k0, .inr (9, [.ref kN, .ref kA, .ref kO, .ref kK, .ref kV, .ref kG, .ref kP, .ref kC, .ref kD, .ref kE, .ref kF, .ref kX, .ref kY, .int 0, .ref kT, .ref kU, .int 0, .int 0, .int 0])), (kA, .inl (cI, 2, .inl (fun _ => 0)))]) hP hD [0, 2] [1] rfl rfl (by decide) (by decide) hk1 hFc hP1 hD1
  generalize H1 = H at hP hS ⊢
  have hP : va_P (dC, dI) vwCl [(kN, .inl (cI, 2, .inl (fun _ => 0))), (k0, .inr (9, [.ref kN, .ref kA, .ref kO, .ref kK, .ref kV, .ref kG, .ref kP, .ref kC, .ref kD, .ref kE, .ref kF, .ref kX, .ref kY, .int 0, .ref kT, .ref kU, .int 0, .int 0, .int 0])), (kA, .inl (cI, 2, .inl (fun _ => 0)))] _ := hP
  have hD : va_D A [(kN, .inl (cI, 2, .inl (fun _ => 0))), (k0, .inr (9, [.ref kN, .ref kA, .ref kO, .ref kK, .ref kV, .ref kG, .ref kP, .ref kC, .ref kD, .ref kE, .ref kF, .ref kX, .ref kY, .int 0, .ref kT, .ref kU, .int 0, .int 0, .int 0])), (kA, .inl (cI, 2, .inl (fun _ => 0)))] := hD
  subst hw
  refine lv_if_ne (tgt := 14) hx hb dX6_matchedPin_7 (by decide) (fun h9 => absurd (by decide) h9) (fun _ => ?_)
  refine lv_iconst (v := 1) hx hb dX6_matchedPin_10 (by decide) ?_
  refine lv_goto (tgt := 51) hx hb dX6_matchedPin_11 (by decide) ?_
  refine va_put (D := (dC, dI)) (ci := 9) (v := .int 1) (ty := .int) (C := RX6) (T := TX6) (N := 19) hx hb hts (fun w h => List.mem_cons_of_mem _ (List.mem_append_left _ (List.mem_append_right _ (h)))) tyX6 tyX6_ok nmX6 hown hK hP hD hS 1 rfl rfl 16 (by decide) (hts (.fieldLink RX6 57 "NetcompareModel" "thrown" "I") (List.mem_cons_of_mem _ (List.mem_append_left _ (List.mem_append_left _ (List.mem_append_left _ (List.mem_of_getElem? (i := 0) rfl)))))) (fun _ h9 => h9) rfl (by decide +kernel) rfl rfl (Nat.le_of_ble_eq_true rfl) dX6_matchedPin_51 (fun H locs hP hD hS => ?_)
  have hP : va_P (dC, dI) vwCl [(kN, .inl (cI, 2, .inl (fun _ => 0))), (k0, .inr (9, [.ref kN, .ref kA, .ref kO, .ref kK, .ref kV, .ref kG, .ref kP, .ref kC, .ref kD, .ref kE, .ref kF, .ref kX, .ref kY, .int 0, .ref kT, .ref kU, .int 1, .int 0, .int 0])), (kA, .inl (cI, 2, .inl (fun _ => 0)))] _ := hP
  have hD : va_D A [(kN, .inl (cI, 2, .inl (fun _ => 0))), (k0, .inr (9, [.ref kN, .ref kA, .ref kO, .ref kK, .ref kV, .ref kG, .ref kP, .ref kC, .ref kD, .ref kE, .ref kF, .ref kX, .ref kY, .int 0, .ref kT, .ref kU, .int 1, .int 0, .int 0])), (kA, .inl (cI, 2, .inl (fun _ => 0)))] := hD
  refine lv_aload_n hx hb dX6_matchedPin_54 rfl (lv_at hl 0 rfl) ?_
  refine va_get (D := (dC, dI)) (ci := 9) (v := .int 1) (C := RX6) (T := TX6) (N := 19) hx hb hts (fun w h => List.mem_cons_of_mem _ (List.mem_append_left _ (List.mem_append_right _ (h)))) hown hK hP 1 rfl rfl 16 (by decide) (hts (.fieldLink RX6 57 "NetcompareModel" "thrown" "I") (List.mem_cons_of_mem _ (List.mem_append_left _ (List.mem_append_left _ (List.mem_append_left _ (List.mem_of_getElem? (i := 0) rfl)))))) (fun _ h9 => h9) rfl dX6_matchedPin_55 ?_
  refine lv_if_le (tgt := 63) hx hb dX6_matchedPin_58 (by decide) (fun h9 => absurd h9 (by decide)) (fun _ => ?_)
  refine lv_iconst (v := (-1)) hx hb dX6_matchedPin_61 (by decide) ?_
  exact ret _ 1 _ _ _ _ _ _ (rfl) (hP.sub [1] rfl) (hK.sub [] rfl) (hD.sub [1] (by decide) rfl) hS (Nat.le_of_ble_eq_true rfl) (Nat.le_of_ble_eq_true rfl) dX6_matchedPin_62

set_option maxHeartbeats 4000000 in
set_option maxRecDepth 100000 in
/-- the model: differenceKind on a fresh one -/
theorem kX6_differenceKind (l : Launch) (dC : Nat → ClassId) (dI : Nat → Nat → Nat) (k0 kN kA kO kK kV kG kP kC kD kE kF kX kY kT kU : Nat) (cI : ClassId) (g1 g2 g3 g4 : Nat → Int32) (p0 : Int32) (sz : Nat) : fMi l yX6_differenceKind wsX6_differenceKind ({ frames := 6, cells := 2, slots := 40, locals := 144 } : Room) dC dI [.ref k0, .int p0] [(k0, .inr (9, [.ref kN, .ref kA, .ref kO, .ref kK, .ref kV, .ref kG, .ref kP, .ref kC, .ref kD, .ref kE, .ref kF, .ref kX, .ref kY, .int 0, .ref kT, .ref kU, .int 0, .int 0, .int 0])), (kN, .inl (cI, 2, .inl (fun _ => 0))), (kA, .inl (cI, 2, .inl (fun _ => 0))), (kC, .inl (cI, 20, .inl g1)), (kD, .inl (cI, 20, .inl g2)), (kE, .inl (cI, 20, .inl g3)), (kF, .inl (cI, 20, .inl g4))] [(cI, .int)] sz (fun (r : Int32) (u : Int32) => u = 1) (fun u => [(k0, .inr (9, [.ref kN, .ref kA, .ref kO, .ref kK, .ref kV, .ref kG, .ref kP, .ref kC, .ref kD, .ref kE, .ref kF, .ref kX, .ref kY, .int 0, .ref kT, .ref kU, .int u, .int 0, .int 0]))]) (fun u => []) := by
  refine oP_z (y := yX6_differenceKind) (cc := cX6_differenceKind) (maxL := 2) (by decide) rfl (Nat.le_of_ble_eq_true rfl) ?_
  intro p e s m args below meth c ls A Q hx hb hr hml hown hts hN hZ hA hin hlk hP hK hD hl ret
  have hS : va_S A s.heap s.heap [] := va_S.rf
  have hl : lv_has ls 2 [(0, .ref k0), (1, .int p0)] := hl
  have hP : va_P (dC, dI) vwCl [(k0, .inr (9, [.ref kN, .ref kA, .ref kO, .ref kK, .ref kV, .ref kG, .ref kP, .ref kC, .ref kD, .ref kE, .ref kF, .ref kX, .ref kY, .int 0, .ref kT, .ref kU, .int 0, .int 0, .int 0])), (kN, .inl (cI, 2, .inl (fun _ => 0))), (kA, .inl (cI, 2, .inl (fun _ => 0))), (kC, .inl (cI, 20, .inl g1)), (kD, .inl (cI, 20, .inl g2)), (kE, .inl (cI, 20, .inl g3)), (kF, .inl (cI, 20, .inl g4))] _ := hP
  have hD : va_D A [(k0, .inr (9, [.ref kN, .ref kA, .ref kO, .ref kK, .ref kV, .ref kG, .ref kP, .ref kC, .ref kD, .ref kE, .ref kF, .ref kX, .ref kY, .int 0, .ref kT, .ref kU, .int 0, .int 0, .int 0])), (kN, .inl (cI, 2, .inl (fun _ => 0))), (kA, .inl (cI, 2, .inl (fun _ => 0))), (kC, .inl (cI, 20, .inl g1)), (kD, .inl (cI, 20, .inl g2)), (kE, .inl (cI, 20, .inl g3)), (kF, .inl (cI, 20, .inl g4))] := hD
  refine lv_aload_n hx hb dX6_differenceKind_0 rfl (lv_at hl 0 rfl) ?_
  refine lv_iload_n hx hb dX6_differenceKind_1 rfl (lv_at hl 1 rfl) ?_
  have hPc := hP.sub (ws' := [(k0, .inr (9, [.ref kN, .ref kA, .ref kO, .ref kK, .ref kV, .ref kG, .ref kP, .ref kC, .ref kD, .ref kE, .ref kF, .ref kX, .ref kY, .int 0, .ref kT, .ref kU, .int 0, .int 0, .int 0])), (kN, .inl (cI, 2, .inl (fun _ => 0))), (kA, .inl (cI, 2, .inl (fun _ => 0))), (kC, .inl (cI, 20, .inl g1)), (kD, .inl (cI, 20, .inl g2)), (kE, .inl (cI, 20, .inl g3)), (kF, .inl (cI, 20, .inl g4))]) [0, 1, 2, 3, 4, 5, 6] rfl
  have hDc := hD.sub (ws' := [(k0, .inr (9, [.ref kN, .ref kA, .ref kO, .ref kK, .ref kV, .ref kG, .ref kP, .ref kC, .ref kD, .ref kE, .ref kF, .ref kX, .ref kY, .int 0, .ref kT, .ref kU, .int 0, .int 0, .int 0])), (kN, .inl (cI, 2, .inl (fun _ => 0))), (kA, .inl (cI, 2, .inl (fun _ => 0))), (kC, .inl (cI, 20, .inl g1)), (kD, .inl (cI, 20, .inl g2)), (kE, .inl (cI, 20, .inl g3)), (kF, .inl (cI, 20, .inl g4))]) [0, 1, 2, 3, 4, 5, 6] (by decide) rfl
  have hKc := hK.sub (tys' := [(cI, .int)]) [0] rfl
  have hFc := va_free (wc := [(k0, .inr (9, [.ref kN, .ref kA, .ref kO, .ref kK, .ref kV, .ref kG, .ref kP, .ref kC, .ref kD, .ref kE, .ref kF, .ref kX, .ref kY, .int 0, .ref kT, .ref kU, .int 0, .int 0, .int 0])), (kN, .inl (cI, 2, .inl (fun _ => 0))), (kA, .inl (cI, 2, .inl (fun _ => 0))), (kC, .inl (cI, 20, .inl g1)), (kD, .inl (cI, 20, .inl g2)), (kE, .inl (cI, 20, .inl g3)), (kF, .inl (cI, 20, .inl g4))]) hD hS hA [0, 1, 2, 3, 4, 5, 6] rfl
  refine va_calli (va_runV (As := [.int p0]) (rest := []) ⟨hx, hb, hml, hown, hts⟩ (kX6_finds l dC dI k0 kN kA kO kK kV kG kP kC kD kE kF kX kY kT kU cI g1 g2 g3 g4 p0 s.heap.size) (cwV 1 hts gX6_differenceKind_X6_finds rfl rfl rfl (by decide +kernel) ⟨Nat.le_of_ble_eq_true rfl, Nat.le_of_ble_eq_true rfl⟩) (fPreV hN hZ hS (fun q h => hFc q h) hPc hKc hDc (ci := 9) (q0 := 0) rfl rfl) rfl rfl hl.1 rfl (lv_room (Nat.le_of_ble_eq_true rfl)) dX6_differenceKind_2 ⟨Nat.le_of_ble_eq_true rfl, Nat.le_of_ble_eq_true rfl⟩) hS (fun q _ h => hFc q h) hFc (fun r u t H1 locs ht hvm hw hB hz1 hk1 hS => ?_)
  obtain ⟨hP1, hK1, hD1⟩ := hB
  rw [ht] at hP1
  have hK1 := va_K.moved hvm.symm hK1
  obtain ⟨hP, hD⟩ := va_join (wr := []) (w1 := [(k0, .inr (9, [.ref kN, .ref kA, .ref kO, .ref kK, .ref kV, .ref kG, .ref kP, .ref kC, .ref kD, .ref kE, .ref kF, .ref kX, .ref kY, .int 0, .ref kT, .ref kU, .int 1, .int 0, .int 0]))]) hP hD [0, 1, 2, 3, 4, 5, 6] [] rfl rfl (by decide) (by decide) hk1 hFc hP1 hD1
  generalize H1 = H at hP hS ⊢
  have hP : va_P (dC, dI) vwCl [(k0, .inr (9, [.ref kN, .ref kA, .ref kO, .ref kK, .ref kV, .ref kG, .ref kP, .ref kC, .ref kD, .ref kE, .ref kF, .ref kX, .ref kY, .int 0, .ref kT, .ref kU, .int 1, .int 0, .int 0]))] _ := hP
  have hD : va_D A [(k0, .inr (9, [.ref kN, .ref kA, .ref kO, .ref kK, .ref kV, .ref kG, .ref kP, .ref kC, .ref kD, .ref kE, .ref kF, .ref kX, .ref kY, .int 0, .ref kT, .ref kU, .int 1, .int 0, .int 0]))] := hD
  refine W.widen (k := 2) (n := 40) (Nat.le_of_ble_eq_true rfl) (Nat.le_of_ble_eq_true rfl) ?_
  subst hw
  refine lv_if_eq (tgt := 25) hx hb dX6_differenceKind_5 (by decide) (fun _ => ?_) (fun h9 => absurd (by decide) h9)
  refine lv_bipush (v := 32) hx hb dX6_differenceKind_25 (by decide) ?_
  exact ret _ 1 _ _ _ _ _ _ (by decide) (rfl) (hP.sub [0] rfl) (hK.sub [] rfl) (hD.sub [0] (by decide) rfl) hS (Nat.le_of_ble_eq_true rfl) (Nat.le_of_ble_eq_true rfl) dX6_differenceKind_27

set_option maxHeartbeats 4000000 in
set_option maxRecDepth 100000 in
/-- the model: differenceMember on a fresh one -/
theorem kX6_differenceMember (l : Launch) (dC : Nat → ClassId) (dI : Nat → Nat → Nat) (k0 kN kA kO kK kV kG kP kC kD kE kF kX kY kT kU : Nat) (cI : ClassId) (g1 g2 g3 g4 : Nat → Int32) (p0 : Int32) (sz : Nat) : fMi l yX6_differenceMember wsX6_differenceMember ({ frames := 6, cells := 2, slots := 40, locals := 144 } : Room) dC dI [.ref k0, .int p0] [(k0, .inr (9, [.ref kN, .ref kA, .ref kO, .ref kK, .ref kV, .ref kG, .ref kP, .ref kC, .ref kD, .ref kE, .ref kF, .ref kX, .ref kY, .int 0, .ref kT, .ref kU, .int 0, .int 0, .int 0])), (kN, .inl (cI, 2, .inl (fun _ => 0))), (kA, .inl (cI, 2, .inl (fun _ => 0))), (kC, .inl (cI, 20, .inl g1)), (kD, .inl (cI, 20, .inl g2)), (kE, .inl (cI, 20, .inl g3)), (kF, .inl (cI, 20, .inl g4))] [(cI, .int)] sz (fun (r : Int32) (u : Int32) => u = 1) (fun u => [(k0, .inr (9, [.ref kN, .ref kA, .ref kO, .ref kK, .ref kV, .ref kG, .ref kP, .ref kC, .ref kD, .ref kE, .ref kF, .ref kX, .ref kY, .int 0, .ref kT, .ref kU, .int u, .int 0, .int 0]))]) (fun u => []) := by
  refine oP_i (y := yX6_differenceMember) (cc := cX6_differenceMember) (maxL := 2) (by decide) rfl (Nat.le_of_ble_eq_true rfl) ?_
  intro p e s m args below meth c ls A Q hx hb hr hml hown hts hN hZ hA hin hlk hP hK hD hl ret
  have hS : va_S A s.heap s.heap [] := va_S.rf
  have hl : lv_has ls 2 [(0, .ref k0), (1, .int p0)] := hl
  have hP : va_P (dC, dI) vwCl [(k0, .inr (9, [.ref kN, .ref kA, .ref kO, .ref kK, .ref kV, .ref kG, .ref kP, .ref kC, .ref kD, .ref kE, .ref kF, .ref kX, .ref kY, .int 0, .ref kT, .ref kU, .int 0, .int 0, .int 0])), (kN, .inl (cI, 2, .inl (fun _ => 0))), (kA, .inl (cI, 2, .inl (fun _ => 0))), (kC, .inl (cI, 20, .inl g1)), (kD, .inl (cI, 20, .inl g2)), (kE, .inl (cI, 20, .inl g3)), (kF, .inl (cI, 20, .inl g4))] _ := hP
  have hD : va_D A [(k0, .inr (9, [.ref kN, .ref kA, .ref kO, .ref kK, .ref kV, .ref kG, .ref kP, .ref kC, .ref kD, .ref kE, .ref kF, .ref kX, .ref kY, .int 0, .ref kT, .ref kU, .int 0, .int 0, .int 0])), (kN, .inl (cI, 2, .inl (fun _ => 0))), (kA, .inl (cI, 2, .inl (fun _ => 0))), (kC, .inl (cI, 20, .inl g1)), (kD, .inl (cI, 20, .inl g2)), (kE, .inl (cI, 20, .inl g3)), (kF, .inl (cI, 20, .inl g4))] := hD
  refine lv_aload_n hx hb dX6_differenceMember_0 rfl (lv_at hl 0 rfl) ?_
  refine lv_iload_n hx hb dX6_differenceMember_1 rfl (lv_at hl 1 rfl) ?_
  have hPc := hP.sub (ws' := [(k0, .inr (9, [.ref kN, .ref kA, .ref kO, .ref kK, .ref kV, .ref kG, .ref kP, .ref kC, .ref kD, .ref kE, .ref kF, .ref kX, .ref kY, .int 0, .ref kT, .ref kU, .int 0, .int 0, .int 0])), (kN, .inl (cI, 2, .inl (fun _ => 0))), (kA, .inl (cI, 2, .inl (fun _ => 0))), (kC, .inl (cI, 20, .inl g1)), (kD, .inl (cI, 20, .inl g2)), (kE, .inl (cI, 20, .inl g3)), (kF, .inl (cI, 20, .inl g4))]) [0, 1, 2, 3, 4, 5, 6] rfl
  have hDc := hD.sub (ws' := [(k0, .inr (9, [.ref kN, .ref kA, .ref kO, .ref kK, .ref kV, .ref kG, .ref kP, .ref kC, .ref kD, .ref kE, .ref kF, .ref kX, .ref kY, .int 0, .ref kT, .ref kU, .int 0, .int 0, .int 0])), (kN, .inl (cI, 2, .inl (fun _ => 0))), (kA, .inl (cI, 2, .inl (fun _ => 0))), (kC, .inl (cI, 20, .inl g1)), (kD, .inl (cI, 20, .inl g2)), (kE, .inl (cI, 20, .inl g3)), (kF, .inl (cI, 20, .inl g4))]) [0, 1, 2, 3, 4, 5, 6] (by decide) rfl
  have hKc := hK.sub (tys' := [(cI, .int)]) [0] rfl
  have hFc := va_free (wc := [(k0, .inr (9, [.ref kN, .ref kA, .ref kO, .ref kK, .ref kV, .ref kG, .ref kP, .ref kC, .ref kD, .ref kE, .ref kF, .ref kX, .ref kY, .int 0, .ref kT, .ref kU, .int 0, .int 0, .int 0])), (kN, .inl (cI, 2, .inl (fun _ => 0))), (kA, .inl (cI, 2, .inl (fun _ => 0))), (kC, .inl (cI, 20, .inl g1)), (kD, .inl (cI, 20, .inl g2)), (kE, .inl (cI, 20, .inl g3)), (kF, .inl (cI, 20, .inl g4))]) hD hS hA [0, 1, 2, 3, 4, 5, 6] rfl
  refine va_calli (va_runV (As := [.int p0]) (rest := []) ⟨hx, hb, hml, hown, hts⟩ (kX6_finds l dC dI k0 kN kA kO kK kV kG kP kC kD kE kF kX kY kT kU cI g1 g2 g3 g4 p0 s.heap.size) (cwV 1 hts gX6_differenceMember_X6_finds rfl rfl rfl (by decide +kernel) ⟨Nat.le_of_ble_eq_true rfl, Nat.le_of_ble_eq_true rfl⟩) (fPreV hN hZ hS (fun q h => hFc q h) hPc hKc hDc (ci := 9) (q0 := 0) rfl rfl) rfl rfl hl.1 rfl (lv_room (Nat.le_of_ble_eq_true rfl)) dX6_differenceMember_2 ⟨Nat.le_of_ble_eq_true rfl, Nat.le_of_ble_eq_true rfl⟩) hS (fun q _ h => hFc q h) hFc (fun r u t H1 locs ht hvm hw hB hz1 hk1 hS => ?_)
  obtain ⟨hP1, hK1, hD1⟩ := hB
  rw [ht] at hP1
  have hK1 := va_K.moved hvm.symm hK1
  obtain ⟨hP, hD⟩ := va_join (wr := []) (w1 := [(k0, .inr (9, [.ref kN, .ref kA, .ref kO, .ref kK, .ref kV, .ref kG, .ref kP, .ref kC, .ref kD, .ref kE, .ref kF, .ref kX, .ref kY, .int 0, .ref kT, .ref kU, .int 1, .int 0, .int 0]))]) hP hD [0, 1, 2, 3, 4, 5, 6] [] rfl rfl (by decide) (by decide) hk1 hFc hP1 hD1
  generalize H1 = H at hP hS ⊢
  have hP : va_P (dC, dI) vwCl [(k0, .inr (9, [.ref kN, .ref kA, .ref kO, .ref kK, .ref kV, .ref kG, .ref kP, .ref kC, .ref kD, .ref kE, .ref kF, .ref kX, .ref kY, .int 0, .ref kT, .ref kU, .int 1, .int 0, .int 0]))] _ := hP
  have hD : va_D A [(k0, .inr (9, [.ref kN, .ref kA, .ref kO, .ref kK, .ref kV, .ref kG, .ref kP, .ref kC, .ref kD, .ref kE, .ref kF, .ref kX, .ref kY, .int 0, .ref kT, .ref kU, .int 1, .int 0, .int 0]))] := hD
  refine W.widen (k := 2) (n := 40) (Nat.le_of_ble_eq_true rfl) (Nat.le_of_ble_eq_true rfl) ?_
  subst hw
  refine lv_if_eq (tgt := 36) hx hb dX6_differenceMember_5 (by decide) (fun _ => ?_) (fun h9 => absurd (by decide) h9)
  refine lv_iconst (v := (-1)) hx hb dX6_differenceMember_36 (by decide) ?_
  exact ret _ 1 _ _ _ _ _ _ (rfl) (hP.sub [0] rfl) (hK.sub [] rfl) (hD.sub [0] (by decide) rfl) hS (Nat.le_of_ble_eq_true rfl) (Nat.le_of_ble_eq_true rfl) dX6_differenceMember_37

set_option maxHeartbeats 4000000 in
set_option maxRecDepth 100000 in
/-- the model: differenceDistance on a fresh one -/
theorem kX6_differenceDistance (l : Launch) (dC : Nat → ClassId) (dI : Nat → Nat → Nat) (k0 kN kA kO kK kV kG kP kC kD kE kF kX kY kT kU : Nat) (cI : ClassId) (g1 g2 g3 g4 : Nat → Int32) (p0 : Int32) (sz : Nat) : fMi l yX6_differenceDistance wsX6_differenceDistance ({ frames := 6, cells := 2, slots := 40, locals := 144 } : Room) dC dI [.ref k0, .int p0] [(k0, .inr (9, [.ref kN, .ref kA, .ref kO, .ref kK, .ref kV, .ref kG, .ref kP, .ref kC, .ref kD, .ref kE, .ref kF, .ref kX, .ref kY, .int 0, .ref kT, .ref kU, .int 0, .int 0, .int 0])), (kN, .inl (cI, 2, .inl (fun _ => 0))), (kA, .inl (cI, 2, .inl (fun _ => 0))), (kC, .inl (cI, 20, .inl g1)), (kD, .inl (cI, 20, .inl g2)), (kE, .inl (cI, 20, .inl g3)), (kF, .inl (cI, 20, .inl g4))] [(cI, .int)] sz (fun (r : Int32) (u : Int32) => u = 1) (fun u => [(k0, .inr (9, [.ref kN, .ref kA, .ref kO, .ref kK, .ref kV, .ref kG, .ref kP, .ref kC, .ref kD, .ref kE, .ref kF, .ref kX, .ref kY, .int 0, .ref kT, .ref kU, .int u, .int 0, .int 0]))]) (fun u => []) := by
  refine oP_i (y := yX6_differenceDistance) (cc := cX6_differenceDistance) (maxL := 2) (by decide) rfl (Nat.le_of_ble_eq_true rfl) ?_
  intro p e s m args below meth c ls A Q hx hb hr hml hown hts hN hZ hA hin hlk hP hK hD hl ret
  have hS : va_S A s.heap s.heap [] := va_S.rf
  have hl : lv_has ls 2 [(0, .ref k0), (1, .int p0)] := hl
  have hP : va_P (dC, dI) vwCl [(k0, .inr (9, [.ref kN, .ref kA, .ref kO, .ref kK, .ref kV, .ref kG, .ref kP, .ref kC, .ref kD, .ref kE, .ref kF, .ref kX, .ref kY, .int 0, .ref kT, .ref kU, .int 0, .int 0, .int 0])), (kN, .inl (cI, 2, .inl (fun _ => 0))), (kA, .inl (cI, 2, .inl (fun _ => 0))), (kC, .inl (cI, 20, .inl g1)), (kD, .inl (cI, 20, .inl g2)), (kE, .inl (cI, 20, .inl g3)), (kF, .inl (cI, 20, .inl g4))] _ := hP
  have hD : va_D A [(k0, .inr (9, [.ref kN, .ref kA, .ref kO, .ref kK, .ref kV, .ref kG, .ref kP, .ref kC, .ref kD, .ref kE, .ref kF, .ref kX, .ref kY, .int 0, .ref kT, .ref kU, .int 0, .int 0, .int 0])), (kN, .inl (cI, 2, .inl (fun _ => 0))), (kA, .inl (cI, 2, .inl (fun _ => 0))), (kC, .inl (cI, 20, .inl g1)), (kD, .inl (cI, 20, .inl g2)), (kE, .inl (cI, 20, .inl g3)), (kF, .inl (cI, 20, .inl g4))] := hD
  refine lv_aload_n hx hb dX6_differenceDistance_0 rfl (lv_at hl 0 rfl) ?_
  refine lv_iload_n hx hb dX6_differenceDistance_1 rfl (lv_at hl 1 rfl) ?_
  have hPc := hP.sub (ws' := [(k0, .inr (9, [.ref kN, .ref kA, .ref kO, .ref kK, .ref kV, .ref kG, .ref kP, .ref kC, .ref kD, .ref kE, .ref kF, .ref kX, .ref kY, .int 0, .ref kT, .ref kU, .int 0, .int 0, .int 0])), (kN, .inl (cI, 2, .inl (fun _ => 0))), (kA, .inl (cI, 2, .inl (fun _ => 0))), (kC, .inl (cI, 20, .inl g1)), (kD, .inl (cI, 20, .inl g2)), (kE, .inl (cI, 20, .inl g3)), (kF, .inl (cI, 20, .inl g4))]) [0, 1, 2, 3, 4, 5, 6] rfl
  have hDc := hD.sub (ws' := [(k0, .inr (9, [.ref kN, .ref kA, .ref kO, .ref kK, .ref kV, .ref kG, .ref kP, .ref kC, .ref kD, .ref kE, .ref kF, .ref kX, .ref kY, .int 0, .ref kT, .ref kU, .int 0, .int 0, .int 0])), (kN, .inl (cI, 2, .inl (fun _ => 0))), (kA, .inl (cI, 2, .inl (fun _ => 0))), (kC, .inl (cI, 20, .inl g1)), (kD, .inl (cI, 20, .inl g2)), (kE, .inl (cI, 20, .inl g3)), (kF, .inl (cI, 20, .inl g4))]) [0, 1, 2, 3, 4, 5, 6] (by decide) rfl
  have hKc := hK.sub (tys' := [(cI, .int)]) [0] rfl
  have hFc := va_free (wc := [(k0, .inr (9, [.ref kN, .ref kA, .ref kO, .ref kK, .ref kV, .ref kG, .ref kP, .ref kC, .ref kD, .ref kE, .ref kF, .ref kX, .ref kY, .int 0, .ref kT, .ref kU, .int 0, .int 0, .int 0])), (kN, .inl (cI, 2, .inl (fun _ => 0))), (kA, .inl (cI, 2, .inl (fun _ => 0))), (kC, .inl (cI, 20, .inl g1)), (kD, .inl (cI, 20, .inl g2)), (kE, .inl (cI, 20, .inl g3)), (kF, .inl (cI, 20, .inl g4))]) hD hS hA [0, 1, 2, 3, 4, 5, 6] rfl
  refine va_calli (va_runV (As := [.int p0]) (rest := []) ⟨hx, hb, hml, hown, hts⟩ (kX6_finds l dC dI k0 kN kA kO kK kV kG kP kC kD kE kF kX kY kT kU cI g1 g2 g3 g4 p0 s.heap.size) (cwV 1 hts gX6_differenceDistance_X6_finds rfl rfl rfl (by decide +kernel) ⟨Nat.le_of_ble_eq_true rfl, Nat.le_of_ble_eq_true rfl⟩) (fPreV hN hZ hS (fun q h => hFc q h) hPc hKc hDc (ci := 9) (q0 := 0) rfl rfl) rfl rfl hl.1 rfl (lv_room (Nat.le_of_ble_eq_true rfl)) dX6_differenceDistance_2 ⟨Nat.le_of_ble_eq_true rfl, Nat.le_of_ble_eq_true rfl⟩) hS (fun q _ h => hFc q h) hFc (fun r u t H1 locs ht hvm hw hB hz1 hk1 hS => ?_)
  obtain ⟨hP1, hK1, hD1⟩ := hB
  rw [ht] at hP1
  have hK1 := va_K.moved hvm.symm hK1
  obtain ⟨hP, hD⟩ := va_join (wr := []) (w1 := [(k0, .inr (9, [.ref kN, .ref kA, .ref kO, .ref kK, .ref kV, .ref kG, .ref kP, .ref kC, .ref kD, .ref kE, .ref kF, .ref kX, .ref kY, .int 0, .ref kT, .ref kU, .int 1, .int 0, .int 0]))]) hP hD [0, 1, 2, 3, 4, 5, 6] [] rfl rfl (by decide) (by decide) hk1 hFc hP1 hD1
  generalize H1 = H at hP hS ⊢
  have hP : va_P (dC, dI) vwCl [(k0, .inr (9, [.ref kN, .ref kA, .ref kO, .ref kK, .ref kV, .ref kG, .ref kP, .ref kC, .ref kD, .ref kE, .ref kF, .ref kX, .ref kY, .int 0, .ref kT, .ref kU, .int 1, .int 0, .int 0]))] _ := hP
  have hD : va_D A [(k0, .inr (9, [.ref kN, .ref kA, .ref kO, .ref kK, .ref kV, .ref kG, .ref kP, .ref kC, .ref kD, .ref kE, .ref kF, .ref kX, .ref kY, .int 0, .ref kT, .ref kU, .int 1, .int 0, .int 0]))] := hD
  refine W.widen (k := 2) (n := 40) (Nat.le_of_ble_eq_true rfl) (Nat.le_of_ble_eq_true rfl) ?_
  subst hw
  refine lv_if_eq (tgt := 23) hx hb dX6_differenceDistance_5 (by decide) (fun _ => ?_) (fun h9 => absurd (by decide) h9)
  refine lv_iconst (v := (-1)) hx hb dX6_differenceDistance_23 (by decide) ?_
  exact ret _ 1 _ _ _ _ _ _ (rfl) (hP.sub [0] rfl) (hK.sub [] rfl) (hD.sub [0] (by decide) rfl) hS (Nat.le_of_ble_eq_true rfl) (Nat.le_of_ble_eq_true rfl) dX6_differenceDistance_24

set_option maxHeartbeats 4000000 in
set_option maxRecDepth 100000 in
/-- the model: differenceSize on a fresh one -/
theorem kX6_differenceSize (l : Launch) (dC : Nat → ClassId) (dI : Nat → Nat → Nat) (k0 kN kA kO kK kV kG kP kC kD kE kF kX kY kT kU : Nat) (cI : ClassId) (g1 g2 g3 g4 : Nat → Int32) (p0 p1 : Int32) (sz : Nat) : fMi l yX6_differenceSize wsX6_differenceSize ({ frames := 6, cells := 2, slots := 40, locals := 144 } : Room) dC dI [.ref k0, .int p0, .int p1] [(k0, .inr (9, [.ref kN, .ref kA, .ref kO, .ref kK, .ref kV, .ref kG, .ref kP, .ref kC, .ref kD, .ref kE, .ref kF, .ref kX, .ref kY, .int 0, .ref kT, .ref kU, .int 0, .int 0, .int 0])), (kN, .inl (cI, 2, .inl (fun _ => 0))), (kA, .inl (cI, 2, .inl (fun _ => 0))), (kC, .inl (cI, 20, .inl g1)), (kD, .inl (cI, 20, .inl g2)), (kE, .inl (cI, 20, .inl g3)), (kF, .inl (cI, 20, .inl g4))] [(cI, .int)] sz (fun (r : Int32) (u : Int32) => u = 1) (fun u => [(k0, .inr (9, [.ref kN, .ref kA, .ref kO, .ref kK, .ref kV, .ref kG, .ref kP, .ref kC, .ref kD, .ref kE, .ref kF, .ref kX, .ref kY, .int 0, .ref kT, .ref kU, .int u, .int 0, .int 0]))]) (fun u => []) := by
  refine oP_i (y := yX6_differenceSize) (cc := cX6_differenceSize) (maxL := 3) (by decide) rfl (Nat.le_of_ble_eq_true rfl) ?_
  intro p e s m args below meth c ls A Q hx hb hr hml hown hts hN hZ hA hin hlk hP hK hD hl ret
  have hS : va_S A s.heap s.heap [] := va_S.rf
  have hl : lv_has ls 3 [(0, .ref k0), (1, .int p0), (2, .int p1)] := hl
  have hP : va_P (dC, dI) vwCl [(k0, .inr (9, [.ref kN, .ref kA, .ref kO, .ref kK, .ref kV, .ref kG, .ref kP, .ref kC, .ref kD, .ref kE, .ref kF, .ref kX, .ref kY, .int 0, .ref kT, .ref kU, .int 0, .int 0, .int 0])), (kN, .inl (cI, 2, .inl (fun _ => 0))), (kA, .inl (cI, 2, .inl (fun _ => 0))), (kC, .inl (cI, 20, .inl g1)), (kD, .inl (cI, 20, .inl g2)), (kE, .inl (cI, 20, .inl g3)), (kF, .inl (cI, 20, .inl g4))] _ := hP
  have hD : va_D A [(k0, .inr (9, [.ref kN, .ref kA, .ref kO, .ref kK, .ref kV, .ref kG, .ref kP, .ref kC, .ref kD, .ref kE, .ref kF, .ref kX, .ref kY, .int 0, .ref kT, .ref kU, .int 0, .int 0, .int 0])), (kN, .inl (cI, 2, .inl (fun _ => 0))), (kA, .inl (cI, 2, .inl (fun _ => 0))), (kC, .inl (cI, 20, .inl g1)), (kD, .inl (cI, 20, .inl g2)), (kE, .inl (cI, 20, .inl g3)), (kF, .inl (cI, 20, .inl g4))] := hD
  refine lv_aload_n hx hb dX6_differenceSize_0 rfl (lv_at hl 0 rfl) ?_
  refine lv_iload_n hx hb dX6_differenceSize_1 rfl (lv_at hl 1 rfl) ?_
  have hPc := hP.sub (ws' := [(k0, .inr (9, [.ref kN, .ref kA, .ref kO, .ref kK, .ref kV, .ref kG, .ref kP, .ref kC, .ref kD, .ref kE, .ref kF, .ref kX, .ref kY, .int 0, .ref kT, .ref kU, .int 0, .int 0, .int 0])), (kN, .inl (cI, 2, .inl (fun _ => 0))), (kA, .inl (cI, 2, .inl (fun _ => 0))), (kC, .inl (cI, 20, .inl g1)), (kD, .inl (cI, 20, .inl g2)), (kE, .inl (cI, 20, .inl g3)), (kF, .inl (cI, 20, .inl g4))]) [0, 1, 2, 3, 4, 5, 6] rfl
  have hDc := hD.sub (ws' := [(k0, .inr (9, [.ref kN, .ref kA, .ref kO, .ref kK, .ref kV, .ref kG, .ref kP, .ref kC, .ref kD, .ref kE, .ref kF, .ref kX, .ref kY, .int 0, .ref kT, .ref kU, .int 0, .int 0, .int 0])), (kN, .inl (cI, 2, .inl (fun _ => 0))), (kA, .inl (cI, 2, .inl (fun _ => 0))), (kC, .inl (cI, 20, .inl g1)), (kD, .inl (cI, 20, .inl g2)), (kE, .inl (cI, 20, .inl g3)), (kF, .inl (cI, 20, .inl g4))]) [0, 1, 2, 3, 4, 5, 6] (by decide) rfl
  have hKc := hK.sub (tys' := [(cI, .int)]) [0] rfl
  have hFc := va_free (wc := [(k0, .inr (9, [.ref kN, .ref kA, .ref kO, .ref kK, .ref kV, .ref kG, .ref kP, .ref kC, .ref kD, .ref kE, .ref kF, .ref kX, .ref kY, .int 0, .ref kT, .ref kU, .int 0, .int 0, .int 0])), (kN, .inl (cI, 2, .inl (fun _ => 0))), (kA, .inl (cI, 2, .inl (fun _ => 0))), (kC, .inl (cI, 20, .inl g1)), (kD, .inl (cI, 20, .inl g2)), (kE, .inl (cI, 20, .inl g3)), (kF, .inl (cI, 20, .inl g4))]) hD hS hA [0, 1, 2, 3, 4, 5, 6] rfl
  refine va_calli (va_runV (As := [.int p0]) (rest := []) ⟨hx, hb, hml, hown, hts⟩ (kX6_finds l dC dI k0 kN kA kO kK kV kG kP kC kD kE kF kX kY kT kU cI g1 g2 g3 g4 p0 s.heap.size) (cwV 1 hts gX6_differenceSize_X6_finds rfl rfl rfl (by decide +kernel) ⟨Nat.le_of_ble_eq_true rfl, Nat.le_of_ble_eq_true rfl⟩) (fPreV hN hZ hS (fun q h => hFc q h) hPc hKc hDc (ci := 9) (q0 := 0) rfl rfl) rfl rfl hl.1 rfl (lv_room (Nat.le_of_ble_eq_true rfl)) dX6_differenceSize_2 ⟨Nat.le_of_ble_eq_true rfl, Nat.le_of_ble_eq_true rfl⟩) hS (fun q _ h => hFc q h) hFc (fun r u t H1 locs ht hvm hw hB hz1 hk1 hS => ?_)
  obtain ⟨hP1, hK1, hD1⟩ := hB
  rw [ht] at hP1
  have hK1 := va_K.moved hvm.symm hK1
  obtain ⟨hP, hD⟩ := va_join (wr := []) (w1 := [(k0, .inr (9, [.ref kN, .ref kA, .ref kO, .ref kK, .ref kV, .ref kG, .ref kP, .ref kC, .ref kD, .ref kE, .ref kF, .ref kX, .ref kY, .int 0, .ref kT, .ref kU, .int 1, .int 0, .int 0]))]) hP hD [0, 1, 2, 3, 4, 5, 6] [] rfl rfl (by decide) (by decide) hk1 hFc hP1 hD1
  generalize H1 = H at hP hS ⊢
  have hP : va_P (dC, dI) vwCl [(k0, .inr (9, [.ref kN, .ref kA, .ref kO, .ref kK, .ref kV, .ref kG, .ref kP, .ref kC, .ref kD, .ref kE, .ref kF, .ref kX, .ref kY, .int 0, .ref kT, .ref kU, .int 1, .int 0, .int 0]))] _ := hP
  have hD : va_D A [(k0, .inr (9, [.ref kN, .ref kA, .ref kO, .ref kK, .ref kV, .ref kG, .ref kP, .ref kC, .ref kD, .ref kE, .ref kF, .ref kX, .ref kY, .int 0, .ref kT, .ref kU, .int 1, .int 0, .int 0]))] := hD
  refine W.widen (k := 2) (n := 40) (Nat.le_of_ble_eq_true rfl) (Nat.le_of_ble_eq_true rfl) ?_
  subst hw
  refine lv_if_ne (tgt := 10) hx hb dX6_differenceSize_5 (by decide) (fun h9 => absurd (by decide) h9) (fun _ => ?_)
  refine lv_iconst (v := (-1)) hx hb dX6_differenceSize_8 (by decide) ?_
  exact ret _ 1 _ _ _ _ _ _ (rfl) (hP.sub [0] rfl) (hK.sub [] rfl) (hD.sub [0] (by decide) rfl) hS (Nat.le_of_ble_eq_true rfl) (Nat.le_of_ble_eq_true rfl) dX6_differenceSize_9

set_option maxHeartbeats 4000000 in
set_option maxRecDepth 100000 in
/-- the model: equalShare on a fresh one -/
theorem kX6_equalShare (l : Launch) (dC : Nat → ClassId) (dI : Nat → Nat → Nat) (k0 kN kA kO kK kV kG kP kC kD kE kF kX kY kT kU : Nat) (cI : ClassId) (g1 g2 g3 g4 : Nat → Int32) (sz : Nat) : fMf l yX6_equalShare wsX6_equalShare ({ frames := 5, cells := 2, slots := 40, locals := 116 } : Room) dC dI [.ref k0] [(k0, .inr (9, [.ref kN, .ref kA, .ref kO, .ref kK, .ref kV, .ref kG, .ref kP, .ref kC, .ref kD, .ref kE, .ref kF, .ref kX, .ref kY, .int 0, .ref kT, .ref kU, .int 0, .int 0, .int 0])), (kN, .inl (cI, 2, .inl (fun _ => 0))), (kA, .inl (cI, 2, .inl (fun _ => 0))), (kC, .inl (cI, 20, .inl g1)), (kD, .inl (cI, 20, .inl g2)), (kE, .inl (cI, 20, .inl g3)), (kF, .inl (cI, 20, .inl g4))] [(cI, .int)] sz (fun (r : UInt32) (u : Int32) => u = 1) (fun u => [(k0, .inr (9, [.ref kN, .ref kA, .ref kO, .ref kK, .ref kV, .ref kG, .ref kP, .ref kC, .ref kD, .ref kE, .ref kF, .ref kX, .ref kY, .int 0, .ref kT, .ref kU, .int u, .int 0, .int 0]))]) (fun u => []) := by
  refine oP_f (y := yX6_equalShare) (cc := cX6_equalShare) (maxL := 2) (by decide) rfl (Nat.le_of_ble_eq_true rfl) ?_
  intro p e s m args below meth c ls A Q hx hb hr hml hown hts hN hZ hA hin hlk hP hK hD hl ret
  have hS : va_S A s.heap s.heap [] := va_S.rf
  have hl : lv_has ls 2 [(0, .ref k0)] := hl
  have hP : va_P (dC, dI) vwCl [(k0, .inr (9, [.ref kN, .ref kA, .ref kO, .ref kK, .ref kV, .ref kG, .ref kP, .ref kC, .ref kD, .ref kE, .ref kF, .ref kX, .ref kY, .int 0, .ref kT, .ref kU, .int 0, .int 0, .int 0])), (kN, .inl (cI, 2, .inl (fun _ => 0))), (kA, .inl (cI, 2, .inl (fun _ => 0))), (kC, .inl (cI, 20, .inl g1)), (kD, .inl (cI, 20, .inl g2)), (kE, .inl (cI, 20, .inl g3)), (kF, .inl (cI, 20, .inl g4))] _ := hP
  have hD : va_D A [(k0, .inr (9, [.ref kN, .ref kA, .ref kO, .ref kK, .ref kV, .ref kG, .ref kP, .ref kC, .ref kD, .ref kE, .ref kF, .ref kX, .ref kY, .int 0, .ref kT, .ref kU, .int 0, .int 0, .int 0])), (kN, .inl (cI, 2, .inl (fun _ => 0))), (kA, .inl (cI, 2, .inl (fun _ => 0))), (kC, .inl (cI, 20, .inl g1)), (kD, .inl (cI, 20, .inl g2)), (kE, .inl (cI, 20, .inl g3)), (kF, .inl (cI, 20, .inl g4))] := hD
  refine lv_aload_n hx hb dX6_equalShare_0 rfl (lv_at hl 0 rfl) ?_
  have hPc := hP.sub (ws' := [(k0, .inr (9, [.ref kN, .ref kA, .ref kO, .ref kK, .ref kV, .ref kG, .ref kP, .ref kC, .ref kD, .ref kE, .ref kF, .ref kX, .ref kY, .int 0, .ref kT, .ref kU, .int 0, .int 0, .int 0])), (kN, .inl (cI, 2, .inl (fun _ => 0))), (kA, .inl (cI, 2, .inl (fun _ => 0))), (kC, .inl (cI, 20, .inl g1)), (kD, .inl (cI, 20, .inl g2)), (kE, .inl (cI, 20, .inl g3)), (kF, .inl (cI, 20, .inl g4))]) [0, 1, 2, 3, 4, 5, 6] rfl
  have hDc := hD.sub (ws' := [(k0, .inr (9, [.ref kN, .ref kA, .ref kO, .ref kK, .ref kV, .ref kG, .ref kP, .ref kC, .ref kD, .ref kE, .ref kF, .ref kX, .ref kY, .int 0, .ref kT, .ref kU, .int 0, .int 0, .int 0])), (kN, .inl (cI, 2, .inl (fun _ => 0))), (kA, .inl (cI, 2, .inl (fun _ => 0))), (kC, .inl (cI, 20, .inl g1)), (kD, .inl (cI, 20, .inl g2)), (kE, .inl (cI, 20, .inl g3)), (kF, .inl (cI, 20, .inl g4))]) [0, 1, 2, 3, 4, 5, 6] (by decide) rfl
  have hKc := hK.sub (tys' := [(cI, .int)]) [0] rfl
  have hFc := va_free (wc := [(k0, .inr (9, [.ref kN, .ref kA, .ref kO, .ref kK, .ref kV, .ref kG, .ref kP, .ref kC, .ref kD, .ref kE, .ref kF, .ref kX, .ref kY, .int 0, .ref kT, .ref kU, .int 0, .int 0, .int 0])), (kN, .inl (cI, 2, .inl (fun _ => 0))), (kA, .inl (cI, 2, .inl (fun _ => 0))), (kC, .inl (cI, 20, .inl g1)), (kD, .inl (cI, 20, .inl g2)), (kE, .inl (cI, 20, .inl g3)), (kF, .inl (cI, 20, .inl g4))]) hD hS hA [0, 1, 2, 3, 4, 5, 6] rfl
  refine va_callv (va_runV (As := []) (rest := []) ⟨hx, hb, hml, hown, hts⟩ (kX6_colours l dC dI k0 kN kA kO kK kV kG kP kC kD kE kF kX kY kT kU cI g1 g2 g3 g4 s.heap.size) (cwV 0 hts gX6_equalShare_X6_colours rfl rfl rfl (by decide +kernel) ⟨Nat.le_of_ble_eq_true rfl, Nat.le_of_ble_eq_true rfl⟩) (fPreV hN hZ hS (fun q h => hFc q h) hPc hKc hDc (ci := 9) (q0 := 0) rfl rfl) rfl rfl hl.1 rfl (lv_room (Nat.le_of_ble_eq_true rfl)) dX6_equalShare_1 ⟨Nat.le_of_ble_eq_true rfl, Nat.le_of_ble_eq_true rfl⟩) hS (fun q _ h => hFc q h) hFc (fun u t H1 locs ht hvm hw hB hz1 hk1 hS => ?_)
  obtain ⟨hP1, hK1, hD1⟩ := hB
  rw [ht] at hP1
  have hK1 := va_K.moved hvm.symm hK1
  obtain ⟨u1, u2⟩ := u
  obtain ⟨hP, hD⟩ := va_join (wr := []) (w1 := [(k0, .inr (9, [.ref kN, .ref kA, .ref kO, .ref kK, .ref kV, .ref kG, .ref kP, .ref kC, .ref kD, .ref kE, .ref kF, .ref kX, .ref kY, .int 0, .ref kT, .ref kU, .int 0, .int 0, .int 0])), (kN, .inl (cI, 2, .inl (fun _ => 0))), (kA, .inl (cI, 2, .inl (fun _ => 0))), (kC, .inl (cI, 20, .inl u1)), (kD, .inl (cI, 20, .inl u2))]) hP hD [0, 1, 2, 3, 4, 5, 6] [] rfl rfl (by decide) (by decide) hk1 hFc hP1 hD1
  generalize H1 = H at hP hS ⊢
  have hP : va_P (dC, dI) vwCl [(k0, .inr (9, [.ref kN, .ref kA, .ref kO, .ref kK, .ref kV, .ref kG, .ref kP, .ref kC, .ref kD, .ref kE, .ref kF, .ref kX, .ref kY, .int 0, .ref kT, .ref kU, .int 0, .int 0, .int 0])), (kN, .inl (cI, 2, .inl (fun _ => 0))), (kA, .inl (cI, 2, .inl (fun _ => 0))), (kC, .inl (cI, 20, .inl u1)), (kD, .inl (cI, 20, .inl u2))] _ := hP
  have hD : va_D A [(k0, .inr (9, [.ref kN, .ref kA, .ref kO, .ref kK, .ref kV, .ref kG, .ref kP, .ref kC, .ref kD, .ref kE, .ref kF, .ref kX, .ref kY, .int 0, .ref kT, .ref kU, .int 0, .int 0, .int 0])), (kN, .inl (cI, 2, .inl (fun _ => 0))), (kA, .inl (cI, 2, .inl (fun _ => 0))), (kC, .inl (cI, 20, .inl u1)), (kD, .inl (cI, 20, .inl u2))] := hD
  refine W.widen (k := 2) (n := 40) (Nat.le_of_ble_eq_true rfl) (Nat.le_of_ble_eq_true rfl) ?_
  have hu3 := hw
  refine lv_aload_n hx hb dX6_equalShare_4 rfl (lv_at hl 0 rfl) ?_
  refine va_get (D := (dC, dI)) (ci := 9) (v := .ref kC) (C := RX6) (T := TX6) (N := 19) hx hb hts (fun w h => List.mem_cons_of_mem _ (List.mem_append_left _ (List.mem_append_right _ (h)))) hown hK hP 0 rfl rfl 7 (by decide) (hts (.fieldLink RX6 33 "NetcompareModel" "netColours" "[I") (List.mem_cons_of_mem _ (List.mem_append_left _ (List.mem_append_left _ (List.mem_append_left _ (List.mem_of_getElem? (i := 0) rfl)))))) (fun _ h9 => h9) rfl dX6_equalShare_5 ?_
  have hPc := hP.sub (ws' := [(kC, .inl (cI, 20, .inl u1))]) [3] rfl
  have hDc := hD.sub (ws' := [(kC, .inl (cI, 20, .inl u1))]) [3] (by decide) rfl
  have hKc := hK.sub (tys' := [(cI, .int)]) [0] rfl
  have hFc := va_free (wc := [(kC, .inl (cI, 20, .inl u1))]) hD hS hA [3] rfl
  refine va_calli (va_runS (As := [.ref kC]) (rest := []) ⟨hx, hb, hml, hown, hts⟩ (kX6_classes l dC dI kC cI u1 H.size hu3.1) (va_cwS 1 hts gX6_equalShare_X6_classes rfl rfl rfl (by decide +kernel) ⟨Nat.le_of_ble_eq_true rfl, Nat.le_of_ble_eq_true rfl⟩) (fPreS hN hZ hS (fun q h => hFc q h) hPc hKc hDc) rfl rfl hl.1 rfl (lv_room (Nat.le_of_ble_eq_true rfl)) dX6_equalShare_8 ⟨Nat.le_of_ble_eq_true rfl, Nat.le_of_ble_eq_true rfl⟩) hS (fun q _ h => hFc q h) hFc (fun r u t H1 locs ht hvm hw hB hz1 hk1 hS => ?_)
  obtain ⟨hP1, hK1, hD1⟩ := hB
  rw [ht] at hP1
  have hK1 := va_K.moved hvm.symm hK1
  obtain ⟨hP, hD⟩ := va_join (wr := [(k0, .inr (9, [.ref kN, .ref kA, .ref kO, .ref kK, .ref kV, .ref kG, .ref kP, .ref kC, .ref kD, .ref kE, .ref kF, .ref kX, .ref kY, .int 0, .ref kT, .ref kU, .int 0, .int 0, .int 0])), (kN, .inl (cI, 2, .inl (fun _ => 0))), (kA, .inl (cI, 2, .inl (fun _ => 0))), (kD, .inl (cI, 20, .inl u2))]) (w1 := [(kC, .inl (cI, 20, .inl u1))]) hP hD [3] [0, 1, 2, 4] rfl rfl (by decide) (by decide) hk1 hFc hP1 hD1
  generalize H1 = H at hP hS ⊢
  have hP : va_P (dC, dI) vwCl [(k0, .inr (9, [.ref kN, .ref kA, .ref kO, .ref kK, .ref kV, .ref kG, .ref kP, .ref kC, .ref kD, .ref kE, .ref kF, .ref kX, .ref kY, .int 0, .ref kT, .ref kU, .int 0, .int 0, .int 0])), (kN, .inl (cI, 2, .inl (fun _ => 0))), (kA, .inl (cI, 2, .inl (fun _ => 0))), (kD, .inl (cI, 20, .inl u2)), (kC, .inl (cI, 20, .inl u1))] _ := hP
  have hD : va_D A [(k0, .inr (9, [.ref kN, .ref kA, .ref kO, .ref kK, .ref kV, .ref kG, .ref kP, .ref kC, .ref kD, .ref kE, .ref kF, .ref kX, .ref kY, .int 0, .ref kT, .ref kU, .int 0, .int 0, .int 0])), (kN, .inl (cI, 2, .inl (fun _ => 0))), (kA, .inl (cI, 2, .inl (fun _ => 0))), (kD, .inl (cI, 20, .inl u2)), (kC, .inl (cI, 20, .inl u1))] := hD
  subst hw
  refine lv_aload_n hx hb dX6_equalShare_11 rfl (lv_at hl 0 rfl) ?_
  refine va_get (D := (dC, dI)) (ci := 9) (v := .ref kD) (C := RX6) (T := TX6) (N := 19) hx hb hts (fun w h => List.mem_cons_of_mem _ (List.mem_append_left _ (List.mem_append_right _ (h)))) hown hK hP 0 rfl rfl 8 (by decide) (hts (.fieldLink RX6 36 "NetcompareModel" "partColours" "[I") (List.mem_cons_of_mem _ (List.mem_append_left _ (List.mem_append_left _ (List.mem_append_left _ (List.mem_of_getElem? (i := 1) rfl)))))) (fun _ h9 => h9) rfl dX6_equalShare_12 ?_
  have hPc := hP.sub (ws' := [(kD, .inl (cI, 20, .inl u2))]) [3] rfl
  have hDc := hD.sub (ws' := [(kD, .inl (cI, 20, .inl u2))]) [3] (by decide) rfl
  have hKc := hK.sub (tys' := [(cI, .int)]) [0] rfl
  have hFc := va_free (wc := [(kD, .inl (cI, 20, .inl u2))]) hD hS hA [3] rfl
  refine va_calli (va_runS (As := [.ref kD]) (rest := [.int 0]) ⟨hx, hb, hml, hown, hts⟩ (kX6_classes l dC dI kD cI u2 H.size hu3.2) (va_cwS 1 hts gX6_equalShare_X6_classes rfl rfl rfl (by decide +kernel) ⟨Nat.le_of_ble_eq_true rfl, Nat.le_of_ble_eq_true rfl⟩) (fPreS hN hZ hS (fun q h => hFc q h) hPc hKc hDc) rfl rfl hl.1 rfl (lv_room (Nat.le_of_ble_eq_true rfl)) dX6_equalShare_15 ⟨Nat.le_of_ble_eq_true rfl, Nat.le_of_ble_eq_true rfl⟩) hS (fun q _ h => hFc q h) hFc (fun r u t H1 locs ht hvm hw hB hz1 hk1 hS => ?_)
  obtain ⟨hP1, hK1, hD1⟩ := hB
  rw [ht] at hP1
  have hK1 := va_K.moved hvm.symm hK1
  obtain ⟨hP, hD⟩ := va_join (wr := [(k0, .inr (9, [.ref kN, .ref kA, .ref kO, .ref kK, .ref kV, .ref kG, .ref kP, .ref kC, .ref kD, .ref kE, .ref kF, .ref kX, .ref kY, .int 0, .ref kT, .ref kU, .int 0, .int 0, .int 0])), (kN, .inl (cI, 2, .inl (fun _ => 0))), (kA, .inl (cI, 2, .inl (fun _ => 0))), (kC, .inl (cI, 20, .inl u1))]) (w1 := [(kD, .inl (cI, 20, .inl u2))]) hP hD [3] [0, 1, 2, 4] rfl rfl (by decide) (by decide) hk1 hFc hP1 hD1
  generalize H1 = H at hP hS ⊢
  have hP : va_P (dC, dI) vwCl [(k0, .inr (9, [.ref kN, .ref kA, .ref kO, .ref kK, .ref kV, .ref kG, .ref kP, .ref kC, .ref kD, .ref kE, .ref kF, .ref kX, .ref kY, .int 0, .ref kT, .ref kU, .int 0, .int 0, .int 0])), (kN, .inl (cI, 2, .inl (fun _ => 0))), (kA, .inl (cI, 2, .inl (fun _ => 0))), (kC, .inl (cI, 20, .inl u1)), (kD, .inl (cI, 20, .inl u2))] _ := hP
  have hD : va_D A [(k0, .inr (9, [.ref kN, .ref kA, .ref kO, .ref kK, .ref kV, .ref kG, .ref kP, .ref kC, .ref kD, .ref kE, .ref kF, .ref kX, .ref kY, .int 0, .ref kT, .ref kU, .int 0, .int 0, .int 0])), (kN, .inl (cI, 2, .inl (fun _ => 0))), (kA, .inl (cI, 2, .inl (fun _ => 0))), (kC, .inl (cI, 20, .inl u1)), (kD, .inl (cI, 20, .inl u2))] := hD
  subst hw
  refine lv_iadd hx hb dX6_equalShare_18 ?_
  refine lv_topi (fun y4 ey4 => ?_)
  obtain rfl : y4 = 0 := ey4.trans (by decide)
  refine lv_istore_n (lv' := [(1, .int 0), (0, .ref k0)]) hx hb dX6_equalShare_19 rfl hl (Nat.le_of_ble_eq_true rfl) rfl (fun ls hl => ?_)
  refine lv_aload_n hx hb dX6_equalShare_20 rfl (lv_at hl 1 rfl) ?_
  refine lv_iload_n hx hb dX6_equalShare_21 rfl (lv_at hl 0 rfl) ?_
  refine lv_if_ne (tgt := 29) hx hb dX6_equalShare_22 (by decide) (fun h9 => absurd (by decide) h9) (fun _ => ?_)
  refine lv_iconst (v := 1) hx hb dX6_equalShare_25 (by decide) ?_
  refine lv_goto (tgt := 30) hx hb dX6_equalShare_26 (by decide) ?_
  refine va_put (D := (dC, dI)) (ci := 9) (v := .int 1) (ty := .int) (C := RX6) (T := TX6) (N := 19) hx hb hts (fun w h => List.mem_cons_of_mem _ (List.mem_append_left _ (List.mem_append_right _ (h)))) tyX6 tyX6_ok nmX6 hown hK hP hD hS 0 rfl rfl 16 (by decide) (hts (.fieldLink RX6 57 "NetcompareModel" "thrown" "I") (List.mem_cons_of_mem _ (List.mem_append_left _ (List.mem_append_left _ (List.mem_append_left _ (List.mem_of_getElem? (i := 2) rfl)))))) (fun _ h9 => h9) rfl (by decide +kernel) rfl rfl (Nat.le_of_ble_eq_true rfl) dX6_equalShare_30 (fun H locs hP hD hS => ?_)
  have hP : va_P (dC, dI) vwCl [(k0, .inr (9, [.ref kN, .ref kA, .ref kO, .ref kK, .ref kV, .ref kG, .ref kP, .ref kC, .ref kD, .ref kE, .ref kF, .ref kX, .ref kY, .int 0, .ref kT, .ref kU, .int 1, .int 0, .int 0])), (kN, .inl (cI, 2, .inl (fun _ => 0))), (kA, .inl (cI, 2, .inl (fun _ => 0))), (kC, .inl (cI, 20, .inl u1)), (kD, .inl (cI, 20, .inl u2))] _ := hP
  have hD : va_D A [(k0, .inr (9, [.ref kN, .ref kA, .ref kO, .ref kK, .ref kV, .ref kG, .ref kP, .ref kC, .ref kD, .ref kE, .ref kF, .ref kX, .ref kY, .int 0, .ref kT, .ref kU, .int 1, .int 0, .int 0])), (kN, .inl (cI, 2, .inl (fun _ => 0))), (kA, .inl (cI, 2, .inl (fun _ => 0))), (kC, .inl (cI, 20, .inl u1)), (kD, .inl (cI, 20, .inl u2))] := hD
  refine lv_aload_n hx hb dX6_equalShare_33 rfl (lv_at hl 1 rfl) ?_
  refine va_get (D := (dC, dI)) (ci := 9) (v := .int 1) (C := RX6) (T := TX6) (N := 19) hx hb hts (fun w h => List.mem_cons_of_mem _ (List.mem_append_left _ (List.mem_append_right _ (h)))) hown hK hP 0 rfl rfl 16 (by decide) (hts (.fieldLink RX6 57 "NetcompareModel" "thrown" "I") (List.mem_cons_of_mem _ (List.mem_append_left _ (List.mem_append_left _ (List.mem_append_left _ (List.mem_of_getElem? (i := 2) rfl)))))) (fun _ h9 => h9) rfl dX6_equalShare_34 ?_
  refine lv_if_ne (tgt := 53) hx hb dX6_equalShare_37 (by decide) (fun _ => ?_) (fun h9 => absurd h9 (by decide))
  refine lv_fconst0 hx hb dX6_equalShare_53 ?_
  exact ret _ 1 _ _ _ _ _ _ (rfl) (hP.sub [0] rfl) (hK.sub [] rfl) (hD.sub [0] (by decide) rfl) hS (Nat.le_of_ble_eq_true rfl) (Nat.le_of_ble_eq_true rfl) dX6_equalShare_54

set_option maxHeartbeats 4000000 in
set_option maxRecDepth 100000 in
/-- the model: meanDistance on a fresh one -/
theorem kX6_meanDistance (l : Launch) (dC : Nat → ClassId) (dI : Nat → Nat → Nat) (k0 kN kA kO kK kV kG kP kC kD kE kF kX kY kT kU : Nat) (cI : ClassId) (p0 : Int32) (sz : Nat) : fMd l yX6_meanDistance wsX6_meanDistance ({ frames := 1, cells := 0, slots := 0, locals := 20 } : Room) dC dI [.ref k0, .int p0] [(k0, .inr (9, [.ref kN, .ref kA, .ref kO, .ref kK, .ref kV, .ref kG, .ref kP, .ref kC, .ref kD, .ref kE, .ref kF, .ref kX, .ref kY, .int 0, .ref kT, .ref kU, .int 0, .int 0, .int 0])), (kN, .inl (cI, 2, .inl (fun _ => 0))), (kA, .inl (cI, 2, .inl (fun _ => 0)))] [(cI, .int)] sz (fun (r : UInt64) (u : Int32) => u = 1 ∧ (¬ ((p0 = 0) ∨ (p0 = 1))) ∨ u = 2 ∧ ((p0 = 0) ∨ (p0 = 1))) (fun u => [(k0, .inr (9, [.ref kN, .ref kA, .ref kO, .ref kK, .ref kV, .ref kG, .ref kP, .ref kC, .ref kD, .ref kE, .ref kF, .ref kX, .ref kY, .int 0, .ref kT, .ref kU, .int u, .int 0, .int 0]))]) (fun u => []) := by
  refine oP_d (y := yX6_meanDistance) (cc := cX6_meanDistance) (maxL := 6) (by decide) rfl (Nat.le_of_ble_eq_true rfl) ?_
  intro p e s m args below meth c ls A Q hx hb hr hml hown hts hN hZ hA hin hlk hP hK hD hl ret
  have hS : va_S A s.heap s.heap [] := va_S.rf
  have hl : lv_has ls 6 [(0, .ref k0), (1, .int p0)] := hl
  have hP : va_P (dC, dI) vwCl [(k0, .inr (9, [.ref kN, .ref kA, .ref kO, .ref kK, .ref kV, .ref kG, .ref kP, .ref kC, .ref kD, .ref kE, .ref kF, .ref kX, .ref kY, .int 0, .ref kT, .ref kU, .int 0, .int 0, .int 0])), (kN, .inl (cI, 2, .inl (fun _ => 0))), (kA, .inl (cI, 2, .inl (fun _ => 0)))] _ := hP
  have hD : va_D A [(k0, .inr (9, [.ref kN, .ref kA, .ref kO, .ref kK, .ref kV, .ref kG, .ref kP, .ref kC, .ref kD, .ref kE, .ref kF, .ref kX, .ref kY, .int 0, .ref kT, .ref kU, .int 0, .int 0, .int 0])), (kN, .inl (cI, 2, .inl (fun _ => 0))), (kA, .inl (cI, 2, .inl (fun _ => 0)))] := hD
  refine lv_aload_n hx hb dX6_meanDistance_0 rfl (lv_at hl 0 rfl) ?_
  refine lv_iload_n hx hb dX6_meanDistance_1 rfl (lv_at hl 1 rfl) ?_
  have hPc := hP.sub (ws' := []) [] rfl
  have hDc := hD.sub (ws' := []) [] (by decide) rfl
  have hKc := hK.sub (tys' := []) [] rfl
  have hFc := va_free (wc := []) hD hS hA [] rfl
  refine va_calli (va_runS (As := [.int p0]) (rest := [.ref k0]) ⟨hx, hb, hml, hown, hts⟩ (kX6_isCircuit l dC dI p0 s.heap.size) (va_cwS 1 hts gX6_meanDistance_X6_isCircuit rfl rfl rfl (by decide +kernel) ⟨Nat.le_of_ble_eq_true rfl, Nat.le_of_ble_eq_true rfl⟩) (fPreS hN hZ hS (fun q h => hFc q h) hPc hKc hDc) rfl rfl hl.1 rfl (lv_room (Nat.le_of_ble_eq_true rfl)) dX6_meanDistance_2 ⟨Nat.le_of_ble_eq_true rfl, Nat.le_of_ble_eq_true rfl⟩) hS (fun q _ h => hFc q h) hFc (fun r u t H1 locs ht hvm hw hB hz1 hk1 hS => ?_)
  obtain ⟨hP1, hK1, hD1⟩ := hB
  rw [ht] at hP1
  have hK1 := va_K.moved hvm.symm hK1
  obtain ⟨hP, hD⟩ := va_join (wr := [(k0, .inr (9, [.ref kN, .ref kA, .ref kO, .ref kK, .ref kV, .ref kG, .ref kP, .ref kC, .ref kD, .ref kE, .ref kF, .ref kX, .ref kY, .int 0, .ref kT, .ref kU, .int 0, .int 0, .int 0])), (kN, .inl (cI, 2, .inl (fun _ => 0))), (kA, .inl (cI, 2, .inl (fun _ => 0)))]) (w1 := []) hP hD [] [0, 1, 2] rfl rfl (by decide) (by decide) hk1 hFc hP1 hD1
  generalize H1 = H at hP hS ⊢
  have hP : va_P (dC, dI) vwCl [(k0, .inr (9, [.ref kN, .ref kA, .ref kO, .ref kK, .ref kV, .ref kG, .ref kP, .ref kC, .ref kD, .ref kE, .ref kF, .ref kX, .ref kY, .int 0, .ref kT, .ref kU, .int 0, .int 0, .int 0])), (kN, .inl (cI, 2, .inl (fun _ => 0))), (kA, .inl (cI, 2, .inl (fun _ => 0)))] _ := hP
  have hD : va_D A [(k0, .inr (9, [.ref kN, .ref kA, .ref kO, .ref kK, .ref kV, .ref kG, .ref kP, .ref kC, .ref kD, .ref kE, .ref kF, .ref kX, .ref kY, .int 0, .ref kT, .ref kU, .int 0, .int 0, .int 0])), (kN, .inl (cI, 2, .inl (fun _ => 0))), (kA, .inl (cI, 2, .inl (fun _ => 0)))] := hD
  rcases hw with ⟨rfl, hc | hc⟩ | ⟨rfl, hc⟩
  · skip
    subst hc
    have hP : va_P (dC, dI) vwCl [(k0, .inr (9, [.ref kN, .ref kA, .ref kO, .ref kK, .ref kV, .ref kG, .ref kP, .ref kC, .ref kD, .ref kE, .ref kF, .ref kX, .ref kY, .int 0, .ref kT, .ref kU, .int 0, .int 0, .int 0])), (kN, .inl (cI, 2, .inl (fun _ => 0))), (kA, .inl (cI, 2, .inl (fun _ => 0)))] _ := hP
    have hD : va_D A [(k0, .inr (9, [.ref kN, .ref kA, .ref kO, .ref kK, .ref kV, .ref kG, .ref kP, .ref kC, .ref kD, .ref kE, .ref kF, .ref kX, .ref kY, .int 0, .ref kT, .ref kU, .int 0, .int 0, .int 0])), (kN, .inl (cI, 2, .inl (fun _ => 0))), (kA, .inl (cI, 2, .inl (fun _ => 0)))] := hD
    refine lv_if_eq (tgt := 12) hx hb dX6_meanDistance_5 (by decide) (fun h9 => absurd h9 (by decide)) (fun _ => ?_)
    refine lv_iconst (v := 0) hx hb dX6_meanDistance_8 (by decide) ?_
    refine lv_goto (tgt := 13) hx hb dX6_meanDistance_9 (by decide) ?_
    refine va_put (D := (dC, dI)) (ci := 9) (v := .int 0) (ty := .int) (C := RX6) (T := TX6) (N := 19) hx hb hts (fun w h => List.mem_cons_of_mem _ (List.mem_append_left _ (List.mem_append_right _ (h)))) tyX6 tyX6_ok nmX6 hown hK hP hD hS 0 rfl rfl 16 (by decide) (hts (.fieldLink RX6 57 "NetcompareModel" "thrown" "I") (List.mem_cons_of_mem _ (List.mem_append_left _ (List.mem_append_left _ (List.mem_append_left _ (List.mem_of_getElem? (i := 0) rfl)))))) (fun _ h9 => h9) rfl (by decide +kernel) rfl rfl (Nat.le_of_ble_eq_true rfl) dX6_meanDistance_13 (fun H locs hP hD hS => ?_)
    have hP : va_P (dC, dI) vwCl [(k0, .inr (9, [.ref kN, .ref kA, .ref kO, .ref kK, .ref kV, .ref kG, .ref kP, .ref kC, .ref kD, .ref kE, .ref kF, .ref kX, .ref kY, .int 0, .ref kT, .ref kU, .int 0, .int 0, .int 0])), (kN, .inl (cI, 2, .inl (fun _ => 0))), (kA, .inl (cI, 2, .inl (fun _ => 0)))] _ := hP
    have hD : va_D A [(k0, .inr (9, [.ref kN, .ref kA, .ref kO, .ref kK, .ref kV, .ref kG, .ref kP, .ref kC, .ref kD, .ref kE, .ref kF, .ref kX, .ref kY, .int 0, .ref kT, .ref kU, .int 0, .int 0, .int 0])), (kN, .inl (cI, 2, .inl (fun _ => 0))), (kA, .inl (cI, 2, .inl (fun _ => 0)))] := hD
    refine lv_iconst (v := 0) hx hb dX6_meanDistance_16 (by decide) ?_
    refine lv_istore_n (lv' := [(2, .int 0), (0, .ref k0), (1, .int 0)]) hx hb dX6_meanDistance_17 rfl hl (Nat.le_of_ble_eq_true rfl) rfl (fun ls hl => ?_)
    refine lv_iconst (v := 0) hx hb dX6_meanDistance_18 (by decide) ?_
    refine lv_istore_n (lv' := [(3, .int 0), (2, .int 0), (0, .ref k0), (1, .int 0)]) hx hb dX6_meanDistance_19 rfl hl (Nat.le_of_ble_eq_true rfl) rfl (fun ls hl => ?_)
    refine lv_iconst (v := 0) hx hb dX6_meanDistance_20 (by decide) ?_
    refine lv_istore (lv' := [(4, .int 0), (3, .int 0), (2, .int 0), (0, .ref k0), (1, .int 0)]) hx hb dX6_meanDistance_21 hl (Nat.le_of_ble_eq_true rfl) rfl (fun ls hl => ?_)
    refine lv_aload_n hx hb dX6_meanDistance_23 rfl (lv_at hl 3 rfl) ?_
    refine va_get (D := (dC, dI)) (ci := 9) (v := .int 0) (C := RX6) (T := TX6) (N := 19) hx hb hts (fun w h => List.mem_cons_of_mem _ (List.mem_append_left _ (List.mem_append_right _ (h)))) hown hK hP 0 rfl rfl 16 (by decide) (hts (.fieldLink RX6 57 "NetcompareModel" "thrown" "I") (List.mem_cons_of_mem _ (List.mem_append_left _ (List.mem_append_left _ (List.mem_append_left _ (List.mem_of_getElem? (i := 0) rfl)))))) (fun _ h9 => h9) rfl dX6_meanDistance_24 ?_
    refine lv_if_ne (tgt := 87) hx hb dX6_meanDistance_27 (by decide) (fun h9 => absurd (by decide) h9) (fun _ => ?_)
    refine lv_iload hx hb dX6_meanDistance_30 (lv_at hl 0 rfl) ?_
    refine lv_aload_n hx hb dX6_meanDistance_32 rfl (lv_at hl 3 rfl) ?_
    refine va_get (D := (dC, dI)) (ci := 9) (v := .ref kN) (C := RX6) (T := TX6) (N := 19) hx hb hts (fun w h => List.mem_cons_of_mem _ (List.mem_append_left _ (List.mem_append_right _ (h)))) hown hK hP 0 rfl rfl 0 (by decide) (hts (.fieldLink RX6 7 "NetcompareModel" "nets" "[I") (List.mem_cons_of_mem _ (List.mem_append_left _ (List.mem_append_left _ (List.mem_append_left _ (List.mem_of_getElem? (i := 1) rfl)))))) (fun _ h9 => h9) rfl dX6_meanDistance_33 ?_
    refine lv_iload_n hx hb dX6_meanDistance_36 rfl (lv_at hl 4 rfl) ?_
    refine va_iald hx hb hK hP 1 0 rfl rfl (show ¬ (_ ∨ _) by decide) dX6_meanDistance_37 ?_
    refine W.eq (g2 := F0 m 38 ls [.int 0, .int 0]) rfl ?_
    refine lv_icmp_ge (tgt := 87) hx hb dX6_meanDistance_38 (by decide) (fun _ => ?_) (fun h9 => absurd (by decide) h9)
    refine lv_aload_n hx hb dX6_meanDistance_87 rfl (lv_at hl 3 rfl) ?_
    refine lv_aload_n hx hb dX6_meanDistance_88 rfl (lv_at hl 3 rfl) ?_
    refine va_get (D := (dC, dI)) (ci := 9) (v := .int 0) (C := RX6) (T := TX6) (N := 19) hx hb hts (fun w h => List.mem_cons_of_mem _ (List.mem_append_left _ (List.mem_append_right _ (h)))) hown hK hP 0 rfl rfl 16 (by decide) (hts (.fieldLink RX6 57 "NetcompareModel" "thrown" "I") (List.mem_cons_of_mem _ (List.mem_append_left _ (List.mem_append_left _ (List.mem_append_left _ (List.mem_of_getElem? (i := 0) rfl)))))) (fun _ h9 => h9) rfl dX6_meanDistance_89 ?_
    refine lv_if_ne (tgt := 103) hx hb dX6_meanDistance_92 (by decide) (fun h9 => absurd (by decide) h9) (fun _ => ?_)
    refine lv_iload_n hx hb dX6_meanDistance_95 rfl (lv_at hl 2 rfl) ?_
    refine lv_if_ne (tgt := 103) hx hb dX6_meanDistance_96 (by decide) (fun h9 => absurd (by decide) h9) (fun _ => ?_)
    refine lv_iconst (v := 2) hx hb dX6_meanDistance_99 (by decide) ?_
    refine lv_goto (tgt := 107) hx hb dX6_meanDistance_100 (by decide) ?_
    refine va_put (D := (dC, dI)) (ci := 9) (v := .int 2) (ty := .int) (C := RX6) (T := TX6) (N := 19) hx hb hts (fun w h => List.mem_cons_of_mem _ (List.mem_append_left _ (List.mem_append_right _ (h)))) tyX6 tyX6_ok nmX6 hown hK hP hD hS 0 rfl rfl 16 (by decide) (hts (.fieldLink RX6 57 "NetcompareModel" "thrown" "I") (List.mem_cons_of_mem _ (List.mem_append_left _ (List.mem_append_left _ (List.mem_append_left _ (List.mem_of_getElem? (i := 0) rfl)))))) (fun _ h9 => h9) rfl (by decide +kernel) rfl rfl (Nat.le_of_ble_eq_true rfl) dX6_meanDistance_107 (fun H locs hP hD hS => ?_)
    have hP : va_P (dC, dI) vwCl [(k0, .inr (9, [.ref kN, .ref kA, .ref kO, .ref kK, .ref kV, .ref kG, .ref kP, .ref kC, .ref kD, .ref kE, .ref kF, .ref kX, .ref kY, .int 0, .ref kT, .ref kU, .int 2, .int 0, .int 0])), (kN, .inl (cI, 2, .inl (fun _ => 0))), (kA, .inl (cI, 2, .inl (fun _ => 0)))] _ := hP
    have hD : va_D A [(k0, .inr (9, [.ref kN, .ref kA, .ref kO, .ref kK, .ref kV, .ref kG, .ref kP, .ref kC, .ref kD, .ref kE, .ref kF, .ref kX, .ref kY, .int 0, .ref kT, .ref kU, .int 2, .int 0, .int 0])), (kN, .inl (cI, 2, .inl (fun _ => 0))), (kA, .inl (cI, 2, .inl (fun _ => 0)))] := hD
    refine lv_aload_n hx hb dX6_meanDistance_110 rfl (lv_at hl 3 rfl) ?_
    refine va_get (D := (dC, dI)) (ci := 9) (v := .int 2) (C := RX6) (T := TX6) (N := 19) hx hb hts (fun w h => List.mem_cons_of_mem _ (List.mem_append_left _ (List.mem_append_right _ (h)))) hown hK hP 0 rfl rfl 16 (by decide) (hts (.fieldLink RX6 57 "NetcompareModel" "thrown" "I") (List.mem_cons_of_mem _ (List.mem_append_left _ (List.mem_append_left _ (List.mem_append_left _ (List.mem_of_getElem? (i := 0) rfl)))))) (fun _ h9 => h9) rfl dX6_meanDistance_111 ?_
    refine lv_if_ne (tgt := 125) hx hb dX6_meanDistance_114 (by decide) (fun _ => ?_) (fun h9 => absurd h9 (by decide))
    refine lv_dconst0 hx hb dX6_meanDistance_125 ?_
    exact ret _ 2 _ _ _ _ _ _ (Or.inr (⟨rfl, Or.inl (rfl)⟩)) (hP.sub [0] rfl) (hK.sub [] rfl) (hD.sub [0] (by decide) rfl) hS (Nat.le_of_ble_eq_true rfl) (Nat.le_of_ble_eq_true rfl) dX6_meanDistance_126
  · skip
    subst hc
    have hP : va_P (dC, dI) vwCl [(k0, .inr (9, [.ref kN, .ref kA, .ref kO, .ref kK, .ref kV, .ref kG, .ref kP, .ref kC, .ref kD, .ref kE, .ref kF, .ref kX, .ref kY, .int 0, .ref kT, .ref kU, .int 0, .int 0, .int 0])), (kN, .inl (cI, 2, .inl (fun _ => 0))), (kA, .inl (cI, 2, .inl (fun _ => 0)))] _ := hP
    have hD : va_D A [(k0, .inr (9, [.ref kN, .ref kA, .ref kO, .ref kK, .ref kV, .ref kG, .ref kP, .ref kC, .ref kD, .ref kE, .ref kF, .ref kX, .ref kY, .int 0, .ref kT, .ref kU, .int 0, .int 0, .int 0])), (kN, .inl (cI, 2, .inl (fun _ => 0))), (kA, .inl (cI, 2, .inl (fun _ => 0)))] := hD
    refine lv_if_eq (tgt := 12) hx hb dX6_meanDistance_5 (by decide) (fun h9 => absurd h9 (by decide)) (fun _ => ?_)
    refine lv_iconst (v := 0) hx hb dX6_meanDistance_8 (by decide) ?_
    refine lv_goto (tgt := 13) hx hb dX6_meanDistance_9 (by decide) ?_
    refine va_put (D := (dC, dI)) (ci := 9) (v := .int 0) (ty := .int) (C := RX6) (T := TX6) (N := 19) hx hb hts (fun w h => List.mem_cons_of_mem _ (List.mem_append_left _ (List.mem_append_right _ (h)))) tyX6 tyX6_ok nmX6 hown hK hP hD hS 0 rfl rfl 16 (by decide) (hts (.fieldLink RX6 57 "NetcompareModel" "thrown" "I") (List.mem_cons_of_mem _ (List.mem_append_left _ (List.mem_append_left _ (List.mem_append_left _ (List.mem_of_getElem? (i := 0) rfl)))))) (fun _ h9 => h9) rfl (by decide +kernel) rfl rfl (Nat.le_of_ble_eq_true rfl) dX6_meanDistance_13 (fun H locs hP hD hS => ?_)
    have hP : va_P (dC, dI) vwCl [(k0, .inr (9, [.ref kN, .ref kA, .ref kO, .ref kK, .ref kV, .ref kG, .ref kP, .ref kC, .ref kD, .ref kE, .ref kF, .ref kX, .ref kY, .int 0, .ref kT, .ref kU, .int 0, .int 0, .int 0])), (kN, .inl (cI, 2, .inl (fun _ => 0))), (kA, .inl (cI, 2, .inl (fun _ => 0)))] _ := hP
    have hD : va_D A [(k0, .inr (9, [.ref kN, .ref kA, .ref kO, .ref kK, .ref kV, .ref kG, .ref kP, .ref kC, .ref kD, .ref kE, .ref kF, .ref kX, .ref kY, .int 0, .ref kT, .ref kU, .int 0, .int 0, .int 0])), (kN, .inl (cI, 2, .inl (fun _ => 0))), (kA, .inl (cI, 2, .inl (fun _ => 0)))] := hD
    refine lv_iconst (v := 0) hx hb dX6_meanDistance_16 (by decide) ?_
    refine lv_istore_n (lv' := [(2, .int 0), (0, .ref k0), (1, .int 1)]) hx hb dX6_meanDistance_17 rfl hl (Nat.le_of_ble_eq_true rfl) rfl (fun ls hl => ?_)
    refine lv_iconst (v := 0) hx hb dX6_meanDistance_18 (by decide) ?_
    refine lv_istore_n (lv' := [(3, .int 0), (2, .int 0), (0, .ref k0), (1, .int 1)]) hx hb dX6_meanDistance_19 rfl hl (Nat.le_of_ble_eq_true rfl) rfl (fun ls hl => ?_)
    refine lv_iconst (v := 0) hx hb dX6_meanDistance_20 (by decide) ?_
    refine lv_istore (lv' := [(4, .int 0), (3, .int 0), (2, .int 0), (0, .ref k0), (1, .int 1)]) hx hb dX6_meanDistance_21 hl (Nat.le_of_ble_eq_true rfl) rfl (fun ls hl => ?_)
    refine lv_aload_n hx hb dX6_meanDistance_23 rfl (lv_at hl 3 rfl) ?_
    refine va_get (D := (dC, dI)) (ci := 9) (v := .int 0) (C := RX6) (T := TX6) (N := 19) hx hb hts (fun w h => List.mem_cons_of_mem _ (List.mem_append_left _ (List.mem_append_right _ (h)))) hown hK hP 0 rfl rfl 16 (by decide) (hts (.fieldLink RX6 57 "NetcompareModel" "thrown" "I") (List.mem_cons_of_mem _ (List.mem_append_left _ (List.mem_append_left _ (List.mem_append_left _ (List.mem_of_getElem? (i := 0) rfl)))))) (fun _ h9 => h9) rfl dX6_meanDistance_24 ?_
    refine lv_if_ne (tgt := 87) hx hb dX6_meanDistance_27 (by decide) (fun h9 => absurd (by decide) h9) (fun _ => ?_)
    refine lv_iload hx hb dX6_meanDistance_30 (lv_at hl 0 rfl) ?_
    refine lv_aload_n hx hb dX6_meanDistance_32 rfl (lv_at hl 3 rfl) ?_
    refine va_get (D := (dC, dI)) (ci := 9) (v := .ref kN) (C := RX6) (T := TX6) (N := 19) hx hb hts (fun w h => List.mem_cons_of_mem _ (List.mem_append_left _ (List.mem_append_right _ (h)))) hown hK hP 0 rfl rfl 0 (by decide) (hts (.fieldLink RX6 7 "NetcompareModel" "nets" "[I") (List.mem_cons_of_mem _ (List.mem_append_left _ (List.mem_append_left _ (List.mem_append_left _ (List.mem_of_getElem? (i := 1) rfl)))))) (fun _ h9 => h9) rfl dX6_meanDistance_33 ?_
    refine lv_iload_n hx hb dX6_meanDistance_36 rfl (lv_at hl 4 rfl) ?_
    refine va_iald hx hb hK hP 1 0 rfl rfl (show ¬ (_ ∨ _) by decide) dX6_meanDistance_37 ?_
    refine W.eq (g2 := F0 m 38 ls [.int 0, .int 0]) rfl ?_
    refine lv_icmp_ge (tgt := 87) hx hb dX6_meanDistance_38 (by decide) (fun _ => ?_) (fun h9 => absurd (by decide) h9)
    refine lv_aload_n hx hb dX6_meanDistance_87 rfl (lv_at hl 3 rfl) ?_
    refine lv_aload_n hx hb dX6_meanDistance_88 rfl (lv_at hl 3 rfl) ?_
    refine va_get (D := (dC, dI)) (ci := 9) (v := .int 0) (C := RX6) (T := TX6) (N := 19) hx hb hts (fun w h => List.mem_cons_of_mem _ (List.mem_append_left _ (List.mem_append_right _ (h)))) hown hK hP 0 rfl rfl 16 (by decide) (hts (.fieldLink RX6 57 "NetcompareModel" "thrown" "I") (List.mem_cons_of_mem _ (List.mem_append_left _ (List.mem_append_left _ (List.mem_append_left _ (List.mem_of_getElem? (i := 0) rfl)))))) (fun _ h9 => h9) rfl dX6_meanDistance_89 ?_
    refine lv_if_ne (tgt := 103) hx hb dX6_meanDistance_92 (by decide) (fun h9 => absurd (by decide) h9) (fun _ => ?_)
    refine lv_iload_n hx hb dX6_meanDistance_95 rfl (lv_at hl 2 rfl) ?_
    refine lv_if_ne (tgt := 103) hx hb dX6_meanDistance_96 (by decide) (fun h9 => absurd (by decide) h9) (fun _ => ?_)
    refine lv_iconst (v := 2) hx hb dX6_meanDistance_99 (by decide) ?_
    refine lv_goto (tgt := 107) hx hb dX6_meanDistance_100 (by decide) ?_
    refine va_put (D := (dC, dI)) (ci := 9) (v := .int 2) (ty := .int) (C := RX6) (T := TX6) (N := 19) hx hb hts (fun w h => List.mem_cons_of_mem _ (List.mem_append_left _ (List.mem_append_right _ (h)))) tyX6 tyX6_ok nmX6 hown hK hP hD hS 0 rfl rfl 16 (by decide) (hts (.fieldLink RX6 57 "NetcompareModel" "thrown" "I") (List.mem_cons_of_mem _ (List.mem_append_left _ (List.mem_append_left _ (List.mem_append_left _ (List.mem_of_getElem? (i := 0) rfl)))))) (fun _ h9 => h9) rfl (by decide +kernel) rfl rfl (Nat.le_of_ble_eq_true rfl) dX6_meanDistance_107 (fun H locs hP hD hS => ?_)
    have hP : va_P (dC, dI) vwCl [(k0, .inr (9, [.ref kN, .ref kA, .ref kO, .ref kK, .ref kV, .ref kG, .ref kP, .ref kC, .ref kD, .ref kE, .ref kF, .ref kX, .ref kY, .int 0, .ref kT, .ref kU, .int 2, .int 0, .int 0])), (kN, .inl (cI, 2, .inl (fun _ => 0))), (kA, .inl (cI, 2, .inl (fun _ => 0)))] _ := hP
    have hD : va_D A [(k0, .inr (9, [.ref kN, .ref kA, .ref kO, .ref kK, .ref kV, .ref kG, .ref kP, .ref kC, .ref kD, .ref kE, .ref kF, .ref kX, .ref kY, .int 0, .ref kT, .ref kU, .int 2, .int 0, .int 0])), (kN, .inl (cI, 2, .inl (fun _ => 0))), (kA, .inl (cI, 2, .inl (fun _ => 0)))] := hD
    refine lv_aload_n hx hb dX6_meanDistance_110 rfl (lv_at hl 3 rfl) ?_
    refine va_get (D := (dC, dI)) (ci := 9) (v := .int 2) (C := RX6) (T := TX6) (N := 19) hx hb hts (fun w h => List.mem_cons_of_mem _ (List.mem_append_left _ (List.mem_append_right _ (h)))) hown hK hP 0 rfl rfl 16 (by decide) (hts (.fieldLink RX6 57 "NetcompareModel" "thrown" "I") (List.mem_cons_of_mem _ (List.mem_append_left _ (List.mem_append_left _ (List.mem_append_left _ (List.mem_of_getElem? (i := 0) rfl)))))) (fun _ h9 => h9) rfl dX6_meanDistance_111 ?_
    refine lv_if_ne (tgt := 125) hx hb dX6_meanDistance_114 (by decide) (fun _ => ?_) (fun h9 => absurd h9 (by decide))
    refine lv_dconst0 hx hb dX6_meanDistance_125 ?_
    exact ret _ 2 _ _ _ _ _ _ (Or.inr (⟨rfl, Or.inr (rfl)⟩)) (hP.sub [0] rfl) (hK.sub [] rfl) (hD.sub [0] (by decide) rfl) hS (Nat.le_of_ble_eq_true rfl) (Nat.le_of_ble_eq_true rfl) dX6_meanDistance_126
  · skip
    have hc1 := hc
    refine lv_if_eq (tgt := 12) hx hb dX6_meanDistance_5 (by decide) (fun _ => ?_) (fun h9 => absurd (by decide) h9)
    refine lv_iconst (v := 1) hx hb dX6_meanDistance_12 (by decide) ?_
    refine va_put (D := (dC, dI)) (ci := 9) (v := .int 1) (ty := .int) (C := RX6) (T := TX6) (N := 19) hx hb hts (fun w h => List.mem_cons_of_mem _ (List.mem_append_left _ (List.mem_append_right _ (h)))) tyX6 tyX6_ok nmX6 hown hK hP hD hS 0 rfl rfl 16 (by decide) (hts (.fieldLink RX6 57 "NetcompareModel" "thrown" "I") (List.mem_cons_of_mem _ (List.mem_append_left _ (List.mem_append_left _ (List.mem_append_left _ (List.mem_of_getElem? (i := 0) rfl)))))) (fun _ h9 => h9) rfl (by decide +kernel) rfl rfl (Nat.le_of_ble_eq_true rfl) dX6_meanDistance_13 (fun H locs hP hD hS => ?_)
    have hP : va_P (dC, dI) vwCl [(k0, .inr (9, [.ref kN, .ref kA, .ref kO, .ref kK, .ref kV, .ref kG, .ref kP, .ref kC, .ref kD, .ref kE, .ref kF, .ref kX, .ref kY, .int 0, .ref kT, .ref kU, .int 1, .int 0, .int 0])), (kN, .inl (cI, 2, .inl (fun _ => 0))), (kA, .inl (cI, 2, .inl (fun _ => 0)))] _ := hP
    have hD : va_D A [(k0, .inr (9, [.ref kN, .ref kA, .ref kO, .ref kK, .ref kV, .ref kG, .ref kP, .ref kC, .ref kD, .ref kE, .ref kF, .ref kX, .ref kY, .int 0, .ref kT, .ref kU, .int 1, .int 0, .int 0])), (kN, .inl (cI, 2, .inl (fun _ => 0))), (kA, .inl (cI, 2, .inl (fun _ => 0)))] := hD
    refine lv_iconst (v := 0) hx hb dX6_meanDistance_16 (by decide) ?_
    refine lv_istore_n (lv' := [(2, .int 0), (0, .ref k0), (1, .int p0)]) hx hb dX6_meanDistance_17 rfl hl (Nat.le_of_ble_eq_true rfl) rfl (fun ls hl => ?_)
    refine lv_iconst (v := 0) hx hb dX6_meanDistance_18 (by decide) ?_
    refine lv_istore_n (lv' := [(3, .int 0), (2, .int 0), (0, .ref k0), (1, .int p0)]) hx hb dX6_meanDistance_19 rfl hl (Nat.le_of_ble_eq_true rfl) rfl (fun ls hl => ?_)
    refine lv_iconst (v := 0) hx hb dX6_meanDistance_20 (by decide) ?_
    refine lv_istore (lv' := [(4, .int 0), (3, .int 0), (2, .int 0), (0, .ref k0), (1, .int p0)]) hx hb dX6_meanDistance_21 hl (Nat.le_of_ble_eq_true rfl) rfl (fun ls hl => ?_)
    refine lv_aload_n hx hb dX6_meanDistance_23 rfl (lv_at hl 3 rfl) ?_
    refine va_get (D := (dC, dI)) (ci := 9) (v := .int 1) (C := RX6) (T := TX6) (N := 19) hx hb hts (fun w h => List.mem_cons_of_mem _ (List.mem_append_left _ (List.mem_append_right _ (h)))) hown hK hP 0 rfl rfl 16 (by decide) (hts (.fieldLink RX6 57 "NetcompareModel" "thrown" "I") (List.mem_cons_of_mem _ (List.mem_append_left _ (List.mem_append_left _ (List.mem_append_left _ (List.mem_of_getElem? (i := 0) rfl)))))) (fun _ h9 => h9) rfl dX6_meanDistance_24 ?_
    refine lv_if_ne (tgt := 87) hx hb dX6_meanDistance_27 (by decide) (fun _ => ?_) (fun h9 => absurd h9 (by decide))
    refine lv_aload_n hx hb dX6_meanDistance_87 rfl (lv_at hl 3 rfl) ?_
    refine lv_aload_n hx hb dX6_meanDistance_88 rfl (lv_at hl 3 rfl) ?_
    refine va_get (D := (dC, dI)) (ci := 9) (v := .int 1) (C := RX6) (T := TX6) (N := 19) hx hb hts (fun w h => List.mem_cons_of_mem _ (List.mem_append_left _ (List.mem_append_right _ (h)))) hown hK hP 0 rfl rfl 16 (by decide) (hts (.fieldLink RX6 57 "NetcompareModel" "thrown" "I") (List.mem_cons_of_mem _ (List.mem_append_left _ (List.mem_append_left _ (List.mem_append_left _ (List.mem_of_getElem? (i := 0) rfl)))))) (fun _ h9 => h9) rfl dX6_meanDistance_89 ?_
    refine lv_if_ne (tgt := 103) hx hb dX6_meanDistance_92 (by decide) (fun _ => ?_) (fun h9 => absurd h9 (by decide))
    refine lv_aload_n hx hb dX6_meanDistance_103 rfl (lv_at hl 3 rfl) ?_
    refine va_get (D := (dC, dI)) (ci := 9) (v := .int 1) (C := RX6) (T := TX6) (N := 19) hx hb hts (fun w h => List.mem_cons_of_mem _ (List.mem_append_left _ (List.mem_append_right _ (h)))) hown hK hP 0 rfl rfl 16 (by decide) (hts (.fieldLink RX6 57 "NetcompareModel" "thrown" "I") (List.mem_cons_of_mem _ (List.mem_append_left _ (List.mem_append_left _ (List.mem_append_left _ (List.mem_of_getElem? (i := 0) rfl)))))) (fun _ h9 => h9) rfl dX6_meanDistance_104 ?_
    refine va_put (D := (dC, dI)) (ci := 9) (v := .int 1) (ty := .int) (C := RX6) (T := TX6) (N := 19) hx hb hts (fun w h => List.mem_cons_of_mem _ (List.mem_append_left _ (List.mem_append_right _ (h)))) tyX6 tyX6_ok nmX6 hown hK hP hD hS 0 rfl rfl 16 (by decide) (hts (.fieldLink RX6 57 "NetcompareModel" "thrown" "I") (List.mem_cons_of_mem _ (List.mem_append_left _ (List.mem_append_left _ (List.mem_append_left _ (List.mem_of_getElem? (i := 0) rfl)))))) (fun _ h9 => h9) rfl (by decide +kernel) rfl rfl (Nat.le_of_ble_eq_true rfl) dX6_meanDistance_107 (fun H locs hP hD hS => ?_)
    have hP : va_P (dC, dI) vwCl [(k0, .inr (9, [.ref kN, .ref kA, .ref kO, .ref kK, .ref kV, .ref kG, .ref kP, .ref kC, .ref kD, .ref kE, .ref kF, .ref kX, .ref kY, .int 0, .ref kT, .ref kU, .int 1, .int 0, .int 0])), (kN, .inl (cI, 2, .inl (fun _ => 0))), (kA, .inl (cI, 2, .inl (fun _ => 0)))] _ := hP
    have hD : va_D A [(k0, .inr (9, [.ref kN, .ref kA, .ref kO, .ref kK, .ref kV, .ref kG, .ref kP, .ref kC, .ref kD, .ref kE, .ref kF, .ref kX, .ref kY, .int 0, .ref kT, .ref kU, .int 1, .int 0, .int 0])), (kN, .inl (cI, 2, .inl (fun _ => 0))), (kA, .inl (cI, 2, .inl (fun _ => 0)))] := hD
    refine lv_aload_n hx hb dX6_meanDistance_110 rfl (lv_at hl 3 rfl) ?_
    refine va_get (D := (dC, dI)) (ci := 9) (v := .int 1) (C := RX6) (T := TX6) (N := 19) hx hb hts (fun w h => List.mem_cons_of_mem _ (List.mem_append_left _ (List.mem_append_right _ (h)))) hown hK hP 0 rfl rfl 16 (by decide) (hts (.fieldLink RX6 57 "NetcompareModel" "thrown" "I") (List.mem_cons_of_mem _ (List.mem_append_left _ (List.mem_append_left _ (List.mem_append_left _ (List.mem_of_getElem? (i := 0) rfl)))))) (fun _ h9 => h9) rfl dX6_meanDistance_111 ?_
    refine lv_if_ne (tgt := 125) hx hb dX6_meanDistance_114 (by decide) (fun _ => ?_) (fun h9 => absurd h9 (by decide))
    refine lv_dconst0 hx hb dX6_meanDistance_125 ?_
    exact ret _ 1 _ _ _ _ _ _ (Or.inl (⟨rfl, hc1⟩)) (hP.sub [0] rfl) (hK.sub [] rfl) (hD.sub [0] (by decide) rfl) hS (Nat.le_of_ble_eq_true rfl) (Nat.le_of_ble_eq_true rfl) dX6_meanDistance_126

set_option maxHeartbeats 4000000 in
set_option maxRecDepth 100000 in
/-- the model: thrown -/
theorem kX6_thrown (l : Launch) (dC : Nat → ClassId) (dI : Nat → Nat → Nat) (k0 kN kA kO kK kV kG kP kC kD kE kF kX kY kT kU : Nat) (t0 : Int32) (sz : Nat) : fMi l yX6_thrown wsX6_thrown ({ frames := 0, cells := 0, slots := 0, locals := 0 } : Room) dC dI [.ref k0] [(k0, .inr (9, [.ref kN, .ref kA, .ref kO, .ref kK, .ref kV, .ref kG, .ref kP, .ref kC, .ref kD, .ref kE, .ref kF, .ref kX, .ref kY, .int 0, .ref kT, .ref kU, .int t0, .int 0, .int 0]))] [] sz (fun (r : Int32) (u : Unit) => r = t0) (fun u => []) (fun u => []) := by
  refine oP_i (y := yX6_thrown) (cc := cX6_thrown) (maxL := 1) (by decide) rfl (Nat.le_of_ble_eq_true rfl) ?_
  intro p e s m args below meth c ls A Q hx hb hr hml hown hts hN hZ hA hin hlk hP hK hD hl ret
  have hS : va_S A s.heap s.heap [] := va_S.rf
  have hl : lv_has ls 1 [(0, .ref k0)] := hl
  have hP : va_P (dC, dI) vwCl [(k0, .inr (9, [.ref kN, .ref kA, .ref kO, .ref kK, .ref kV, .ref kG, .ref kP, .ref kC, .ref kD, .ref kE, .ref kF, .ref kX, .ref kY, .int 0, .ref kT, .ref kU, .int t0, .int 0, .int 0]))] _ := hP
  have hD : va_D A [(k0, .inr (9, [.ref kN, .ref kA, .ref kO, .ref kK, .ref kV, .ref kG, .ref kP, .ref kC, .ref kD, .ref kE, .ref kF, .ref kX, .ref kY, .int 0, .ref kT, .ref kU, .int t0, .int 0, .int 0]))] := hD
  refine lv_aload_n hx hb dX6_thrown_0 rfl (lv_at hl 0 rfl) ?_
  refine va_get (D := (dC, dI)) (ci := 9) (v := .int t0) (C := RX6) (T := TX6) (N := 19) hx hb hts (fun w h => List.mem_cons_of_mem _ (List.mem_append_right _ (h))) hown hK hP 0 rfl rfl 16 (by decide) (hts (.fieldLink RX6 57 "NetcompareModel" "thrown" "I") (List.mem_cons_of_mem _ (List.mem_append_left _ (List.mem_of_getElem? (i := 0) rfl)))) (fun _ h9 => h9) rfl dX6_thrown_1 ?_
  exact ret _ () _ _ _ _ _ _ (rfl) (hP.sub [] rfl) (hK.sub [] rfl) (hD.sub [] (by decide) rfl) hS (Nat.le_of_ble_eq_true rfl) (Nat.le_of_ble_eq_true rfl) dX6_thrown_4
