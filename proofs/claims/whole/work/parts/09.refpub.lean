theorem dX7_thrown_0 : decode cX7_thrown 0 = .ok (.aload_n 0, 1) := by decide +kernel
theorem dX7_thrown_1 : decode cX7_thrown 1 = .ok (.getfield 57, 3) := by decide +kernel
theorem dX7_thrown_4 : decode cX7_thrown 4 = .ok (.ireturn, 1) := by decide +kernel
set_option maxRecDepth 20000 in
theorem ggX7_addNet_X7_isCircuit : GoodIn wsX7_addNet wsX7_isCircuit := goodIn_r _ [7] (by decide +kernel) (by decide +kernel)
set_option maxRecDepth 20000 in
theorem gX7_addNet_X7_isCircuit : GoodIn wsX7_addNet (va_wsS RX7 81 yX7_isCircuit wsX7_isCircuit) := goodIn_app (goodIn_of _ (by decide +kernel)) ggX7_addNet_X7_isCircuit
theorem dX7_addNet_0 : decode cX7_addNet 0 = .ok (.aload_n 0, 1) := by decide +kernel
theorem dX7_addNet_1 : decode cX7_addNet 1 = .ok (.iload_n 1, 1) := by decide +kernel
theorem dX7_addNet_2 : decode cX7_addNet 2 = .ok (.invokestatic 81, 3) := by decide +kernel
theorem dX7_addNet_5 : decode cX7_addNet 5 = .ok (.ifCond .ne 7, 3) := by decide +kernel
theorem dX7_addNet_8 : decode cX7_addNet 8 = .ok (.iconst 1, 1) := by decide +kernel
theorem dX7_addNet_9 : decode cX7_addNet 9 = .ok (.goto 19, 3) := by decide +kernel
theorem dX7_addNet_12 : decode cX7_addNet 12 = .ok (.aload_n 0, 1) := by decide +kernel
theorem dX7_addNet_13 : decode cX7_addNet 13 = .ok (.getfield 7, 3) := by decide +kernel
theorem dX7_addNet_16 : decode cX7_addNet 16 = .ok (.iload_n 1, 1) := by decide +kernel
theorem dX7_addNet_17 : decode cX7_addNet 17 = .ok (.iaload, 1) := by decide +kernel
theorem dX7_addNet_18 : decode cX7_addNet 18 = .ok (.bipush 10, 2) := by decide +kernel
theorem dX7_addNet_20 : decode cX7_addNet 20 = .ok (.if_icmp .ne 7, 3) := by decide +kernel
theorem dX7_addNet_27 : decode cX7_addNet 27 = .ok (.iconst 0, 1) := by decide +kernel
theorem dX7_addNet_28 : decode cX7_addNet 28 = .ok (.putfield 57, 3) := by decide +kernel
theorem dX7_addNet_31 : decode cX7_addNet 31 = .ok (.aload_n 0, 1) := by decide +kernel
theorem dX7_addNet_32 : decode cX7_addNet 32 = .ok (.getfield 57, 3) := by decide +kernel
theorem dX7_addNet_35 : decode cX7_addNet 35 = .ok (.ifCond .le 5, 3) := by decide +kernel
theorem dX7_addNet_38 : decode cX7_addNet 38 = .ok (.iconst (-1), 1) := by decide +kernel
theorem dX7_addNet_39 : decode cX7_addNet 39 = .ok (.ireturn, 1) := by decide +kernel
theorem dX7_addNet_40 : decode cX7_addNet 40 = .ok (.aload_n 0, 1) := by decide +kernel
theorem dX7_addNet_41 : decode cX7_addNet 41 = .ok (.getfield 16, 3) := by decide +kernel
theorem dX7_addNet_44 : decode cX7_addNet 44 = .ok (.bipush 10, 2) := by decide +kernel
theorem dX7_addNet_46 : decode cX7_addNet 46 = .ok (.iload_n 1, 1) := by decide +kernel
theorem dX7_addNet_47 : decode cX7_addNet 47 = .ok (.imul, 1) := by decide +kernel
theorem dX7_addNet_48 : decode cX7_addNet 48 = .ok (.aload_n 0, 1) := by decide +kernel
theorem dX7_addNet_49 : decode cX7_addNet 49 = .ok (.getfield 7, 3) := by decide +kernel
theorem dX7_addNet_52 : decode cX7_addNet 52 = .ok (.iload_n 1, 1) := by decide +kernel
theorem dX7_addNet_53 : decode cX7_addNet 53 = .ok (.iaload, 1) := by decide +kernel
theorem dX7_addNet_54 : decode cX7_addNet 54 = .ok (.iadd, 1) := by decide +kernel
theorem dX7_addNet_55 : decode cX7_addNet 55 = .ok (.bipush 45, 2) := by decide +kernel
theorem dX7_addNet_57 : decode cX7_addNet 57 = .ok (.castore, 1) := by decide +kernel
theorem dX7_addNet_58 : decode cX7_addNet 58 = .ok (.aload_n 0, 1) := by decide +kernel
theorem dX7_addNet_59 : decode cX7_addNet 59 = .ok (.getfield 7, 3) := by decide +kernel
theorem dX7_addNet_62 : decode cX7_addNet 62 = .ok (.iload_n 1, 1) := by decide +kernel
theorem dX7_addNet_63 : decode cX7_addNet 63 = .ok (.dup2, 1) := by decide +kernel
theorem dX7_addNet_64 : decode cX7_addNet 64 = .ok (.iaload, 1) := by decide +kernel
theorem dX7_addNet_65 : decode cX7_addNet 65 = .ok (.iconst 1, 1) := by decide +kernel
theorem dX7_addNet_66 : decode cX7_addNet 66 = .ok (.iadd, 1) := by decide +kernel
theorem dX7_addNet_67 : decode cX7_addNet 67 = .ok (.iastore, 1) := by decide +kernel
theorem dX7_addNet_68 : decode cX7_addNet 68 = .ok (.aload_n 0, 1) := by decide +kernel
theorem dX7_addNet_69 : decode cX7_addNet 69 = .ok (.getfield 7, 3) := by decide +kernel
theorem dX7_addNet_72 : decode cX7_addNet 72 = .ok (.iload_n 1, 1) := by decide +kernel
theorem dX7_addNet_73 : decode cX7_addNet 73 = .ok (.iaload, 1) := by decide +kernel
theorem dX7_addNet_74 : decode cX7_addNet 74 = .ok (.iconst 1, 1) := by decide +kernel
theorem dX7_addNet_75 : decode cX7_addNet 75 = .ok (.isub, 1) := by decide +kernel
theorem dX7_addNet_76 : decode cX7_addNet 76 = .ok (.ireturn, 1) := by decide +kernel
set_option maxRecDepth 20000 in
theorem ggX7_setPort_X7_in : GoodIn wsX7_setPort wsX7_in := goodIn_r _ [9] (by decide +kernel) (by decide +kernel)
set_option maxRecDepth 20000 in
theorem gX7_setPort_X7_in : GoodIn wsX7_setPort (va_wsS RX7 61 yX7_in wsX7_in) := goodIn_app (goodIn_of _ (by decide +kernel)) ggX7_setPort_X7_in
set_option maxRecDepth 20000 in
theorem ggX7_setPort_X7_isCircuit : GoodIn wsX7_setPort wsX7_isCircuit := goodIn_r _ [12] (by decide +kernel) (by decide +kernel)
set_option maxRecDepth 20000 in
theorem gX7_setPort_X7_isCircuit : GoodIn wsX7_setPort (va_wsS RX7 81 yX7_isCircuit wsX7_isCircuit) := goodIn_app (goodIn_of _ (by decide +kernel)) ggX7_setPort_X7_isCircuit
set_option maxRecDepth 20000 in
theorem ggX7_setPort_X7_isNet : GoodIn wsX7_setPort wsX7_isNet := goodIn_ca (goodIn_r _ [16, 4, 6, 7, 8, 9, 17, 18, 19, 20, 21, 22, 23, 24, 25, 26, 27, 28, 29, 30, 31, 32, 33, 34, 35] (by decide +kernel) (by decide +kernel)) (goodIn_sub (fun _ h => List.mem_cons_of_mem _ (List.mem_append_right _ h)) (by decide +kernel))
set_option maxRecDepth 20000 in
theorem gX7_setPort_X7_isNet : GoodIn wsX7_setPort (wsV RX7 89 RX7 yX7_isNet wsX7_isNet) := goodIn_app (goodIn_of _ (by decide +kernel)) ggX7_setPort_X7_isNet
theorem dX7_setPort_0 : decode cX7_setPort 0 = .ok (.iload_n 3, 1) := by decide +kernel
theorem dX7_setPort_1 : decode cX7_setPort 1 = .ok (.bipush 45, 2) := by decide +kernel
theorem dX7_setPort_3 : decode cX7_setPort 3 = .ok (.if_icmp .eq 17, 3) := by decide +kernel
theorem dX7_setPort_6 : decode cX7_setPort 6 = .ok (.iload_n 3, 1) := by decide +kernel
theorem dX7_setPort_7 : decode cX7_setPort 7 = .ok (.i2l, 1) := by decide +kernel
theorem dX7_setPort_8 : decode cX7_setPort 8 = .ok (.ldc2_w 85, 3) := by decide +kernel
theorem dX7_setPort_11 : decode cX7_setPort 11 = .ok (.ldc2_w 87, 3) := by decide +kernel
theorem dX7_setPort_14 : decode cX7_setPort 14 = .ok (.invokestatic 61, 3) := by decide +kernel
theorem dX7_setPort_17 : decode cX7_setPort 17 = .ok (.ifCond .eq 7, 3) := by decide +kernel
theorem dX7_setPort_20 : decode cX7_setPort 20 = .ok (.iconst 1, 1) := by decide +kernel
theorem dX7_setPort_21 : decode cX7_setPort 21 = .ok (.goto 4, 3) := by decide +kernel
theorem dX7_setPort_24 : decode cX7_setPort 24 = .ok (.iconst 0, 1) := by decide +kernel
theorem dX7_setPort_25 : decode cX7_setPort 25 = .ok (.istore 4, 2) := by decide +kernel
theorem dX7_setPort_27 : decode cX7_setPort 27 = .ok (.iload_n 1, 1) := by decide +kernel
theorem dX7_setPort_28 : decode cX7_setPort 28 = .ok (.invokestatic 81, 3) := by decide +kernel
theorem dX7_setPort_31 : decode cX7_setPort 31 = .ok (.ifCond .eq 17, 3) := by decide +kernel
theorem dX7_setPort_34 : decode cX7_setPort 34 = .ok (.iload 4, 2) := by decide +kernel
theorem dX7_setPort_36 : decode cX7_setPort 36 = .ok (.ifCond .eq 12, 3) := by decide +kernel
theorem dX7_setPort_39 : decode cX7_setPort 39 = .ok (.aload_n 0, 1) := by decide +kernel
theorem dX7_setPort_40 : decode cX7_setPort 40 = .ok (.iload_n 1, 1) := by decide +kernel
theorem dX7_setPort_41 : decode cX7_setPort 41 = .ok (.iload_n 2, 1) := by decide +kernel
theorem dX7_setPort_42 : decode cX7_setPort 42 = .ok (.invokevirtual 89, 3) := by decide +kernel
theorem dX7_setPort_45 : decode cX7_setPort 45 = .ok (.ifCond .ne 27, 3) := by decide +kernel
theorem dX7_setPort_48 : decode cX7_setPort 48 = .ok (.aload_n 0, 1) := by decide +kernel
theorem dX7_setPort_49 : decode cX7_setPort 49 = .ok (.iload_n 1, 1) := by decide +kernel
theorem dX7_setPort_50 : decode cX7_setPort 50 = .ok (.invokestatic 81, 3) := by decide +kernel
theorem dX7_setPort_53 : decode cX7_setPort 53 = .ok (.ifCond .eq 8, 3) := by decide +kernel
theorem dX7_setPort_56 : decode cX7_setPort 56 = .ok (.iload 4, 2) := by decide +kernel
theorem dX7_setPort_58 : decode cX7_setPort 58 = .ok (.ifCond .ne 7, 3) := by decide +kernel
theorem dX7_setPort_61 : decode cX7_setPort 61 = .ok (.iconst 1, 1) := by decide +kernel
theorem dX7_setPort_62 : decode cX7_setPort 62 = .ok (.goto 4, 3) := by decide +kernel
theorem dX7_setPort_65 : decode cX7_setPort 65 = .ok (.iconst 2, 1) := by decide +kernel
theorem dX7_setPort_66 : decode cX7_setPort 66 = .ok (.putfield 57, 3) := by decide +kernel
theorem dX7_setPort_69 : decode cX7_setPort 69 = .ok (.bipush 32, 2) := by decide +kernel
theorem dX7_setPort_71 : decode cX7_setPort 71 = .ok (.ireturn, 1) := by decide +kernel
set_option maxRecDepth 20000 in
theorem ggX7_addPart_X7_isCircuit : GoodIn wsX7_addPart wsX7_isCircuit := goodIn_r _ [10] (by decide +kernel) (by decide +kernel)
set_option maxRecDepth 20000 in
theorem gX7_addPart_X7_isCircuit : GoodIn wsX7_addPart (va_wsS RX7 81 yX7_isCircuit wsX7_isCircuit) := goodIn_app (goodIn_of _ (by decide +kernel)) ggX7_addPart_X7_isCircuit
set_option maxRecDepth 20000 in
theorem ggX7_addPart_X7_in : GoodIn wsX7_addPart wsX7_in := goodIn_r _ [13] (by decide +kernel) (by decide +kernel)
set_option maxRecDepth 20000 in
theorem gX7_addPart_X7_in : GoodIn wsX7_addPart (va_wsS RX7 61 yX7_in wsX7_in) := goodIn_app (goodIn_of _ (by decide +kernel)) ggX7_addPart_X7_in
set_option maxRecDepth 20000 in
theorem ggX7_addPart_X7_isNet : GoodIn wsX7_addPart wsX7_isNet := goodIn_ca (goodIn_r _ [17, 18, 11, 12, 9, 13, 24, 25, 26, 27, 28, 29, 30, 31, 32, 33, 34, 35, 36, 37, 38, 39, 40, 41, 42] (by decide +kernel) (by decide +kernel)) (goodIn_sub (fun _ h => List.mem_cons_of_mem _ (List.mem_append_right _ h)) (by decide +kernel))
set_option maxRecDepth 20000 in
theorem gX7_addPart_X7_isNet : GoodIn wsX7_addPart (wsV RX7 89 RX7 yX7_isNet wsX7_isNet) := goodIn_app (goodIn_of _ (by decide +kernel)) ggX7_addPart_X7_isNet
theorem dX7_addPart_0 : decode cX7_addPart 0 = .ok (.iload_n 2, 1) := by decide +kernel
theorem dX7_addPart_1 : decode cX7_addPart 1 = .ok (.bipush 114, 2) := by decide +kernel
theorem dX7_addPart_3 : decode cX7_addPart 3 = .ok (.if_icmp .eq 21, 3) := by decide +kernel
theorem dX7_addPart_6 : decode cX7_addPart 6 = .ok (.iload_n 2, 1) := by decide +kernel
theorem dX7_addPart_7 : decode cX7_addPart 7 = .ok (.bipush 99, 2) := by decide +kernel
theorem dX7_addPart_9 : decode cX7_addPart 9 = .ok (.if_icmp .eq 15, 3) := by decide +kernel
theorem dX7_addPart_12 : decode cX7_addPart 12 = .ok (.iload_n 2, 1) := by decide +kernel
theorem dX7_addPart_13 : decode cX7_addPart 13 = .ok (.bipush 100, 2) := by decide +kernel
theorem dX7_addPart_15 : decode cX7_addPart 15 = .ok (.if_icmp .eq 9, 3) := by decide +kernel
theorem dX7_addPart_18 : decode cX7_addPart 18 = .ok (.iload_n 2, 1) := by decide +kernel
theorem dX7_addPart_19 : decode cX7_addPart 19 = .ok (.bipush 116, 2) := by decide +kernel
theorem dX7_addPart_21 : decode cX7_addPart 21 = .ok (.if_icmp .ne 7, 3) := by decide +kernel
theorem dX7_addPart_24 : decode cX7_addPart 24 = .ok (.iconst 1, 1) := by decide +kernel
theorem dX7_addPart_25 : decode cX7_addPart 25 = .ok (.goto 4, 3) := by decide +kernel
theorem dX7_addPart_28 : decode cX7_addPart 28 = .ok (.iconst 0, 1) := by decide +kernel
theorem dX7_addPart_29 : decode cX7_addPart 29 = .ok (.istore 7, 2) := by decide +kernel
theorem dX7_addPart_31 : decode cX7_addPart 31 = .ok (.iload_n 1, 1) := by decide +kernel
theorem dX7_addPart_32 : decode cX7_addPart 32 = .ok (.invokestatic 81, 3) := by decide +kernel
theorem dX7_addPart_35 : decode cX7_addPart 35 = .ok (.ifCond .eq 32, 3) := by decide +kernel
theorem dX7_addPart_38 : decode cX7_addPart 38 = .ok (.iload 7, 2) := by decide +kernel
theorem dX7_addPart_40 : decode cX7_addPart 40 = .ok (.ifCond .eq 27, 3) := by decide +kernel
theorem dX7_addPart_43 : decode cX7_addPart 43 = .ok (.iload_n 3, 1) := by decide +kernel
theorem dX7_addPart_44 : decode cX7_addPart 44 = .ok (.i2l, 1) := by decide +kernel
theorem dX7_addPart_45 : decode cX7_addPart 45 = .ok (.lconst 1, 1) := by decide +kernel
theorem dX7_addPart_46 : decode cX7_addPart 46 = .ok (.ldc2_w 92, 3) := by decide +kernel
theorem dX7_addPart_49 : decode cX7_addPart 49 = .ok (.invokestatic 61, 3) := by decide +kernel
theorem dX7_addPart_52 : decode cX7_addPart 52 = .ok (.ifCond .eq 15, 3) := by decide +kernel
theorem dX7_addPart_55 : decode cX7_addPart 55 = .ok (.iload_n 2, 1) := by decide +kernel
theorem dX7_addPart_56 : decode cX7_addPart 56 = .ok (.bipush 116, 2) := by decide +kernel
theorem dX7_addPart_58 : decode cX7_addPart 58 = .ok (.if_icmp .eq 17, 3) := by decide +kernel
theorem dX7_addPart_61 : decode cX7_addPart 61 = .ok (.iload 6, 2) := by decide +kernel
theorem dX7_addPart_63 : decode cX7_addPart 63 = .ok (.iconst (-1), 1) := by decide +kernel
theorem dX7_addPart_64 : decode cX7_addPart 64 = .ok (.if_icmp .eq 11, 3) := by decide +kernel
theorem dX7_addPart_67 : decode cX7_addPart 67 = .ok (.aload_n 0, 1) := by decide +kernel
theorem dX7_addPart_68 : decode cX7_addPart 68 = .ok (.iconst 1, 1) := by decide +kernel
theorem dX7_addPart_69 : decode cX7_addPart 69 = .ok (.putfield 57, 3) := by decide +kernel
theorem dX7_addPart_72 : decode cX7_addPart 72 = .ok (.goto 67, 3) := by decide +kernel
theorem dX7_addPart_75 : decode cX7_addPart 75 = .ok (.aload_n 0, 1) := by decide +kernel
theorem dX7_addPart_76 : decode cX7_addPart 76 = .ok (.iload_n 1, 1) := by decide +kernel
theorem dX7_addPart_77 : decode cX7_addPart 77 = .ok (.iload 4, 2) := by decide +kernel
theorem dX7_addPart_79 : decode cX7_addPart 79 = .ok (.invokevirtual 89, 3) := by decide +kernel
theorem dX7_addPart_82 : decode cX7_addPart 82 = .ok (.ifCond .eq 29, 3) := by decide +kernel
theorem dX7_addPart_111 : decode cX7_addPart 111 = .ok (.aload_n 0, 1) := by decide +kernel
theorem dX7_addPart_112 : decode cX7_addPart 112 = .ok (.iconst 2, 1) := by decide +kernel
theorem dX7_addPart_113 : decode cX7_addPart 113 = .ok (.putfield 57, 3) := by decide +kernel
theorem dX7_addPart_116 : decode cX7_addPart 116 = .ok (.goto 23, 3) := by decide +kernel
theorem dX7_addPart_139 : decode cX7_addPart 139 = .ok (.aload_n 0, 1) := by decide +kernel
theorem dX7_addPart_140 : decode cX7_addPart 140 = .ok (.getfield 57, 3) := by decide +kernel
theorem dX7_addPart_143 : decode cX7_addPart 143 = .ok (.ifCond .le 5, 3) := by decide +kernel
theorem dX7_addPart_146 : decode cX7_addPart 146 = .ok (.iconst (-1), 1) := by decide +kernel
theorem dX7_addPart_147 : decode cX7_addPart 147 = .ok (.ireturn, 1) := by decide +kernel
set_option maxRecDepth 20000 in
theorem ggX7_isAsked_X7_isCircuit : GoodIn wsX7_isAsked wsX7_isCircuit := goodIn_r _ [5] (by decide +kernel) (by decide +kernel)
set_option maxRecDepth 20000 in
theorem gX7_isAsked_X7_isCircuit : GoodIn wsX7_isAsked (va_wsS RX7 81 yX7_isCircuit wsX7_isCircuit) := goodIn_app (goodIn_of _ (by decide +kernel)) ggX7_isAsked_X7_isCircuit
set_option maxRecDepth 20000 in
theorem ggX7_isAsked_X7_isPart : GoodIn wsX7_isAsked wsX7_isPart := goodIn_ca (goodIn_r _ [9, 10, 11, 12, 13, 4, 14, 15, 16, 17, 18, 19, 20, 21, 22, 23, 24, 25, 26, 27, 28, 29, 30, 31, 32, 33] (by decide +kernel) (by decide +kernel)) (goodIn_sub (fun _ h => List.mem_cons_of_mem _ (List.mem_append_right _ h)) (by decide +kernel))
set_option maxRecDepth 20000 in
theorem gX7_isAsked_X7_isPart : GoodIn wsX7_isAsked (wsV RX7 73 RX7 yX7_isPart wsX7_isPart) := goodIn_app (goodIn_of _ (by decide +kernel)) ggX7_isAsked_X7_isPart
theorem dX7_isAsked_0 : decode cX7_isAsked 0 = .ok (.aload_n 0, 1) := by decide +kernel
theorem dX7_isAsked_1 : decode cX7_isAsked 1 = .ok (.iload_n 1, 1) := by decide +kernel
theorem dX7_isAsked_2 : decode cX7_isAsked 2 = .ok (.invokestatic 81, 3) := by decide +kernel
theorem dX7_isAsked_5 : decode cX7_isAsked 5 = .ok (.ifCond .ne 7, 3) := by decide +kernel
theorem dX7_isAsked_8 : decode cX7_isAsked 8 = .ok (.iconst 1, 1) := by decide +kernel
theorem dX7_isAsked_9 : decode cX7_isAsked 9 = .ok (.goto 17, 3) := by decide +kernel
theorem dX7_isAsked_12 : decode cX7_isAsked 12 = .ok (.aload_n 0, 1) := by decide +kernel
theorem dX7_isAsked_13 : decode cX7_isAsked 13 = .ok (.iload_n 1, 1) := by decide +kernel
theorem dX7_isAsked_14 : decode cX7_isAsked 14 = .ok (.iload_n 2, 1) := by decide +kernel
theorem dX7_isAsked_15 : decode cX7_isAsked 15 = .ok (.invokevirtual 73, 3) := by decide +kernel
theorem dX7_isAsked_18 : decode cX7_isAsked 18 = .ok (.ifCond .ne 7, 3) := by decide +kernel
theorem dX7_isAsked_21 : decode cX7_isAsked 21 = .ok (.iconst 2, 1) := by decide +kernel
theorem dX7_isAsked_22 : decode cX7_isAsked 22 = .ok (.goto 4, 3) := by decide +kernel
theorem dX7_isAsked_26 : decode cX7_isAsked 26 = .ok (.putfield 57, 3) := by decide +kernel
theorem dX7_isAsked_29 : decode cX7_isAsked 29 = .ok (.aload_n 0, 1) := by decide +kernel
theorem dX7_isAsked_30 : decode cX7_isAsked 30 = .ok (.getfield 57, 3) := by decide +kernel
theorem dX7_isAsked_33 : decode cX7_isAsked 33 = .ok (.ifCond .ne 7, 3) := by decide +kernel
theorem dX7_isAsked_40 : decode cX7_isAsked 40 = .ok (.iconst 0, 1) := by decide +kernel
theorem dX7_isAsked_41 : decode cX7_isAsked 41 = .ok (.ireturn, 1) := by decide +kernel
set_option maxRecDepth 20000 in
theorem ggX7_removePart_X7_isAsked : GoodIn wsX7_removePart wsX7_isAsked := goodIn_ca (goodIn_r _ [6, 7, 8, 9, 5, 10, 11, 12, 13, 14, 15, 1, 16, 17, 18, 23, 24, 25, 26, 27, 28, 29, 30, 31, 32, 33, 34, 35, 36, 37, 38, 39, 40, 41] (by decide +kernel) (by decide +kernel)) (goodIn_sub (fun _ h => List.mem_cons_of_mem _ (List.mem_append_right _ h)) (by decide +kernel))
set_option maxRecDepth 20000 in
theorem gX7_removePart_X7_isAsked : GoodIn wsX7_removePart (wsV RX7 98 RX7 yX7_isAsked wsX7_isAsked) := goodIn_app (goodIn_of _ (by decide +kernel)) ggX7_removePart_X7_isAsked
theorem dX7_removePart_0 : decode cX7_removePart 0 = .ok (.aload_n 0, 1) := by decide +kernel
theorem dX7_removePart_1 : decode cX7_removePart 1 = .ok (.iload_n 1, 1) := by decide +kernel
theorem dX7_removePart_2 : decode cX7_removePart 2 = .ok (.iload_n 2, 1) := by decide +kernel
theorem dX7_removePart_3 : decode cX7_removePart 3 = .ok (.invokevirtual 98, 3) := by decide +kernel
theorem dX7_removePart_6 : decode cX7_removePart 6 = .ok (.ifCond .ne 5, 3) := by decide +kernel
theorem dX7_removePart_9 : decode cX7_removePart 9 = .ok (.iconst (-1), 1) := by decide +kernel
theorem dX7_removePart_10 : decode cX7_removePart 10 = .ok (.ireturn, 1) := by decide +kernel
set_option maxRecDepth 20000 in
theorem ggX7_setValue_X7_isCircuit : GoodIn wsX7_setValue wsX7_isCircuit := goodIn_r _ [7] (by decide +kernel) (by decide +kernel)
set_option maxRecDepth 20000 in
theorem gX7_setValue_X7_isCircuit : GoodIn wsX7_setValue (va_wsS RX7 81 yX7_isCircuit wsX7_isCircuit) := goodIn_app (goodIn_of _ (by decide +kernel)) ggX7_setValue_X7_isCircuit
set_option maxRecDepth 20000 in
theorem ggX7_setValue_X7_in : GoodIn wsX7_setValue wsX7_in := goodIn_r _ [10] (by decide +kernel) (by decide +kernel)
set_option maxRecDepth 20000 in
theorem gX7_setValue_X7_in : GoodIn wsX7_setValue (va_wsS RX7 61 yX7_in wsX7_in) := goodIn_app (goodIn_of _ (by decide +kernel)) ggX7_setValue_X7_in
set_option maxRecDepth 20000 in
theorem ggX7_setValue_X7_isPart : GoodIn wsX7_setValue wsX7_isPart := goodIn_ca (goodIn_r _ [14, 15, 16, 8, 9, 6, 10, 21, 22, 23, 24, 25, 26, 27, 28, 29, 30, 31, 32, 33, 34, 35, 36, 37, 38, 39] (by decide +kernel) (by decide +kernel)) (goodIn_sub (fun _ h => List.mem_cons_of_mem _ (List.mem_append_right _ h)) (by decide +kernel))
set_option maxRecDepth 20000 in
theorem gX7_setValue_X7_isPart : GoodIn wsX7_setValue (wsV RX7 73 RX7 yX7_isPart wsX7_isPart) := goodIn_app (goodIn_of _ (by decide +kernel)) ggX7_setValue_X7_isPart
theorem dX7_setValue_0 : decode cX7_setValue 0 = .ok (.aload_n 0, 1) := by decide +kernel
theorem dX7_setValue_1 : decode cX7_setValue 1 = .ok (.iload_n 1, 1) := by decide +kernel
theorem dX7_setValue_2 : decode cX7_setValue 2 = .ok (.invokestatic 81, 3) := by decide +kernel
theorem dX7_setValue_5 : decode cX7_setValue 5 = .ok (.ifCond .eq 15, 3) := by decide +kernel
theorem dX7_setValue_8 : decode cX7_setValue 8 = .ok (.iload_n 3, 1) := by decide +kernel
theorem dX7_setValue_9 : decode cX7_setValue 9 = .ok (.i2l, 1) := by decide +kernel
theorem dX7_setValue_10 : decode cX7_setValue 10 = .ok (.lconst 1, 1) := by decide +kernel
theorem dX7_setValue_11 : decode cX7_setValue 11 = .ok (.ldc2_w 92, 3) := by decide +kernel
theorem dX7_setValue_14 : decode cX7_setValue 14 = .ok (.invokestatic 61, 3) := by decide +kernel
theorem dX7_setValue_17 : decode cX7_setValue 17 = .ok (.ifCond .ne 7, 3) := by decide +kernel
theorem dX7_setValue_20 : decode cX7_setValue 20 = .ok (.iconst 1, 1) := by decide +kernel
theorem dX7_setValue_21 : decode cX7_setValue 21 = .ok (.goto 17, 3) := by decide +kernel
theorem dX7_setValue_24 : decode cX7_setValue 24 = .ok (.aload_n 0, 1) := by decide +kernel
theorem dX7_setValue_25 : decode cX7_setValue 25 = .ok (.iload_n 1, 1) := by decide +kernel
theorem dX7_setValue_26 : decode cX7_setValue 26 = .ok (.iload_n 2, 1) := by decide +kernel
theorem dX7_setValue_27 : decode cX7_setValue 27 = .ok (.invokevirtual 73, 3) := by decide +kernel
theorem dX7_setValue_30 : decode cX7_setValue 30 = .ok (.ifCond .ne 7, 3) := by decide +kernel
theorem dX7_setValue_33 : decode cX7_setValue 33 = .ok (.iconst 2, 1) := by decide +kernel
theorem dX7_setValue_34 : decode cX7_setValue 34 = .ok (.goto 4, 3) := by decide +kernel
theorem dX7_setValue_38 : decode cX7_setValue 38 = .ok (.putfield 57, 3) := by decide +kernel
theorem dX7_setValue_41 : decode cX7_setValue 41 = .ok (.aload_n 0, 1) := by decide +kernel
theorem dX7_setValue_42 : decode cX7_setValue 42 = .ok (.getfield 57, 3) := by decide +kernel
theorem dX7_setValue_45 : decode cX7_setValue 45 = .ok (.ifCond .le 5, 3) := by decide +kernel
theorem dX7_setValue_48 : decode cX7_setValue 48 = .ok (.iconst (-1), 1) := by decide +kernel
theorem dX7_setValue_49 : decode cX7_setValue 49 = .ok (.ireturn, 1) := by decide +kernel
set_option maxRecDepth 20000 in
theorem ggX7_rewire_X7_isAsked : GoodIn wsX7_rewire wsX7_isAsked := goodIn_ca (goodIn_r _ [6, 1, 7, 8, 5, 9, 10, 11, 12, 13, 14, 15, 16, 17, 18, 41, 42, 43, 44, 45, 46, 47, 48, 49, 50, 51, 52, 53, 54, 55, 56, 57, 58, 59] (by decide +kernel) (by decide +kernel)) (goodIn_sub (fun _ h => List.mem_cons_of_mem _ (List.mem_append_right _ h)) (by decide +kernel))
set_option maxRecDepth 20000 in
theorem gX7_rewire_X7_isAsked : GoodIn wsX7_rewire (wsV RX7 98 RX7 yX7_isAsked wsX7_isAsked) := goodIn_app (goodIn_of _ (by decide +kernel)) ggX7_rewire_X7_isAsked
theorem dX7_rewire_0 : decode cX7_rewire 0 = .ok (.aload_n 0, 1) := by decide +kernel
theorem dX7_rewire_1 : decode cX7_rewire 1 = .ok (.iload_n 1, 1) := by decide +kernel
theorem dX7_rewire_2 : decode cX7_rewire 2 = .ok (.iload_n 2, 1) := by decide +kernel
theorem dX7_rewire_3 : decode cX7_rewire 3 = .ok (.invokevirtual 98, 3) := by decide +kernel
theorem dX7_rewire_6 : decode cX7_rewire 6 = .ok (.ifCond .ne 5, 3) := by decide +kernel
theorem dX7_rewire_9 : decode cX7_rewire 9 = .ok (.iconst (-1), 1) := by decide +kernel
theorem dX7_rewire_10 : decode cX7_rewire 10 = .ok (.ireturn, 1) := by decide +kernel
set_option maxRecDepth 20000 in
theorem ggX7_swapPins_X7_isAsked : GoodIn wsX7_swapPins wsX7_isAsked := goodIn_ca (goodIn_r _ [6, 1, 7, 8, 5, 9, 10, 11, 12, 13, 14, 15, 16, 17, 18, 33, 34, 35, 36, 37, 38, 39, 40, 41, 42, 43, 44, 45, 46, 47, 48, 49, 50, 51] (by decide +kernel) (by decide +kernel)) (goodIn_sub (fun _ h => List.mem_cons_of_mem _ (List.mem_append_right _ h)) (by decide +kernel))
set_option maxRecDepth 20000 in
theorem gX7_swapPins_X7_isAsked : GoodIn wsX7_swapPins (wsV RX7 98 RX7 yX7_isAsked wsX7_isAsked) := goodIn_app (goodIn_of _ (by decide +kernel)) ggX7_swapPins_X7_isAsked
theorem dX7_swapPins_0 : decode cX7_swapPins 0 = .ok (.aload_n 0, 1) := by decide +kernel
theorem dX7_swapPins_1 : decode cX7_swapPins 1 = .ok (.iload_n 1, 1) := by decide +kernel
theorem dX7_swapPins_2 : decode cX7_swapPins 2 = .ok (.iload_n 2, 1) := by decide +kernel
theorem dX7_swapPins_3 : decode cX7_swapPins 3 = .ok (.invokevirtual 98, 3) := by decide +kernel
theorem dX7_swapPins_6 : decode cX7_swapPins 6 = .ok (.ifCond .ne 5, 3) := by decide +kernel
theorem dX7_swapPins_9 : decode cX7_swapPins 9 = .ok (.iconst (-1), 1) := by decide +kernel
theorem dX7_swapPins_10 : decode cX7_swapPins 10 = .ok (.ireturn, 1) := by decide +kernel
set_option maxRecDepth 20000 in
theorem ggX7_copyWished_X7_partMany : GoodIn wsX7_copyWished wsX7_partMany := goodIn_ca (goodIn_r _ [13, 3, 14, 15, 16, 12, 17, 7, 18, 19, 20, 21, 22, 23, 24, 25, 26, 27, 28, 29, 30, 31, 32, 33, 34, 35, 36, 37, 38, 39] (by decide +kernel) (by decide +kernel)) (goodIn_sub (fun _ h => List.mem_cons_of_mem _ (List.mem_append_right _ h)) (by decide +kernel))
set_option maxRecDepth 20000 in
theorem gX7_copyWished_X7_partMany : GoodIn wsX7_copyWished (wsV RX7 101 RX7 yX7_partMany wsX7_partMany) := goodIn_app (goodIn_of _ (by decide +kernel)) ggX7_copyWished_X7_partMany
theorem dX7_copyWished_0 : decode cX7_copyWished 0 = .ok (.aload_n 0, 1) := by decide +kernel
theorem dX7_copyWished_1 : decode cX7_copyWished 1 = .ok (.iconst 0, 1) := by decide +kernel
theorem dX7_copyWished_2 : decode cX7_copyWished 2 = .ok (.putfield 57, 3) := by decide +kernel
theorem dX7_copyWished_5 : decode cX7_copyWished 5 = .ok (.aload_n 0, 1) := by decide +kernel
theorem dX7_copyWished_6 : decode cX7_copyWished 6 = .ok (.getfield 7, 3) := by decide +kernel
theorem dX7_copyWished_9 : decode cX7_copyWished 9 = .ok (.iconst 1, 1) := by decide +kernel
theorem dX7_copyWished_10 : decode cX7_copyWished 10 = .ok (.aload_n 0, 1) := by decide +kernel
theorem dX7_copyWished_11 : decode cX7_copyWished 11 = .ok (.getfield 7, 3) := by decide +kernel
theorem dX7_copyWished_14 : decode cX7_copyWished 14 = .ok (.iconst 0, 1) := by decide +kernel
theorem dX7_copyWished_15 : decode cX7_copyWished 15 = .ok (.iaload, 1) := by decide +kernel
theorem dX7_copyWished_16 : decode cX7_copyWished 16 = .ok (.iastore, 1) := by decide +kernel
theorem dX7_copyWished_17 : decode cX7_copyWished 17 = .ok (.aload_n 0, 1) := by decide +kernel
theorem dX7_copyWished_18 : decode cX7_copyWished 18 = .ok (.getfield 13, 3) := by decide +kernel
theorem dX7_copyWished_21 : decode cX7_copyWished 21 = .ok (.iconst 1, 1) := by decide +kernel
theorem dX7_copyWished_22 : decode cX7_copyWished 22 = .ok (.aload_n 0, 1) := by decide +kernel
theorem dX7_copyWished_23 : decode cX7_copyWished 23 = .ok (.getfield 13, 3) := by decide +kernel
theorem dX7_copyWished_26 : decode cX7_copyWished 26 = .ok (.iconst 0, 1) := by decide +kernel
theorem dX7_copyWished_27 : decode cX7_copyWished 27 = .ok (.iaload, 1) := by decide +kernel
theorem dX7_copyWished_28 : decode cX7_copyWished 28 = .ok (.iastore, 1) := by decide +kernel
theorem dX7_copyWished_29 : decode cX7_copyWished 29 = .ok (.iconst 0, 1) := by decide +kernel
theorem dX7_copyWished_30 : decode cX7_copyWished 30 = .ok (.istore_n 1, 1) := by decide +kernel
theorem dX7_copyWished_31 : decode cX7_copyWished 31 = .ok (.iload_n 1, 1) := by decide +kernel
theorem dX7_copyWished_32 : decode cX7_copyWished 32 = .ok (.bipush 10, 2) := by decide +kernel
theorem dX7_copyWished_34 : decode cX7_copyWished 34 = .ok (.if_icmp .ge 69, 3) := by decide +kernel
theorem dX7_copyWished_37 : decode cX7_copyWished 37 = .ok (.aload_n 0, 1) := by decide +kernel
theorem dX7_copyWished_38 : decode cX7_copyWished 38 = .ok (.getfield 16, 3) := by decide +kernel
theorem dX7_copyWished_41 : decode cX7_copyWished 41 = .ok (.bipush 10, 2) := by decide +kernel
theorem dX7_copyWished_43 : decode cX7_copyWished 43 = .ok (.iload_n 1, 1) := by decide +kernel
theorem dX7_copyWished_44 : decode cX7_copyWished 44 = .ok (.iadd, 1) := by decide +kernel
theorem dX7_copyWished_45 : decode cX7_copyWished 45 = .ok (.aload_n 0, 1) := by decide +kernel
theorem dX7_copyWished_46 : decode cX7_copyWished 46 = .ok (.getfield 16, 3) := by decide +kernel
theorem dX7_copyWished_49 : decode cX7_copyWished 49 = .ok (.iload_n 1, 1) := by decide +kernel
theorem dX7_copyWished_50 : decode cX7_copyWished 50 = .ok (.caload, 1) := by decide +kernel
theorem dX7_copyWished_51 : decode cX7_copyWished 51 = .ok (.castore, 1) := by decide +kernel
theorem dX7_copyWished_52 : decode cX7_copyWished 52 = .ok (.aload_n 0, 1) := by decide +kernel
theorem dX7_copyWished_53 : decode cX7_copyWished 53 = .ok (.getfield 20, 3) := by decide +kernel
theorem dX7_copyWished_56 : decode cX7_copyWished 56 = .ok (.bipush 10, 2) := by decide +kernel
theorem dX7_copyWished_58 : decode cX7_copyWished 58 = .ok (.iload_n 1, 1) := by decide +kernel
theorem dX7_copyWished_59 : decode cX7_copyWished 59 = .ok (.iadd, 1) := by decide +kernel
theorem dX7_copyWished_60 : decode cX7_copyWished 60 = .ok (.aload_n 0, 1) := by decide +kernel
theorem dX7_copyWished_61 : decode cX7_copyWished 61 = .ok (.getfield 20, 3) := by decide +kernel
theorem dX7_copyWished_64 : decode cX7_copyWished 64 = .ok (.iload_n 1, 1) := by decide +kernel
theorem dX7_copyWished_65 : decode cX7_copyWished 65 = .ok (.caload, 1) := by decide +kernel
theorem dX7_copyWished_66 : decode cX7_copyWished 66 = .ok (.castore, 1) := by decide +kernel
theorem dX7_copyWished_67 : decode cX7_copyWished 67 = .ok (.aload_n 0, 1) := by decide +kernel
theorem dX7_copyWished_68 : decode cX7_copyWished 68 = .ok (.getfield 23, 3) := by decide +kernel
theorem dX7_copyWished_71 : decode cX7_copyWished 71 = .ok (.bipush 10, 2) := by decide +kernel
theorem dX7_copyWished_73 : decode cX7_copyWished 73 = .ok (.iload_n 1, 1) := by decide +kernel
theorem dX7_copyWished_74 : decode cX7_copyWished 74 = .ok (.iadd, 1) := by decide +kernel
theorem dX7_copyWished_75 : decode cX7_copyWished 75 = .ok (.aload_n 0, 1) := by decide +kernel
theorem dX7_copyWished_76 : decode cX7_copyWished 76 = .ok (.getfield 23, 3) := by decide +kernel
theorem dX7_copyWished_79 : decode cX7_copyWished 79 = .ok (.iload_n 1, 1) := by decide +kernel
theorem dX7_copyWished_80 : decode cX7_copyWished 80 = .ok (.iaload, 1) := by decide +kernel
theorem dX7_copyWished_81 : decode cX7_copyWished 81 = .ok (.iastore, 1) := by decide +kernel
theorem dX7_copyWished_82 : decode cX7_copyWished 82 = .ok (.aload_n 0, 1) := by decide +kernel
theorem dX7_copyWished_83 : decode cX7_copyWished 83 = .ok (.getfield 26, 3) := by decide +kernel
theorem dX7_copyWished_86 : decode cX7_copyWished 86 = .ok (.bipush 10, 2) := by decide +kernel
theorem dX7_copyWished_88 : decode cX7_copyWished 88 = .ok (.iload_n 1, 1) := by decide +kernel
theorem dX7_copyWished_89 : decode cX7_copyWished 89 = .ok (.iadd, 1) := by decide +kernel
theorem dX7_copyWished_90 : decode cX7_copyWished 90 = .ok (.aload_n 0, 1) := by decide +kernel
theorem dX7_copyWished_91 : decode cX7_copyWished 91 = .ok (.getfield 26, 3) := by decide +kernel
theorem dX7_copyWished_94 : decode cX7_copyWished 94 = .ok (.iload_n 1, 1) := by decide +kernel
theorem dX7_copyWished_95 : decode cX7_copyWished 95 = .ok (.baload, 1) := by decide +kernel
theorem dX7_copyWished_96 : decode cX7_copyWished 96 = .ok (.bastore, 1) := by decide +kernel
theorem dX7_copyWished_97 : decode cX7_copyWished 97 = .ok (.iinc 1 1, 3) := by decide +kernel
theorem dX7_copyWished_100 : decode cX7_copyWished 100 = .ok (.goto (-69), 3) := by decide +kernel
theorem dX7_copyWished_103 : decode cX7_copyWished 103 = .ok (.iconst 0, 1) := by decide +kernel
theorem dX7_copyWished_104 : decode cX7_copyWished 104 = .ok (.istore_n 1, 1) := by decide +kernel
theorem dX7_copyWished_105 : decode cX7_copyWished 105 = .ok (.iload_n 1, 1) := by decide +kernel
theorem dX7_copyWished_106 : decode cX7_copyWished 106 = .ok (.bipush 30, 2) := by decide +kernel
theorem dX7_copyWished_108 : decode cX7_copyWished 108 = .ok (.if_icmp .ge 24, 3) := by decide +kernel
theorem dX7_copyWished_111 : decode cX7_copyWished 111 = .ok (.aload_n 0, 1) := by decide +kernel
theorem dX7_copyWished_112 : decode cX7_copyWished 112 = .ok (.getfield 30, 3) := by decide +kernel
theorem dX7_copyWished_115 : decode cX7_copyWished 115 = .ok (.bipush 30, 2) := by decide +kernel
theorem dX7_copyWished_117 : decode cX7_copyWished 117 = .ok (.iload_n 1, 1) := by decide +kernel
theorem dX7_copyWished_118 : decode cX7_copyWished 118 = .ok (.iadd, 1) := by decide +kernel
theorem dX7_copyWished_119 : decode cX7_copyWished 119 = .ok (.aload_n 0, 1) := by decide +kernel
theorem dX7_copyWished_120 : decode cX7_copyWished 120 = .ok (.getfield 30, 3) := by decide +kernel
theorem dX7_copyWished_123 : decode cX7_copyWished 123 = .ok (.iload_n 1, 1) := by decide +kernel
theorem dX7_copyWished_124 : decode cX7_copyWished 124 = .ok (.iaload, 1) := by decide +kernel
theorem dX7_copyWished_125 : decode cX7_copyWished 125 = .ok (.iastore, 1) := by decide +kernel
theorem dX7_copyWished_126 : decode cX7_copyWished 126 = .ok (.iinc 1 1, 3) := by decide +kernel
theorem dX7_copyWished_129 : decode cX7_copyWished 129 = .ok (.goto (-24), 3) := by decide +kernel
theorem dX7_copyWished_132 : decode cX7_copyWished 132 = .ok (.aload_n 0, 1) := by decide +kernel
theorem dX7_copyWished_133 : decode cX7_copyWished 133 = .ok (.iconst 1, 1) := by decide +kernel
theorem dX7_copyWished_134 : decode cX7_copyWished 134 = .ok (.invokevirtual 101, 3) := by decide +kernel
theorem dX7_copyWished_137 : decode cX7_copyWished 137 = .ok (.ireturn, 1) := by decide +kernel
set_option maxRecDepth 20000 in
theorem ggX7_areAsked_X7_isCircuit : GoodIn wsX7_areAsked wsX7_isCircuit := goodIn_r _ [5] (by decide +kernel) (by decide +kernel)
set_option maxRecDepth 20000 in
theorem gX7_areAsked_X7_isCircuit : GoodIn wsX7_areAsked (va_wsS RX7 81 yX7_isCircuit wsX7_isCircuit) := goodIn_app (goodIn_of _ (by decide +kernel)) ggX7_areAsked_X7_isCircuit
set_option maxRecDepth 20000 in
theorem ggX7_areAsked_X7_isPart : GoodIn wsX7_areAsked wsX7_isPart := goodIn_ca (goodIn_r _ [9, 10, 11, 12, 13, 4, 14, 15, 16, 17, 18, 19, 20, 21, 22, 23, 24, 25, 26, 27, 28, 29, 30, 31, 32, 33] (by decide +kernel) (by decide +kernel)) (goodIn_sub (fun _ h => List.mem_cons_of_mem _ (List.mem_append_right _ h)) (by decide +kernel))
set_option maxRecDepth 20000 in
theorem gX7_areAsked_X7_isPart : GoodIn wsX7_areAsked (wsV RX7 73 RX7 yX7_isPart wsX7_isPart) := goodIn_app (goodIn_of _ (by decide +kernel)) ggX7_areAsked_X7_isPart
theorem dX7_areAsked_0 : decode cX7_areAsked 0 = .ok (.aload_n 0, 1) := by decide +kernel
theorem dX7_areAsked_1 : decode cX7_areAsked 1 = .ok (.iload_n 1, 1) := by decide +kernel
theorem dX7_areAsked_2 : decode cX7_areAsked 2 = .ok (.invokestatic 81, 3) := by decide +kernel
theorem dX7_areAsked_5 : decode cX7_areAsked 5 = .ok (.ifCond .ne 7, 3) := by decide +kernel
theorem dX7_areAsked_8 : decode cX7_areAsked 8 = .ok (.iconst 1, 1) := by decide +kernel
theorem dX7_areAsked_9 : decode cX7_areAsked 9 = .ok (.goto 26, 3) := by decide +kernel
theorem dX7_areAsked_12 : decode cX7_areAsked 12 = .ok (.aload_n 0, 1) := by decide +kernel
theorem dX7_areAsked_13 : decode cX7_areAsked 13 = .ok (.iload_n 1, 1) := by decide +kernel
theorem dX7_areAsked_14 : decode cX7_areAsked 14 = .ok (.iload_n 2, 1) := by decide +kernel
theorem dX7_areAsked_15 : decode cX7_areAsked 15 = .ok (.invokevirtual 73, 3) := by decide +kernel
theorem dX7_areAsked_18 : decode cX7_areAsked 18 = .ok (.ifCond .eq 12, 3) := by decide +kernel
theorem dX7_areAsked_30 : decode cX7_areAsked 30 = .ok (.iconst 2, 1) := by decide +kernel
theorem dX7_areAsked_31 : decode cX7_areAsked 31 = .ok (.goto 4, 3) := by decide +kernel
theorem dX7_areAsked_35 : decode cX7_areAsked 35 = .ok (.putfield 57, 3) := by decide +kernel
theorem dX7_areAsked_38 : decode cX7_areAsked 38 = .ok (.aload_n 0, 1) := by decide +kernel
theorem dX7_areAsked_39 : decode cX7_areAsked 39 = .ok (.getfield 57, 3) := by decide +kernel
theorem dX7_areAsked_42 : decode cX7_areAsked 42 = .ok (.ifCond .ne 7, 3) := by decide +kernel
theorem dX7_areAsked_49 : decode cX7_areAsked 49 = .ok (.iconst 0, 1) := by decide +kernel
theorem dX7_areAsked_50 : decode cX7_areAsked 50 = .ok (.ireturn, 1) := by decide +kernel
set_option maxRecDepth 20000 in
theorem ggX7_canJoin_X7_areAsked : GoodIn wsX7_canJoin wsX7_areAsked := goodIn_ca (goodIn_r _ [5, 6, 7, 8, 4, 9, 10, 11, 12, 13, 14, 15, 16, 17, 18, 58, 59, 60, 61, 62, 63, 64, 65, 66, 67, 68, 69, 70, 71, 72, 73, 74, 75, 76] (by decide +kernel) (by decide +kernel)) (goodIn_sub (fun _ h => List.mem_cons_of_mem _ (List.mem_append_right _ h)) (by decide +kernel))
set_option maxRecDepth 20000 in
theorem gX7_canJoin_X7_areAsked : GoodIn wsX7_canJoin (wsV RX7 125 RX7 yX7_areAsked wsX7_areAsked) := goodIn_app (goodIn_of _ (by decide +kernel)) ggX7_canJoin_X7_areAsked
theorem dX7_canJoin_0 : decode cX7_canJoin 0 = .ok (.aload_n 0, 1) := by decide +kernel
theorem dX7_canJoin_1 : decode cX7_canJoin 1 = .ok (.iload_n 1, 1) := by decide +kernel
theorem dX7_canJoin_2 : decode cX7_canJoin 2 = .ok (.iload_n 2, 1) := by decide +kernel
theorem dX7_canJoin_3 : decode cX7_canJoin 3 = .ok (.iload_n 3, 1) := by decide +kernel
theorem dX7_canJoin_4 : decode cX7_canJoin 4 = .ok (.invokevirtual 125, 3) := by decide +kernel
theorem dX7_canJoin_7 : decode cX7_canJoin 7 = .ok (.ifCond .eq 13, 3) := by decide +kernel
theorem dX7_canJoin_20 : decode cX7_canJoin 20 = .ok (.bipush 32, 2) := by decide +kernel
theorem dX7_canJoin_22 : decode cX7_canJoin 22 = .ok (.ireturn, 1) := by decide +kernel
set_option maxRecDepth 20000 in
theorem ggX7_join_X7_areAsked : GoodIn wsX7_join wsX7_areAsked := goodIn_ca (goodIn_r _ [13, 1, 14, 15, 12, 16, 17, 18, 19, 20, 21, 22, 23, 24, 25, 78, 79, 80, 81, 82, 83, 84, 85, 86, 87, 88, 89, 90, 91, 92, 93, 94, 95, 96] (by decide +kernel) (by decide +kernel)) (goodIn_sub (fun _ h => List.mem_cons_of_mem _ (List.mem_append_left _ (List.mem_append_right _ h))) (by decide +kernel))
set_option maxRecDepth 20000 in
theorem gX7_join_X7_areAsked : GoodIn wsX7_join (wsV RX7 125 RX7 yX7_areAsked wsX7_areAsked) := goodIn_app (goodIn_of _ (by decide +kernel)) ggX7_join_X7_areAsked
theorem dX7_join_0 : decode cX7_join 0 = .ok (.aload_n 0, 1) := by decide +kernel
theorem dX7_join_1 : decode cX7_join 1 = .ok (.iload_n 1, 1) := by decide +kernel
theorem dX7_join_2 : decode cX7_join 2 = .ok (.iload_n 2, 1) := by decide +kernel
theorem dX7_join_3 : decode cX7_join 3 = .ok (.iload_n 3, 1) := by decide +kernel
theorem dX7_join_4 : decode cX7_join 4 = .ok (.invokevirtual 125, 3) := by decide +kernel
theorem dX7_join_7 : decode cX7_join 7 = .ok (.ifCond .ne 5, 3) := by decide +kernel
theorem dX7_join_10 : decode cX7_join 10 = .ok (.iconst (-1), 1) := by decide +kernel
theorem dX7_join_11 : decode cX7_join 11 = .ok (.ireturn, 1) := by decide +kernel
set_option maxRecDepth 20000 in
theorem ggX7_joinAll_X7_isCircuit : GoodIn wsX7_joinAll wsX7_isCircuit := goodIn_r _ [5] (by decide +kernel) (by decide +kernel)
set_option maxRecDepth 20000 in
theorem gX7_joinAll_X7_isCircuit : GoodIn wsX7_joinAll (va_wsS RX7 81 yX7_isCircuit wsX7_isCircuit) := goodIn_app (goodIn_of _ (by decide +kernel)) ggX7_joinAll_X7_isCircuit
set_option maxRecDepth 20000 in
theorem ggX7_joinAll_X7_firstPair : GoodIn wsX7_joinAll wsX7_firstPair := goodIn_ca (goodIn_r _ [9, 10, 11, 12, 13, 4, 14, 15, 16, 17, 18, 19, 20, 21, 22, 23, 24, 25, 26, 27, 28, 29, 30, 31, 32, 33, 34, 35, 36, 37, 38, 39, 40, 41, 42, 43, 44, 45, 46, 47, 48, 49, 50, 51, 52, 53, 54, 55, 56, 57, 78, 79, 80, 81, 82, 83, 84, 85, 86, 87, 88, 89, 90, 91, 92, 93, 94, 95, 96] (by decide +kernel) (by decide +kernel)) (goodIn_sub (fun _ h => List.mem_cons_of_mem _ (List.mem_append_left _ (List.mem_append_right _ h))) (by decide +kernel))
set_option maxRecDepth 20000 in
theorem gX7_joinAll_X7_firstPair : GoodIn wsX7_joinAll (wsV RX7 143 RX7 yX7_firstPair wsX7_firstPair) := goodIn_app (goodIn_of _ (by decide +kernel)) ggX7_joinAll_X7_firstPair
theorem dX7_joinAll_0 : decode cX7_joinAll 0 = .ok (.aload_n 0, 1) := by decide +kernel
theorem dX7_joinAll_1 : decode cX7_joinAll 1 = .ok (.iload_n 1, 1) := by decide +kernel
theorem dX7_joinAll_2 : decode cX7_joinAll 2 = .ok (.invokestatic 81, 3) := by decide +kernel
theorem dX7_joinAll_5 : decode cX7_joinAll 5 = .ok (.ifCond .eq 7, 3) := by decide +kernel
theorem dX7_joinAll_8 : decode cX7_joinAll 8 = .ok (.iconst 0, 1) := by decide +kernel
theorem dX7_joinAll_9 : decode cX7_joinAll 9 = .ok (.goto 4, 3) := by decide +kernel
theorem dX7_joinAll_12 : decode cX7_joinAll 12 = .ok (.iconst 1, 1) := by decide +kernel
theorem dX7_joinAll_13 : decode cX7_joinAll 13 = .ok (.putfield 57, 3) := by decide +kernel
theorem dX7_joinAll_16 : decode cX7_joinAll 16 = .ok (.aload_n 0, 1) := by decide +kernel
theorem dX7_joinAll_17 : decode cX7_joinAll 17 = .ok (.getfield 57, 3) := by decide +kernel
theorem dX7_joinAll_20 : decode cX7_joinAll 20 = .ok (.ifCond .ne 7, 3) := by decide +kernel
theorem dX7_joinAll_23 : decode cX7_joinAll 23 = .ok (.iconst 0, 1) := by decide +kernel
theorem dX7_joinAll_24 : decode cX7_joinAll 24 = .ok (.goto 4, 3) := by decide +kernel
theorem dX7_joinAll_27 : decode cX7_joinAll 27 = .ok (.iconst (-1), 1) := by decide +kernel
theorem dX7_joinAll_28 : decode cX7_joinAll 28 = .ok (.istore_n 2, 1) := by decide +kernel
theorem dX7_joinAll_29 : decode cX7_joinAll 29 = .ok (.aload_n 0, 1) := by decide +kernel
theorem dX7_joinAll_30 : decode cX7_joinAll 30 = .ok (.getfield 57, 3) := by decide +kernel
theorem dX7_joinAll_33 : decode cX7_joinAll 33 = .ok (.ifCond .ne 38, 3) := by decide +kernel
theorem dX7_joinAll_36 : decode cX7_joinAll 36 = .ok (.aload_n 0, 1) := by decide +kernel
theorem dX7_joinAll_37 : decode cX7_joinAll 37 = .ok (.iload_n 1, 1) := by decide +kernel
theorem dX7_joinAll_38 : decode cX7_joinAll 38 = .ok (.invokevirtual 143, 3) := by decide +kernel
theorem dX7_joinAll_41 : decode cX7_joinAll 41 = .ok (.iconst (-1), 1) := by decide +kernel
theorem dX7_joinAll_42 : decode cX7_joinAll 42 = .ok (.if_icmp .eq 29, 3) := by decide +kernel
theorem dX7_joinAll_71 : decode cX7_joinAll 71 = .ok (.iload_n 2, 1) := by decide +kernel
theorem dX7_joinAll_72 : decode cX7_joinAll 72 = .ok (.ireturn, 1) := by decide +kernel
set_option maxRecDepth 20000 in
theorem ggX7_nets_X7_isCircuit : GoodIn wsX7_nets wsX7_isCircuit := goodIn_r _ [6] (by decide +kernel) (by decide +kernel)
set_option maxRecDepth 20000 in
theorem gX7_nets_X7_isCircuit : GoodIn wsX7_nets (va_wsS RX7 81 yX7_isCircuit wsX7_isCircuit) := goodIn_app (goodIn_of _ (by decide +kernel)) ggX7_nets_X7_isCircuit
theorem dX7_nets_0 : decode cX7_nets 0 = .ok (.aload_n 0, 1) := by decide +kernel
theorem dX7_nets_1 : decode cX7_nets 1 = .ok (.iload_n 1, 1) := by decide +kernel
theorem dX7_nets_2 : decode cX7_nets 2 = .ok (.invokestatic 81, 3) := by decide +kernel
theorem dX7_nets_5 : decode cX7_nets 5 = .ok (.ifCond .eq 7, 3) := by decide +kernel
theorem dX7_nets_8 : decode cX7_nets 8 = .ok (.iconst 0, 1) := by decide +kernel
theorem dX7_nets_9 : decode cX7_nets 9 = .ok (.goto 4, 3) := by decide +kernel
theorem dX7_nets_12 : decode cX7_nets 12 = .ok (.iconst 1, 1) := by decide +kernel
theorem dX7_nets_13 : decode cX7_nets 13 = .ok (.putfield 57, 3) := by decide +kernel
theorem dX7_nets_16 : decode cX7_nets 16 = .ok (.aload_n 0, 1) := by decide +kernel
theorem dX7_nets_17 : decode cX7_nets 17 = .ok (.getfield 57, 3) := by decide +kernel
theorem dX7_nets_20 : decode cX7_nets 20 = .ok (.ifCond .ne 12, 3) := by decide +kernel
theorem dX7_nets_23 : decode cX7_nets 23 = .ok (.aload_n 0, 1) := by decide +kernel
theorem dX7_nets_24 : decode cX7_nets 24 = .ok (.getfield 7, 3) := by decide +kernel
theorem dX7_nets_27 : decode cX7_nets 27 = .ok (.iload_n 1, 1) := by decide +kernel
theorem dX7_nets_28 : decode cX7_nets 28 = .ok (.iaload, 1) := by decide +kernel
theorem dX7_nets_29 : decode cX7_nets 29 = .ok (.goto 4, 3) := by decide +kernel
theorem dX7_nets_32 : decode cX7_nets 32 = .ok (.iconst (-1), 1) := by decide +kernel
theorem dX7_nets_33 : decode cX7_nets 33 = .ok (.ireturn, 1) := by decide +kernel
set_option maxRecDepth 20000 in
theorem ggX7_parts_X7_isCircuit : GoodIn wsX7_parts wsX7_isCircuit := goodIn_r _ [5] (by decide +kernel) (by decide +kernel)
set_option maxRecDepth 20000 in
theorem gX7_parts_X7_isCircuit : GoodIn wsX7_parts (va_wsS RX7 81 yX7_isCircuit wsX7_isCircuit) := goodIn_app (goodIn_of _ (by decide +kernel)) ggX7_parts_X7_isCircuit
set_option maxRecDepth 20000 in
theorem ggX7_parts_X7_partMany : GoodIn wsX7_parts wsX7_partMany := goodIn_ca (goodIn_r _ [9, 10, 11, 12, 13, 4, 14, 15, 16, 17, 18, 19, 20, 21, 22, 23, 24, 25, 26, 27, 28, 29, 30, 31, 32, 33, 34, 35, 36, 37] (by decide +kernel) (by decide +kernel)) (goodIn_sub (fun _ h => List.mem_cons_of_mem _ (List.mem_append_right _ h)) (by decide +kernel))
set_option maxRecDepth 20000 in
theorem gX7_parts_X7_partMany : GoodIn wsX7_parts (wsV RX7 101 RX7 yX7_partMany wsX7_partMany) := goodIn_app (goodIn_of _ (by decide +kernel)) ggX7_parts_X7_partMany
theorem dX7_parts_0 : decode cX7_parts 0 = .ok (.aload_n 0, 1) := by decide +kernel
theorem dX7_parts_1 : decode cX7_parts 1 = .ok (.iload_n 1, 1) := by decide +kernel
theorem dX7_parts_2 : decode cX7_parts 2 = .ok (.invokestatic 81, 3) := by decide +kernel
theorem dX7_parts_5 : decode cX7_parts 5 = .ok (.ifCond .eq 7, 3) := by decide +kernel
theorem dX7_parts_8 : decode cX7_parts 8 = .ok (.iconst 0, 1) := by decide +kernel
theorem dX7_parts_9 : decode cX7_parts 9 = .ok (.goto 4, 3) := by decide +kernel
theorem dX7_parts_12 : decode cX7_parts 12 = .ok (.iconst 1, 1) := by decide +kernel
theorem dX7_parts_13 : decode cX7_parts 13 = .ok (.putfield 57, 3) := by decide +kernel
theorem dX7_parts_16 : decode cX7_parts 16 = .ok (.aload_n 0, 1) := by decide +kernel
theorem dX7_parts_17 : decode cX7_parts 17 = .ok (.getfield 57, 3) := by decide +kernel
theorem dX7_parts_20 : decode cX7_parts 20 = .ok (.ifCond .ne 11, 3) := by decide +kernel
theorem dX7_parts_23 : decode cX7_parts 23 = .ok (.aload_n 0, 1) := by decide +kernel
theorem dX7_parts_24 : decode cX7_parts 24 = .ok (.iload_n 1, 1) := by decide +kernel
theorem dX7_parts_25 : decode cX7_parts 25 = .ok (.invokevirtual 101, 3) := by decide +kernel
theorem dX7_parts_28 : decode cX7_parts 28 = .ok (.goto 4, 3) := by decide +kernel
theorem dX7_parts_31 : decode cX7_parts 31 = .ok (.iconst (-1), 1) := by decide +kernel
theorem dX7_parts_32 : decode cX7_parts 32 = .ok (.ireturn, 1) := by decide +kernel
set_option maxRecDepth 20000 in
theorem ggX7_kindOf_X7_isAsked : GoodIn wsX7_kindOf wsX7_isAsked := goodIn_ca (goodIn_r _ [5, 6, 7, 8, 4, 9, 10, 11, 12, 13, 14, 15, 16, 17, 18, 24, 25, 26, 27, 28, 29, 30, 31, 32, 33, 34, 35, 36, 37, 38, 39, 40, 41, 42] (by decide +kernel) (by decide +kernel)) (goodIn_sub (fun _ h => List.mem_cons_of_mem _ (List.mem_append_right _ h)) (by decide +kernel))
set_option maxRecDepth 20000 in
theorem gX7_kindOf_X7_isAsked : GoodIn wsX7_kindOf (wsV RX7 98 RX7 yX7_isAsked wsX7_isAsked) := goodIn_app (goodIn_of _ (by decide +kernel)) ggX7_kindOf_X7_isAsked
theorem dX7_kindOf_0 : decode cX7_kindOf 0 = .ok (.aload_n 0, 1) := by decide +kernel
theorem dX7_kindOf_1 : decode cX7_kindOf 1 = .ok (.iload_n 1, 1) := by decide +kernel
theorem dX7_kindOf_2 : decode cX7_kindOf 2 = .ok (.iload_n 2, 1) := by decide +kernel
theorem dX7_kindOf_3 : decode cX7_kindOf 3 = .ok (.invokevirtual 98, 3) := by decide +kernel
theorem dX7_kindOf_6 : decode cX7_kindOf 6 = .ok (.ifCond .eq 12, 3) := by decide +kernel
theorem dX7_kindOf_18 : decode cX7_kindOf 18 = .ok (.bipush 32, 2) := by decide +kernel
theorem dX7_kindOf_20 : decode cX7_kindOf 20 = .ok (.ireturn, 1) := by decide +kernel
set_option maxRecDepth 20000 in
theorem ggX7_valueOf_X7_isAsked : GoodIn wsX7_valueOf wsX7_isAsked := goodIn_ca (goodIn_r _ [5, 6, 7, 8, 4, 9, 10, 11, 12, 13, 14, 15, 16, 17, 18, 24, 25, 26, 27, 28, 29, 30, 31, 32, 33, 34, 35, 36, 37, 38, 39, 40, 41, 42] (by decide +kernel) (by decide +kernel)) (goodIn_sub (fun _ h => List.mem_cons_of_mem _ (List.mem_append_right _ h)) (by decide +kernel))
set_option maxRecDepth 20000 in
theorem gX7_valueOf_X7_isAsked : GoodIn wsX7_valueOf (wsV RX7 98 RX7 yX7_isAsked wsX7_isAsked) := goodIn_app (goodIn_of _ (by decide +kernel)) ggX7_valueOf_X7_isAsked
theorem dX7_valueOf_0 : decode cX7_valueOf 0 = .ok (.aload_n 0, 1) := by decide +kernel
theorem dX7_valueOf_1 : decode cX7_valueOf 1 = .ok (.iload_n 1, 1) := by decide +kernel
theorem dX7_valueOf_2 : decode cX7_valueOf 2 = .ok (.iload_n 2, 1) := by decide +kernel
theorem dX7_valueOf_3 : decode cX7_valueOf 3 = .ok (.invokevirtual 98, 3) := by decide +kernel
theorem dX7_valueOf_6 : decode cX7_valueOf 6 = .ok (.ifCond .eq 12, 3) := by decide +kernel
theorem dX7_valueOf_18 : decode cX7_valueOf 18 = .ok (.iconst (-1), 1) := by decide +kernel
theorem dX7_valueOf_19 : decode cX7_valueOf 19 = .ok (.ireturn, 1) := by decide +kernel
set_option maxRecDepth 20000 in
theorem ggX7_netOf_X7_isAsked : GoodIn wsX7_netOf wsX7_isAsked := goodIn_ca (goodIn_r _ [6, 1, 7, 8, 5, 9, 10, 11, 12, 13, 14, 15, 16, 17, 18, 32, 33, 34, 35, 36, 37, 38, 39, 40, 41, 42, 43, 44, 45, 46, 47, 48, 49, 50] (by decide +kernel) (by decide +kernel)) (goodIn_sub (fun _ h => List.mem_cons_of_mem _ (List.mem_append_right _ h)) (by decide +kernel))
set_option maxRecDepth 20000 in
theorem gX7_netOf_X7_isAsked : GoodIn wsX7_netOf (wsV RX7 98 RX7 yX7_isAsked wsX7_isAsked) := goodIn_app (goodIn_of _ (by decide +kernel)) ggX7_netOf_X7_isAsked
theorem dX7_netOf_0 : decode cX7_netOf 0 = .ok (.aload_n 0, 1) := by decide +kernel
theorem dX7_netOf_1 : decode cX7_netOf 1 = .ok (.iload_n 1, 1) := by decide +kernel
theorem dX7_netOf_2 : decode cX7_netOf 2 = .ok (.iload_n 2, 1) := by decide +kernel
theorem dX7_netOf_3 : decode cX7_netOf 3 = .ok (.invokevirtual 98, 3) := by decide +kernel
theorem dX7_netOf_6 : decode cX7_netOf 6 = .ok (.ifCond .ne 5, 3) := by decide +kernel
theorem dX7_netOf_9 : decode cX7_netOf 9 = .ok (.iconst (-1), 1) := by decide +kernel
theorem dX7_netOf_10 : decode cX7_netOf 10 = .ok (.ireturn, 1) := by decide +kernel
set_option maxRecDepth 20000 in
theorem ggX7_isNetAsked_X7_isCircuit : GoodIn wsX7_isNetAsked wsX7_isCircuit := goodIn_r _ [5] (by decide +kernel) (by decide +kernel)
set_option maxRecDepth 20000 in
theorem gX7_isNetAsked_X7_isCircuit : GoodIn wsX7_isNetAsked (va_wsS RX7 81 yX7_isCircuit wsX7_isCircuit) := goodIn_app (goodIn_of _ (by decide +kernel)) ggX7_isNetAsked_X7_isCircuit
set_option maxRecDepth 20000 in
theorem ggX7_isNetAsked_X7_isNet : GoodIn wsX7_isNetAsked wsX7_isNet := goodIn_ca (goodIn_r _ [9, 10, 11, 12, 4, 13, 14, 15, 16, 17, 18, 19, 20, 21, 22, 23, 24, 25, 26, 27, 28, 29, 30, 31, 32] (by decide +kernel) (by decide +kernel)) (goodIn_sub (fun _ h => List.mem_cons_of_mem _ (List.mem_append_right _ h)) (by decide +kernel))
set_option maxRecDepth 20000 in
theorem gX7_isNetAsked_X7_isNet : GoodIn wsX7_isNetAsked (wsV RX7 89 RX7 yX7_isNet wsX7_isNet) := goodIn_app (goodIn_of _ (by decide +kernel)) ggX7_isNetAsked_X7_isNet
theorem dX7_isNetAsked_0 : decode cX7_isNetAsked 0 = .ok (.aload_n 0, 1) := by decide +kernel
theorem dX7_isNetAsked_1 : decode cX7_isNetAsked 1 = .ok (.iload_n 1, 1) := by decide +kernel
theorem dX7_isNetAsked_2 : decode cX7_isNetAsked 2 = .ok (.invokestatic 81, 3) := by decide +kernel
theorem dX7_isNetAsked_5 : decode cX7_isNetAsked 5 = .ok (.ifCond .ne 7, 3) := by decide +kernel
theorem dX7_isNetAsked_8 : decode cX7_isNetAsked 8 = .ok (.iconst 1, 1) := by decide +kernel
theorem dX7_isNetAsked_9 : decode cX7_isNetAsked 9 = .ok (.goto 17, 3) := by decide +kernel
theorem dX7_isNetAsked_12 : decode cX7_isNetAsked 12 = .ok (.aload_n 0, 1) := by decide +kernel
theorem dX7_isNetAsked_13 : decode cX7_isNetAsked 13 = .ok (.iload_n 1, 1) := by decide +kernel
theorem dX7_isNetAsked_14 : decode cX7_isNetAsked 14 = .ok (.iload_n 2, 1) := by decide +kernel
theorem dX7_isNetAsked_15 : decode cX7_isNetAsked 15 = .ok (.invokevirtual 89, 3) := by decide +kernel
theorem dX7_isNetAsked_18 : decode cX7_isNetAsked 18 = .ok (.ifCond .ne 7, 3) := by decide +kernel
theorem dX7_isNetAsked_21 : decode cX7_isNetAsked 21 = .ok (.iconst 2, 1) := by decide +kernel
theorem dX7_isNetAsked_22 : decode cX7_isNetAsked 22 = .ok (.goto 4, 3) := by decide +kernel
theorem dX7_isNetAsked_26 : decode cX7_isNetAsked 26 = .ok (.putfield 57, 3) := by decide +kernel
theorem dX7_isNetAsked_29 : decode cX7_isNetAsked 29 = .ok (.aload_n 0, 1) := by decide +kernel
theorem dX7_isNetAsked_30 : decode cX7_isNetAsked 30 = .ok (.getfield 57, 3) := by decide +kernel
theorem dX7_isNetAsked_33 : decode cX7_isNetAsked 33 = .ok (.ifCond .ne 7, 3) := by decide +kernel
theorem dX7_isNetAsked_40 : decode cX7_isNetAsked 40 = .ok (.iconst 0, 1) := by decide +kernel
theorem dX7_isNetAsked_41 : decode cX7_isNetAsked 41 = .ok (.ireturn, 1) := by decide +kernel
set_option maxRecDepth 20000 in
theorem ggX7_pinsOn_X7_isNetAsked : GoodIn wsX7_pinsOn wsX7_isNetAsked := goodIn_ca (goodIn_r _ [5, 6, 7, 8, 4, 9, 10, 11, 12, 13, 14, 15, 16, 17, 41, 42, 43, 44, 45, 46, 47, 48, 49, 50, 51, 52, 53, 54, 55, 56, 57, 58, 59] (by decide +kernel) (by decide +kernel)) (goodIn_sub (fun _ h => List.mem_cons_of_mem _ (List.mem_append_right _ h)) (by decide +kernel))
set_option maxRecDepth 20000 in
theorem gX7_pinsOn_X7_isNetAsked : GoodIn wsX7_pinsOn (wsV RX7 146 RX7 yX7_isNetAsked wsX7_isNetAsked) := goodIn_app (goodIn_of _ (by decide +kernel)) ggX7_pinsOn_X7_isNetAsked
theorem dX7_pinsOn_0 : decode cX7_pinsOn 0 = .ok (.aload_n 0, 1) := by decide +kernel
theorem dX7_pinsOn_1 : decode cX7_pinsOn 1 = .ok (.iload_n 1, 1) := by decide +kernel
theorem dX7_pinsOn_2 : decode cX7_pinsOn 2 = .ok (.iload_n 2, 1) := by decide +kernel
theorem dX7_pinsOn_3 : decode cX7_pinsOn 3 = .ok (.invokevirtual 146, 3) := by decide +kernel
theorem dX7_pinsOn_6 : decode cX7_pinsOn 6 = .ok (.ifCond .eq 12, 3) := by decide +kernel
theorem dX7_pinsOn_18 : decode cX7_pinsOn 18 = .ok (.iconst (-1), 1) := by decide +kernel
theorem dX7_pinsOn_19 : decode cX7_pinsOn 19 = .ok (.ireturn, 1) := by decide +kernel
set_option maxRecDepth 20000 in
theorem ggX7_portOf_X7_isNetAsked : GoodIn wsX7_portOf wsX7_isNetAsked := goodIn_ca (goodIn_r _ [6, 7, 8, 9, 5, 10, 11, 12, 13, 14, 15, 16, 17, 18, 19, 20, 21, 22, 23, 24, 25, 26, 27, 28, 29, 30, 31, 32, 33, 34, 35, 36, 37] (by decide +kernel) (by decide +kernel)) (goodIn_sub (fun _ h => List.mem_cons_of_mem _ (List.mem_append_right _ h)) (by decide +kernel))
set_option maxRecDepth 20000 in
theorem gX7_portOf_X7_isNetAsked : GoodIn wsX7_portOf (wsV RX7 146 RX7 yX7_isNetAsked wsX7_isNetAsked) := goodIn_app (goodIn_of _ (by decide +kernel)) ggX7_portOf_X7_isNetAsked
theorem dX7_portOf_0 : decode cX7_portOf 0 = .ok (.aload_n 0, 1) := by decide +kernel
theorem dX7_portOf_1 : decode cX7_portOf 1 = .ok (.iload_n 1, 1) := by decide +kernel
theorem dX7_portOf_2 : decode cX7_portOf 2 = .ok (.iload_n 2, 1) := by decide +kernel
theorem dX7_portOf_3 : decode cX7_portOf 3 = .ok (.invokevirtual 146, 3) := by decide +kernel
theorem dX7_portOf_6 : decode cX7_portOf 6 = .ok (.ifCond .eq 17, 3) := by decide +kernel
theorem dX7_portOf_23 : decode cX7_portOf 23 = .ok (.bipush 32, 2) := by decide +kernel
theorem dX7_portOf_25 : decode cX7_portOf 25 = .ok (.ireturn, 1) := by decide +kernel
set_option maxRecDepth 20000 in
theorem ggX7_distance_X7_isNetAsked : GoodIn wsX7_distance wsX7_isNetAsked := goodIn_ca (goodIn_r _ [5, 6, 7, 8, 4, 9, 10, 11, 12, 13, 14, 15, 16, 17, 51, 52, 53, 54, 55, 56, 57, 58, 59, 60, 61, 62, 63, 64, 65, 66, 67, 68, 69] (by decide +kernel) (by decide +kernel)) (goodIn_sub (fun _ h => List.mem_cons_of_mem _ (List.mem_append_right _ h)) (by decide +kernel))
set_option maxRecDepth 20000 in
theorem gX7_distance_X7_isNetAsked : GoodIn wsX7_distance (wsV RX7 146 RX7 yX7_isNetAsked wsX7_isNetAsked) := goodIn_app (goodIn_of _ (by decide +kernel)) ggX7_distance_X7_isNetAsked
theorem dX7_distance_0 : decode cX7_distance 0 = .ok (.aload_n 0, 1) := by decide +kernel
theorem dX7_distance_1 : decode cX7_distance 1 = .ok (.iload_n 1, 1) := by decide +kernel
theorem dX7_distance_2 : decode cX7_distance 2 = .ok (.iload_n 2, 1) := by decide +kernel
theorem dX7_distance_3 : decode cX7_distance 3 = .ok (.invokevirtual 146, 3) := by decide +kernel
theorem dX7_distance_6 : decode cX7_distance 6 = .ok (.ifCond .eq 12, 3) := by decide +kernel
theorem dX7_distance_18 : decode cX7_distance 18 = .ok (.iconst (-1), 1) := by decide +kernel
theorem dX7_distance_19 : decode cX7_distance 19 = .ok (.ireturn, 1) := by decide +kernel
set_option maxRecDepth 20000 in
theorem ggX7_labelLength_X7_isAsked : GoodIn wsX7_labelLength wsX7_isAsked := goodIn_ca (goodIn_r _ [5, 6, 7, 8, 4, 9, 10, 11, 12, 13, 14, 15, 16, 17, 18, 266, 267, 268, 269, 270, 271, 272, 273, 274, 275, 276, 277, 278, 279, 280, 281, 282, 283, 284] (by decide +kernel) (by decide +kernel)) (goodIn_sub (fun _ h => List.mem_cons_of_mem _ (List.mem_append_right _ h)) (by decide +kernel))
set_option maxRecDepth 20000 in
theorem gX7_labelLength_X7_isAsked : GoodIn wsX7_labelLength (wsV RX7 98 RX7 yX7_isAsked wsX7_isAsked) := goodIn_app (goodIn_of _ (by decide +kernel)) ggX7_labelLength_X7_isAsked
theorem dX7_labelLength_0 : decode cX7_labelLength 0 = .ok (.aload_n 0, 1) := by decide +kernel
theorem dX7_labelLength_1 : decode cX7_labelLength 1 = .ok (.iload_n 1, 1) := by decide +kernel
theorem dX7_labelLength_2 : decode cX7_labelLength 2 = .ok (.iload_n 2, 1) := by decide +kernel
theorem dX7_labelLength_3 : decode cX7_labelLength 3 = .ok (.invokevirtual 98, 3) := by decide +kernel
theorem dX7_labelLength_6 : decode cX7_labelLength 6 = .ok (.ifCond .eq 15, 3) := by decide +kernel
theorem dX7_labelLength_21 : decode cX7_labelLength 21 = .ok (.iconst (-1), 1) := by decide +kernel
theorem dX7_labelLength_22 : decode cX7_labelLength 22 = .ok (.ireturn, 1) := by decide +kernel
set_option maxRecDepth 20000 in
theorem ggX7_labelAt_X7_isAsked : GoodIn wsX7_labelAt wsX7_isAsked := goodIn_ca (goodIn_r _ [6, 1, 7, 8, 5, 9, 10, 11, 12, 13, 14, 15, 16, 17, 18, 281, 282, 283, 284, 285, 286, 287, 288, 289, 290, 291, 292, 293, 294, 295, 296, 297, 298, 299] (by decide +kernel) (by decide +kernel)) (goodIn_sub (fun _ h => List.mem_cons_of_mem _ (List.mem_append_right _ h)) (by decide +kernel))
set_option maxRecDepth 20000 in
theorem gX7_labelAt_X7_isAsked : GoodIn wsX7_labelAt (wsV RX7 98 RX7 yX7_isAsked wsX7_isAsked) := goodIn_app (goodIn_of _ (by decide +kernel)) ggX7_labelAt_X7_isAsked
theorem dX7_labelAt_0 : decode cX7_labelAt 0 = .ok (.aload_n 0, 1) := by decide +kernel
theorem dX7_labelAt_1 : decode cX7_labelAt 1 = .ok (.iload_n 1, 1) := by decide +kernel
theorem dX7_labelAt_2 : decode cX7_labelAt 2 = .ok (.iload_n 2, 1) := by decide +kernel
theorem dX7_labelAt_3 : decode cX7_labelAt 3 = .ok (.invokevirtual 98, 3) := by decide +kernel
theorem dX7_labelAt_6 : decode cX7_labelAt 6 = .ok (.ifCond .ne 6, 3) := by decide +kernel
theorem dX7_labelAt_9 : decode cX7_labelAt 9 = .ok (.bipush 32, 2) := by decide +kernel
theorem dX7_labelAt_11 : decode cX7_labelAt 11 = .ok (.ireturn, 1) := by decide +kernel
set_option maxRecDepth 20000 in
theorem ggX7_rounds_X7_colours : GoodIn wsX7_rounds wsX7_colours := goodIn_ca (goodIn_r _ [7, 8, 9, 10, 11, 12, 2, 13, 14, 15, 16, 17, 6, 18, 19, 20, 21, 22, 23, 24, 25, 26, 27, 28, 29, 30, 31, 32, 33, 34, 35, 36, 37, 38, 39, 40, 41, 42, 43, 44, 45, 46, 47, 48, 49, 50, 51, 52, 53, 54, 55, 56, 57, 58, 59, 60, 61, 62, 63, 64, 65, 66, 67, 68, 69, 70, 71, 72, 73, 74, 75, 76, 77, 78, 79, 80, 81, 82, 83, 84, 85, 86, 87, 88, 89, 90, 91, 92, 93, 94, 95, 96, 97, 98, 99, 100, 101, 102, 103, 104, 105, 106, 107, 108, 109, 110, 111, 112, 113, 114] (by decide +kernel) (by decide +kernel)) (goodIn_sub (fun _ h => List.mem_cons_of_mem _ (List.mem_append_right _ h)) (by decide +kernel))
set_option maxRecDepth 20000 in
theorem gX7_rounds_X7_colours : GoodIn wsX7_rounds (wsV RX7 234 RX7 yX7_colours wsX7_colours) := goodIn_app (goodIn_of _ (by decide +kernel)) ggX7_rounds_X7_colours
theorem dX7_rounds_0 : decode cX7_rounds 0 = .ok (.aload_n 0, 1) := by decide +kernel
theorem dX7_rounds_1 : decode cX7_rounds 1 = .ok (.iconst 0, 1) := by decide +kernel
theorem dX7_rounds_2 : decode cX7_rounds 2 = .ok (.putfield 57, 3) := by decide +kernel
theorem dX7_rounds_5 : decode cX7_rounds 5 = .ok (.aload_n 0, 1) := by decide +kernel
theorem dX7_rounds_6 : decode cX7_rounds 6 = .ok (.invokevirtual 234, 3) := by decide +kernel
theorem dX7_rounds_9 : decode cX7_rounds 9 = .ok (.aload_n 0, 1) := by decide +kernel
theorem dX7_rounds_10 : decode cX7_rounds 10 = .ok (.getfield 218, 3) := by decide +kernel
theorem dX7_rounds_13 : decode cX7_rounds 13 = .ok (.ireturn, 1) := by decide +kernel
set_option maxRecDepth 20000 in
theorem ggX7_netClasses_X7_colours : GoodIn wsX7_netClasses wsX7_colours := goodIn_ca (goodIn_r _ [7, 2, 8, 9, 10, 11, 12, 13, 14, 15, 16, 17, 6, 18, 19, 20, 21, 22, 23, 24, 25, 26, 27, 28, 29, 30, 31, 32, 33, 34, 35, 36, 37, 38, 39, 40, 41, 42, 43, 44, 45, 46, 47, 48, 49, 50, 51, 52, 53, 54, 55, 56, 57, 58, 59, 60, 61, 62, 63, 64, 65, 66, 67, 68, 69, 70, 71, 72, 73, 74, 75, 76, 77, 78, 79, 80, 81, 82, 83, 84, 85, 86, 87, 88, 89, 90, 91, 92, 93, 94, 95, 96, 97, 98, 99, 100, 101, 102, 103, 104, 105, 106, 107, 108, 109, 110, 111, 112, 113, 114] (by decide +kernel) (by decide +kernel)) (goodIn_sub (fun _ h => List.mem_cons_of_mem _ (List.mem_append_right _ h)) (by decide +kernel))
set_option maxRecDepth 20000 in
theorem gX7_netClasses_X7_colours : GoodIn wsX7_netClasses (wsV RX7 234 RX7 yX7_colours wsX7_colours) := goodIn_app (goodIn_of _ (by decide +kernel)) ggX7_netClasses_X7_colours
set_option maxRecDepth 20000 in
theorem ggX7_netClasses_X7_classes : GoodIn wsX7_netClasses wsX7_classes := goodIn_ca (goodIn_r _ [67, 58, 59, 6, 60, 61, 62, 63, 64] (by decide +kernel) (by decide +kernel)) (goodIn_sub (fun _ h => List.mem_cons_of_mem _ (List.mem_append_right _ h)) (by decide +kernel))
set_option maxRecDepth 20000 in
theorem gX7_netClasses_X7_classes : GoodIn wsX7_netClasses (va_wsS RX7 221 yX7_classes wsX7_classes) := goodIn_app (goodIn_of _ (by decide +kernel)) ggX7_netClasses_X7_classes
theorem dX7_netClasses_0 : decode cX7_netClasses 0 = .ok (.aload_n 0, 1) := by decide +kernel
theorem dX7_netClasses_1 : decode cX7_netClasses 1 = .ok (.iconst 0, 1) := by decide +kernel
theorem dX7_netClasses_2 : decode cX7_netClasses 2 = .ok (.putfield 57, 3) := by decide +kernel
theorem dX7_netClasses_5 : decode cX7_netClasses 5 = .ok (.aload_n 0, 1) := by decide +kernel
theorem dX7_netClasses_6 : decode cX7_netClasses 6 = .ok (.invokevirtual 234, 3) := by decide +kernel
theorem dX7_netClasses_9 : decode cX7_netClasses 9 = .ok (.aload_n 0, 1) := by decide +kernel
theorem dX7_netClasses_10 : decode cX7_netClasses 10 = .ok (.getfield 33, 3) := by decide +kernel
theorem dX7_netClasses_13 : decode cX7_netClasses 13 = .ok (.invokestatic 221, 3) := by decide +kernel
theorem dX7_netClasses_16 : decode cX7_netClasses 16 = .ok (.ireturn, 1) := by decide +kernel
set_option maxRecDepth 20000 in
theorem ggX7_partClasses_X7_colours : GoodIn wsX7_partClasses wsX7_colours := goodIn_ca (goodIn_r _ [7, 8, 9, 2, 10, 11, 12, 13, 14, 15, 16, 17, 6, 18, 19, 20, 21, 22, 23, 24, 25, 26, 27, 28, 29, 30, 31, 32, 33, 34, 35, 36, 37, 38, 39, 40, 41, 42, 43, 44, 45, 46, 47, 48, 49, 50, 51, 52, 53, 54, 55, 56, 57, 58, 59, 60, 61, 62, 63, 64, 65, 66, 67, 68, 69, 70, 71, 72, 73, 74, 75, 76, 77, 78, 79, 80, 81, 82, 83, 84, 85, 86, 87, 88, 89, 90, 91, 92, 93, 94, 95, 96, 97, 98, 99, 100, 101, 102, 103, 104, 105, 106, 107, 108, 109, 110, 111, 112, 113, 114] (by decide +kernel) (by decide +kernel)) (goodIn_sub (fun _ h => List.mem_cons_of_mem _ (List.mem_append_right _ h)) (by decide +kernel))
set_option maxRecDepth 20000 in
theorem gX7_partClasses_X7_colours : GoodIn wsX7_partClasses (wsV RX7 234 RX7 yX7_colours wsX7_colours) := goodIn_app (goodIn_of _ (by decide +kernel)) ggX7_partClasses_X7_colours
set_option maxRecDepth 20000 in
theorem ggX7_partClasses_X7_classes : GoodIn wsX7_partClasses wsX7_classes := goodIn_ca (goodIn_r _ [67, 58, 59, 6, 60, 61, 62, 63, 64] (by decide +kernel) (by decide +kernel)) (goodIn_sub (fun _ h => List.mem_cons_of_mem _ (List.mem_append_right _ h)) (by decide +kernel))
set_option maxRecDepth 20000 in
theorem gX7_partClasses_X7_classes : GoodIn wsX7_partClasses (va_wsS RX7 221 yX7_classes wsX7_classes) := goodIn_app (goodIn_of _ (by decide +kernel)) ggX7_partClasses_X7_classes
theorem dX7_partClasses_0 : decode cX7_partClasses 0 = .ok (.aload_n 0, 1) := by decide +kernel
theorem dX7_partClasses_1 : decode cX7_partClasses 1 = .ok (.iconst 0, 1) := by decide +kernel
theorem dX7_partClasses_2 : decode cX7_partClasses 2 = .ok (.putfield 57, 3) := by decide +kernel
theorem dX7_partClasses_5 : decode cX7_partClasses 5 = .ok (.aload_n 0, 1) := by decide +kernel
theorem dX7_partClasses_6 : decode cX7_partClasses 6 = .ok (.invokevirtual 234, 3) := by decide +kernel
theorem dX7_partClasses_9 : decode cX7_partClasses 9 = .ok (.aload_n 0, 1) := by decide +kernel
theorem dX7_partClasses_10 : decode cX7_partClasses 10 = .ok (.getfield 36, 3) := by decide +kernel
theorem dX7_partClasses_13 : decode cX7_partClasses 13 = .ok (.invokestatic 221, 3) := by decide +kernel
theorem dX7_partClasses_16 : decode cX7_partClasses 16 = .ok (.ireturn, 1) := by decide +kernel
set_option maxRecDepth 20000 in
theorem ggX7_netsLike_X7_isCircuit : GoodIn wsX7_netsLike wsX7_isCircuit := goodIn_r _ [6] (by decide +kernel) (by decide +kernel)
set_option maxRecDepth 20000 in
theorem gX7_netsLike_X7_isCircuit : GoodIn wsX7_netsLike (va_wsS RX7 81 yX7_isCircuit wsX7_isCircuit) := goodIn_app (goodIn_of _ (by decide +kernel)) ggX7_netsLike_X7_isCircuit
set_option maxRecDepth 20000 in
theorem ggX7_netsLike_X7_isNet : GoodIn wsX7_netsLike wsX7_isNet := goodIn_ca (goodIn_r _ [10, 11, 12, 13, 5, 14, 102, 103, 104, 105, 106, 107, 108, 109, 110, 111, 112, 113, 114, 115, 116, 117, 118, 119, 120] (by decide +kernel) (by decide +kernel)) (goodIn_sub (fun _ h => List.mem_cons_of_mem _ (List.mem_append_right _ h)) (by decide +kernel))
set_option maxRecDepth 20000 in
theorem gX7_netsLike_X7_isNet : GoodIn wsX7_netsLike (wsV RX7 89 RX7 yX7_isNet wsX7_isNet) := goodIn_app (goodIn_of _ (by decide +kernel)) ggX7_netsLike_X7_isNet
theorem dX7_netsLike_0 : decode cX7_netsLike 0 = .ok (.aload_n 0, 1) := by decide +kernel
theorem dX7_netsLike_1 : decode cX7_netsLike 1 = .ok (.iload_n 1, 1) := by decide +kernel
theorem dX7_netsLike_2 : decode cX7_netsLike 2 = .ok (.invokestatic 81, 3) := by decide +kernel
theorem dX7_netsLike_5 : decode cX7_netsLike 5 = .ok (.ifCond .eq 10, 3) := by decide +kernel
theorem dX7_netsLike_8 : decode cX7_netsLike 8 = .ok (.iload_n 3, 1) := by decide +kernel
theorem dX7_netsLike_9 : decode cX7_netsLike 9 = .ok (.invokestatic 81, 3) := by decide +kernel
theorem dX7_netsLike_12 : decode cX7_netsLike 12 = .ok (.ifCond .ne 7, 3) := by decide +kernel
theorem dX7_netsLike_15 : decode cX7_netsLike 15 = .ok (.iconst 1, 1) := by decide +kernel
theorem dX7_netsLike_16 : decode cX7_netsLike 16 = .ok (.goto 17, 3) := by decide +kernel
theorem dX7_netsLike_19 : decode cX7_netsLike 19 = .ok (.aload_n 0, 1) := by decide +kernel
theorem dX7_netsLike_20 : decode cX7_netsLike 20 = .ok (.iload_n 1, 1) := by decide +kernel
theorem dX7_netsLike_21 : decode cX7_netsLike 21 = .ok (.iload_n 2, 1) := by decide +kernel
theorem dX7_netsLike_22 : decode cX7_netsLike 22 = .ok (.invokevirtual 89, 3) := by decide +kernel
theorem dX7_netsLike_25 : decode cX7_netsLike 25 = .ok (.ifCond .ne 7, 3) := by decide +kernel
theorem dX7_netsLike_28 : decode cX7_netsLike 28 = .ok (.iconst 2, 1) := by decide +kernel
theorem dX7_netsLike_29 : decode cX7_netsLike 29 = .ok (.goto 4, 3) := by decide +kernel
theorem dX7_netsLike_33 : decode cX7_netsLike 33 = .ok (.putfield 57, 3) := by decide +kernel
theorem dX7_netsLike_36 : decode cX7_netsLike 36 = .ok (.aload_n 0, 1) := by decide +kernel
theorem dX7_netsLike_37 : decode cX7_netsLike 37 = .ok (.getfield 57, 3) := by decide +kernel
theorem dX7_netsLike_40 : decode cX7_netsLike 40 = .ok (.ifCond .le 5, 3) := by decide +kernel
theorem dX7_netsLike_43 : decode cX7_netsLike 43 = .ok (.iconst (-1), 1) := by decide +kernel
theorem dX7_netsLike_44 : decode cX7_netsLike 44 = .ok (.ireturn, 1) := by decide +kernel
set_option maxRecDepth 20000 in
theorem ggX7_partsLike_X7_isCircuit : GoodIn wsX7_partsLike wsX7_isCircuit := goodIn_r _ [6] (by decide +kernel) (by decide +kernel)
set_option maxRecDepth 20000 in
theorem gX7_partsLike_X7_isCircuit : GoodIn wsX7_partsLike (va_wsS RX7 81 yX7_isCircuit wsX7_isCircuit) := goodIn_app (goodIn_of _ (by decide +kernel)) ggX7_partsLike_X7_isCircuit
set_option maxRecDepth 20000 in
theorem ggX7_partsLike_X7_isPart : GoodIn wsX7_partsLike wsX7_isPart := goodIn_ca (goodIn_r _ [10, 11, 12, 13, 14, 5, 15, 102, 103, 104, 105, 106, 107, 108, 109, 110, 111, 112, 113, 114, 115, 116, 117, 118, 119, 120] (by decide +kernel) (by decide +kernel)) (goodIn_sub (fun _ h => List.mem_cons_of_mem _ (List.mem_append_right _ h)) (by decide +kernel))
set_option maxRecDepth 20000 in
theorem gX7_partsLike_X7_isPart : GoodIn wsX7_partsLike (wsV RX7 73 RX7 yX7_isPart wsX7_isPart) := goodIn_app (goodIn_of _ (by decide +kernel)) ggX7_partsLike_X7_isPart
theorem dX7_partsLike_0 : decode cX7_partsLike 0 = .ok (.aload_n 0, 1) := by decide +kernel
theorem dX7_partsLike_1 : decode cX7_partsLike 1 = .ok (.iload_n 1, 1) := by decide +kernel
theorem dX7_partsLike_2 : decode cX7_partsLike 2 = .ok (.invokestatic 81, 3) := by decide +kernel
theorem dX7_partsLike_5 : decode cX7_partsLike 5 = .ok (.ifCond .eq 10, 3) := by decide +kernel
theorem dX7_partsLike_8 : decode cX7_partsLike 8 = .ok (.iload_n 3, 1) := by decide +kernel
theorem dX7_partsLike_9 : decode cX7_partsLike 9 = .ok (.invokestatic 81, 3) := by decide +kernel
theorem dX7_partsLike_12 : decode cX7_partsLike 12 = .ok (.ifCond .ne 7, 3) := by decide +kernel
theorem dX7_partsLike_15 : decode cX7_partsLike 15 = .ok (.iconst 1, 1) := by decide +kernel
theorem dX7_partsLike_16 : decode cX7_partsLike 16 = .ok (.goto 17, 3) := by decide +kernel
theorem dX7_partsLike_19 : decode cX7_partsLike 19 = .ok (.aload_n 0, 1) := by decide +kernel
theorem dX7_partsLike_20 : decode cX7_partsLike 20 = .ok (.iload_n 1, 1) := by decide +kernel
theorem dX7_partsLike_21 : decode cX7_partsLike 21 = .ok (.iload_n 2, 1) := by decide +kernel
theorem dX7_partsLike_22 : decode cX7_partsLike 22 = .ok (.invokevirtual 73, 3) := by decide +kernel
theorem dX7_partsLike_25 : decode cX7_partsLike 25 = .ok (.ifCond .ne 7, 3) := by decide +kernel
theorem dX7_partsLike_28 : decode cX7_partsLike 28 = .ok (.iconst 2, 1) := by decide +kernel
theorem dX7_partsLike_29 : decode cX7_partsLike 29 = .ok (.goto 4, 3) := by decide +kernel
theorem dX7_partsLike_33 : decode cX7_partsLike 33 = .ok (.putfield 57, 3) := by decide +kernel
theorem dX7_partsLike_36 : decode cX7_partsLike 36 = .ok (.aload_n 0, 1) := by decide +kernel
theorem dX7_partsLike_37 : decode cX7_partsLike 37 = .ok (.getfield 57, 3) := by decide +kernel
theorem dX7_partsLike_40 : decode cX7_partsLike 40 = .ok (.ifCond .le 5, 3) := by decide +kernel
theorem dX7_partsLike_43 : decode cX7_partsLike 43 = .ok (.iconst (-1), 1) := by decide +kernel
theorem dX7_partsLike_44 : decode cX7_partsLike 44 = .ok (.ireturn, 1) := by decide +kernel
set_option maxRecDepth 20000 in
theorem ggX7_areAlike_X7_isNet : GoodIn wsX7_areAlike wsX7_isNet := goodIn_ca (goodIn_r _ [7, 8, 9, 10, 6, 11, 96, 97, 98, 99, 100, 101, 102, 103, 104, 105, 106, 107, 108, 109, 110, 111, 112, 113, 114] (by decide +kernel) (by decide +kernel)) (goodIn_sub (fun _ h => List.mem_cons_of_mem _ (List.mem_append_right _ h)) (by decide +kernel))
set_option maxRecDepth 20000 in
theorem gX7_areAlike_X7_isNet : GoodIn wsX7_areAlike (wsV RX7 89 RX7 yX7_isNet wsX7_isNet) := goodIn_app (goodIn_of _ (by decide +kernel)) ggX7_areAlike_X7_isNet
theorem dX7_areAlike_0 : decode cX7_areAlike 0 = .ok (.aload_n 0, 1) := by decide +kernel
theorem dX7_areAlike_1 : decode cX7_areAlike 1 = .ok (.aload_n 0, 1) := by decide +kernel
theorem dX7_areAlike_2 : decode cX7_areAlike 2 = .ok (.iconst 0, 1) := by decide +kernel
theorem dX7_areAlike_3 : decode cX7_areAlike 3 = .ok (.iload_n 1, 1) := by decide +kernel
theorem dX7_areAlike_4 : decode cX7_areAlike 4 = .ok (.invokevirtual 89, 3) := by decide +kernel
theorem dX7_areAlike_7 : decode cX7_areAlike 7 = .ok (.ifCond .eq 12, 3) := by decide +kernel
theorem dX7_areAlike_19 : decode cX7_areAlike 19 = .ok (.iconst 1, 1) := by decide +kernel
theorem dX7_areAlike_20 : decode cX7_areAlike 20 = .ok (.goto 4, 3) := by decide +kernel
theorem dX7_areAlike_24 : decode cX7_areAlike 24 = .ok (.putfield 57, 3) := by decide +kernel
theorem dX7_areAlike_27 : decode cX7_areAlike 27 = .ok (.aload_n 0, 1) := by decide +kernel
theorem dX7_areAlike_28 : decode cX7_areAlike 28 = .ok (.getfield 57, 3) := by decide +kernel
theorem dX7_areAlike_31 : decode cX7_areAlike 31 = .ok (.ifCond .le 5, 3) := by decide +kernel
theorem dX7_areAlike_34 : decode cX7_areAlike 34 = .ok (.iconst 0, 1) := by decide +kernel
theorem dX7_areAlike_35 : decode cX7_areAlike 35 = .ok (.ireturn, 1) := by decide +kernel
set_option maxRecDepth 20000 in
theorem ggX7_isMatched_X7_matches : GoodIn wsX7_isMatched wsX7_matches := goodIn_ca (goodIn_r _ [6, 7, 8, 9, 10, 5, 11, 12, 13, 14, 15, 16, 17, 18, 19, 20, 21, 22, 23, 24, 25, 26, 27, 28, 29, 30, 31, 32, 33, 34, 35, 36, 37, 38, 39, 40, 41, 42, 43, 44, 45, 46, 47, 48, 49, 50, 51, 52, 53, 54, 55, 56, 57, 58, 59, 60, 61, 62, 63, 64, 65, 66, 67, 68, 69, 70, 71, 72, 73, 74, 75, 76, 77, 78, 79, 80, 81, 82, 83, 84, 85, 86, 87, 88, 89, 90, 91, 92, 93, 94, 95, 96, 97, 98, 99, 100, 101, 102, 103, 104, 105, 106, 107, 108, 109, 110, 111, 112, 113, 114, 115, 116, 117, 118, 119, 120, 121, 122, 123, 124, 125, 126, 127, 128, 129, 130, 131, 132, 133, 134, 135, 136, 137, 138, 139, 140, 141, 142, 143, 144, 145] (by decide +kernel) (by decide +kernel)) (goodIn_sub (fun _ h => List.mem_cons_of_mem _ (List.mem_append_right _ h)) (by decide +kernel))
set_option maxRecDepth 20000 in
theorem gX7_isMatched_X7_matches : GoodIn wsX7_isMatched (wsV RX7 253 RX7 yX7_matches wsX7_matches) := goodIn_app (goodIn_of _ (by decide +kernel)) ggX7_isMatched_X7_matches
theorem dX7_isMatched_0 : decode cX7_isMatched 0 = .ok (.aload_n 0, 1) := by decide +kernel
theorem dX7_isMatched_1 : decode cX7_isMatched 1 = .ok (.iconst 0, 1) := by decide +kernel
theorem dX7_isMatched_2 : decode cX7_isMatched 2 = .ok (.putfield 57, 3) := by decide +kernel
theorem dX7_isMatched_5 : decode cX7_isMatched 5 = .ok (.aload_n 0, 1) := by decide +kernel
theorem dX7_isMatched_6 : decode cX7_isMatched 6 = .ok (.invokevirtual 253, 3) := by decide +kernel
theorem dX7_isMatched_9 : decode cX7_isMatched 9 = .ok (.ireturn, 1) := by decide +kernel
set_option maxRecDepth 20000 in
theorem ggX7_isMatchedByTrying_X7_isLarge : GoodIn wsX7_isMatchedByTrying wsX7_isLarge := goodIn_ca (goodIn_r _ [6, 7, 131, 132, 133, 134, 135, 136, 137, 138, 139, 140, 141, 142, 143, 144, 145, 146, 147, 148, 149] (by decide +kernel) (by decide +kernel)) (goodIn_sub (fun _ h => List.mem_cons_of_mem _ (List.mem_append_right _ h)) (by decide +kernel))
set_option maxRecDepth 20000 in
theorem gX7_isMatchedByTrying_X7_isLarge : GoodIn wsX7_isMatchedByTrying (wsV RX7 257 RX7 yX7_isLarge wsX7_isLarge) := goodIn_app (goodIn_of _ (by decide +kernel)) ggX7_isMatchedByTrying_X7_isLarge
set_option maxRecDepth 20000 in
theorem ggX7_isMatchedByTrying_X7_matches : GoodIn wsX7_isMatchedByTrying wsX7_matches := goodIn_ca (goodIn_r _ [11, 7, 12, 13, 14, 5, 15, 16, 17, 18, 19, 20, 21, 22, 23, 24, 25, 26, 27, 28, 29, 30, 31, 32, 33, 34, 35, 36, 37, 38, 39, 40, 41, 42, 43, 44, 45, 46, 47, 48, 49, 50, 51, 52, 53, 54, 55, 56, 57, 58, 59, 60, 61, 62, 63, 64, 65, 66, 67, 68, 69, 70, 71, 72, 73, 74, 75, 76, 77, 78, 79, 80, 81, 82, 83, 84, 85, 86, 87, 88, 89, 90, 91, 92, 93, 94, 95, 96, 97, 98, 99, 100, 101, 102, 103, 104, 105, 106, 107, 108, 109, 110, 111, 112, 113, 114, 115, 116, 117, 118, 119, 120, 121, 122, 123, 124, 125, 126, 127, 128, 129, 130, 131, 132, 133, 134, 135, 136, 137, 138, 139, 140, 141, 142, 143, 144, 145, 146, 147, 148, 149] (by decide +kernel) (by decide +kernel)) (goodIn_sub (fun _ h => List.mem_cons_of_mem _ (List.mem_append_right _ h)) (by decide +kernel))
set_option maxRecDepth 20000 in
theorem gX7_isMatchedByTrying_X7_matches : GoodIn wsX7_isMatchedByTrying (wsV RX7 253 RX7 yX7_matches wsX7_matches) := goodIn_app (goodIn_of _ (by decide +kernel)) ggX7_isMatchedByTrying_X7_matches
theorem dX7_isMatchedByTrying_0 : decode cX7_isMatchedByTrying 0 = .ok (.aload_n 0, 1) := by decide +kernel
theorem dX7_isMatchedByTrying_1 : decode cX7_isMatchedByTrying 1 = .ok (.aload_n 0, 1) := by decide +kernel
theorem dX7_isMatchedByTrying_2 : decode cX7_isMatchedByTrying 2 = .ok (.invokevirtual 257, 3) := by decide +kernel
theorem dX7_isMatchedByTrying_5 : decode cX7_isMatchedByTrying 5 = .ok (.ifCond .eq 7, 3) := by decide +kernel
theorem dX7_isMatchedByTrying_12 : decode cX7_isMatchedByTrying 12 = .ok (.iconst 0, 1) := by decide +kernel
theorem dX7_isMatchedByTrying_13 : decode cX7_isMatchedByTrying 13 = .ok (.putfield 57, 3) := by decide +kernel
theorem dX7_isMatchedByTrying_16 : decode cX7_isMatchedByTrying 16 = .ok (.aload_n 0, 1) := by decide +kernel
theorem dX7_isMatchedByTrying_17 : decode cX7_isMatchedByTrying 17 = .ok (.getfield 57, 3) := by decide +kernel
theorem dX7_isMatchedByTrying_20 : decode cX7_isMatchedByTrying 20 = .ok (.ifCond .ne 14, 3) := by decide +kernel
theorem dX7_isMatchedByTrying_23 : decode cX7_isMatchedByTrying 23 = .ok (.aload_n 0, 1) := by decide +kernel
theorem dX7_isMatchedByTrying_24 : decode cX7_isMatchedByTrying 24 = .ok (.invokevirtual 253, 3) := by decide +kernel
theorem dX7_isMatchedByTrying_27 : decode cX7_isMatchedByTrying 27 = .ok (.ifCond .eq 7, 3) := by decide +kernel
theorem dX7_isMatchedByTrying_30 : decode cX7_isMatchedByTrying 30 = .ok (.iconst 1, 1) := by decide +kernel
theorem dX7_isMatchedByTrying_31 : decode cX7_isMatchedByTrying 31 = .ok (.goto 4, 3) := by decide +kernel
theorem dX7_isMatchedByTrying_35 : decode cX7_isMatchedByTrying 35 = .ok (.ireturn, 1) := by decide +kernel
set_option maxRecDepth 20000 in
theorem ggX7_matchedNet_X7_isNet : GoodIn wsX7_matchedNet wsX7_isNet := goodIn_ca (goodIn_r _ [7, 8, 9, 10, 6, 11, 127, 128, 129, 130, 131, 132, 133, 134, 135, 136, 137, 138, 139, 140, 141, 142, 143, 144, 145] (by decide +kernel) (by decide +kernel)) (goodIn_sub (fun _ h => List.mem_cons_of_mem _ (List.mem_append_right _ h)) (by decide +kernel))
set_option maxRecDepth 20000 in
theorem gX7_matchedNet_X7_isNet : GoodIn wsX7_matchedNet (wsV RX7 89 RX7 yX7_isNet wsX7_isNet) := goodIn_app (goodIn_of _ (by decide +kernel)) ggX7_matchedNet_X7_isNet
theorem dX7_matchedNet_0 : decode cX7_matchedNet 0 = .ok (.aload_n 0, 1) := by decide +kernel
theorem dX7_matchedNet_1 : decode cX7_matchedNet 1 = .ok (.aload_n 0, 1) := by decide +kernel
theorem dX7_matchedNet_2 : decode cX7_matchedNet 2 = .ok (.iconst 0, 1) := by decide +kernel
theorem dX7_matchedNet_3 : decode cX7_matchedNet 3 = .ok (.iload_n 1, 1) := by decide +kernel
theorem dX7_matchedNet_4 : decode cX7_matchedNet 4 = .ok (.invokevirtual 89, 3) := by decide +kernel
theorem dX7_matchedNet_7 : decode cX7_matchedNet 7 = .ok (.ifCond .ne 7, 3) := by decide +kernel
theorem dX7_matchedNet_10 : decode cX7_matchedNet 10 = .ok (.iconst 1, 1) := by decide +kernel
theorem dX7_matchedNet_11 : decode cX7_matchedNet 11 = .ok (.goto 15, 3) := by decide +kernel
theorem dX7_matchedNet_26 : decode cX7_matchedNet 26 = .ok (.putfield 57, 3) := by decide +kernel
theorem dX7_matchedNet_29 : decode cX7_matchedNet 29 = .ok (.aload_n 0, 1) := by decide +kernel
theorem dX7_matchedNet_30 : decode cX7_matchedNet 30 = .ok (.getfield 57, 3) := by decide +kernel
theorem dX7_matchedNet_33 : decode cX7_matchedNet 33 = .ok (.ifCond .ne 12, 3) := by decide +kernel
theorem dX7_matchedNet_45 : decode cX7_matchedNet 45 = .ok (.iconst (-1), 1) := by decide +kernel
theorem dX7_matchedNet_46 : decode cX7_matchedNet 46 = .ok (.ireturn, 1) := by decide +kernel
set_option maxRecDepth 20000 in
theorem ggX7_netByTrying_X7_isNet : GoodIn wsX7_netByTrying wsX7_isNet := goodIn_ca (goodIn_r _ [7, 8, 9, 10, 6, 11, 131, 132, 133, 134, 135, 136, 137, 138, 139, 140, 141, 142, 143, 144, 145, 146, 147, 148, 149] (by decide +kernel) (by decide +kernel)) (goodIn_sub (fun _ h => List.mem_cons_of_mem _ (List.mem_append_right _ h)) (by decide +kernel))
set_option maxRecDepth 20000 in
theorem gX7_netByTrying_X7_isNet : GoodIn wsX7_netByTrying (wsV RX7 89 RX7 yX7_isNet wsX7_isNet) := goodIn_app (goodIn_of _ (by decide +kernel)) ggX7_netByTrying_X7_isNet
theorem dX7_netByTrying_0 : decode cX7_netByTrying 0 = .ok (.aload_n 0, 1) := by decide +kernel
theorem dX7_netByTrying_1 : decode cX7_netByTrying 1 = .ok (.aload_n 0, 1) := by decide +kernel
theorem dX7_netByTrying_2 : decode cX7_netByTrying 2 = .ok (.iconst 0, 1) := by decide +kernel
theorem dX7_netByTrying_3 : decode cX7_netByTrying 3 = .ok (.iload_n 1, 1) := by decide +kernel
theorem dX7_netByTrying_4 : decode cX7_netByTrying 4 = .ok (.invokevirtual 89, 3) := by decide +kernel
theorem dX7_netByTrying_7 : decode cX7_netByTrying 7 = .ok (.ifCond .ne 7, 3) := by decide +kernel
theorem dX7_netByTrying_10 : decode cX7_netByTrying 10 = .ok (.iconst 1, 1) := by decide +kernel
theorem dX7_netByTrying_11 : decode cX7_netByTrying 11 = .ok (.goto 26, 3) := by decide +kernel
theorem dX7_netByTrying_37 : decode cX7_netByTrying 37 = .ok (.putfield 57, 3) := by decide +kernel
theorem dX7_netByTrying_40 : decode cX7_netByTrying 40 = .ok (.aload_n 0, 1) := by decide +kernel
theorem dX7_netByTrying_41 : decode cX7_netByTrying 41 = .ok (.getfield 57, 3) := by decide +kernel
theorem dX7_netByTrying_44 : decode cX7_netByTrying 44 = .ok (.ifCond .ne 12, 3) := by decide +kernel
theorem dX7_netByTrying_56 : decode cX7_netByTrying 56 = .ok (.iconst (-1), 1) := by decide +kernel
theorem dX7_netByTrying_57 : decode cX7_netByTrying 57 = .ok (.ireturn, 1) := by decide +kernel
set_option maxRecDepth 20000 in
theorem ggX7_matchedPart_X7_isPart : GoodIn wsX7_matchedPart wsX7_isPart := goodIn_ca (goodIn_r _ [7, 8, 9, 10, 11, 6, 12, 127, 128, 129, 130, 131, 132, 133, 134, 135, 136, 137, 138, 139, 140, 141, 142, 143, 144, 145] (by decide +kernel) (by decide +kernel)) (goodIn_sub (fun _ h => List.mem_cons_of_mem _ (List.mem_append_right _ h)) (by decide +kernel))
set_option maxRecDepth 20000 in
theorem gX7_matchedPart_X7_isPart : GoodIn wsX7_matchedPart (wsV RX7 73 RX7 yX7_isPart wsX7_isPart) := goodIn_app (goodIn_of _ (by decide +kernel)) ggX7_matchedPart_X7_isPart
theorem dX7_matchedPart_0 : decode cX7_matchedPart 0 = .ok (.aload_n 0, 1) := by decide +kernel
theorem dX7_matchedPart_1 : decode cX7_matchedPart 1 = .ok (.aload_n 0, 1) := by decide +kernel
theorem dX7_matchedPart_2 : decode cX7_matchedPart 2 = .ok (.iconst 0, 1) := by decide +kernel
theorem dX7_matchedPart_3 : decode cX7_matchedPart 3 = .ok (.iload_n 1, 1) := by decide +kernel
theorem dX7_matchedPart_4 : decode cX7_matchedPart 4 = .ok (.invokevirtual 73, 3) := by decide +kernel
theorem dX7_matchedPart_7 : decode cX7_matchedPart 7 = .ok (.ifCond .ne 7, 3) := by decide +kernel
theorem dX7_matchedPart_10 : decode cX7_matchedPart 10 = .ok (.iconst 1, 1) := by decide +kernel
theorem dX7_matchedPart_11 : decode cX7_matchedPart 11 = .ok (.goto 15, 3) := by decide +kernel
theorem dX7_matchedPart_26 : decode cX7_matchedPart 26 = .ok (.putfield 57, 3) := by decide +kernel
theorem dX7_matchedPart_29 : decode cX7_matchedPart 29 = .ok (.aload_n 0, 1) := by decide +kernel
theorem dX7_matchedPart_30 : decode cX7_matchedPart 30 = .ok (.getfield 57, 3) := by decide +kernel
theorem dX7_matchedPart_33 : decode cX7_matchedPart 33 = .ok (.ifCond .ne 12, 3) := by decide +kernel
theorem dX7_matchedPart_45 : decode cX7_matchedPart 45 = .ok (.iconst (-1), 1) := by decide +kernel
theorem dX7_matchedPart_46 : decode cX7_matchedPart 46 = .ok (.ireturn, 1) := by decide +kernel
set_option maxRecDepth 20000 in
theorem ggX7_matchedPin_X7_isPart : GoodIn wsX7_matchedPin wsX7_isPart := goodIn_ca (goodIn_r _ [8, 9, 10, 11, 12, 7, 13, 127, 128, 129, 130, 131, 132, 133, 134, 135, 136, 137, 138, 139, 140, 141, 142, 143, 144, 145] (by decide +kernel) (by decide +kernel)) (goodIn_sub (fun _ h => List.mem_cons_of_mem _ (List.mem_append_right _ h)) (by decide +kernel))
set_option maxRecDepth 20000 in
theorem gX7_matchedPin_X7_isPart : GoodIn wsX7_matchedPin (wsV RX7 73 RX7 yX7_isPart wsX7_isPart) := goodIn_app (goodIn_of _ (by decide +kernel)) ggX7_matchedPin_X7_isPart
theorem dX7_matchedPin_0 : decode cX7_matchedPin 0 = .ok (.aload_n 0, 1) := by decide +kernel
theorem dX7_matchedPin_1 : decode cX7_matchedPin 1 = .ok (.aload_n 0, 1) := by decide +kernel
theorem dX7_matchedPin_2 : decode cX7_matchedPin 2 = .ok (.iconst 0, 1) := by decide +kernel
theorem dX7_matchedPin_3 : decode cX7_matchedPin 3 = .ok (.iload_n 1, 1) := by decide +kernel
theorem dX7_matchedPin_4 : decode cX7_matchedPin 4 = .ok (.invokevirtual 73, 3) := by decide +kernel
theorem dX7_matchedPin_7 : decode cX7_matchedPin 7 = .ok (.ifCond .ne 7, 3) := by decide +kernel
theorem dX7_matchedPin_10 : decode cX7_matchedPin 10 = .ok (.iconst 1, 1) := by decide +kernel
theorem dX7_matchedPin_11 : decode cX7_matchedPin 11 = .ok (.goto 40, 3) := by decide +kernel
theorem dX7_matchedPin_51 : decode cX7_matchedPin 51 = .ok (.putfield 57, 3) := by decide +kernel
theorem dX7_matchedPin_54 : decode cX7_matchedPin 54 = .ok (.aload_n 0, 1) := by decide +kernel
theorem dX7_matchedPin_55 : decode cX7_matchedPin 55 = .ok (.getfield 57, 3) := by decide +kernel
theorem dX7_matchedPin_58 : decode cX7_matchedPin 58 = .ok (.ifCond .le 5, 3) := by decide +kernel
theorem dX7_matchedPin_61 : decode cX7_matchedPin 61 = .ok (.iconst (-1), 1) := by decide +kernel
theorem dX7_matchedPin_62 : decode cX7_matchedPin 62 = .ok (.ireturn, 1) := by decide +kernel
set_option maxRecDepth 20000 in
theorem ggX7_differences_X7_colours : GoodIn wsX7_differences wsX7_colours := goodIn_ca (goodIn_r _ [6, 7, 8, 9, 10, 11, 12, 13, 14, 15, 16, 17, 5, 18, 19, 20, 21, 22, 23, 24, 25, 26, 27, 28, 29, 30, 31, 32, 33, 34, 35, 36, 37, 38, 39, 40, 41, 42, 43, 44, 45, 46, 47, 48, 49, 50, 51, 52, 53, 54, 55, 56, 57, 58, 59, 60, 61, 62, 63, 64, 65, 66, 67, 68, 69, 70, 71, 72, 73, 74, 75, 76, 77, 78, 79, 80, 81, 82, 83, 84, 85, 86, 87, 88, 89, 90, 91, 92, 93, 94, 95, 126, 127, 128, 129, 130, 131, 132, 133, 134, 135, 136, 137, 138, 139, 140, 141, 142, 143, 144] (by decide +kernel) (by decide +kernel)) (goodIn_sub (fun _ h => List.mem_cons_of_mem _ (List.mem_append_right _ h)) (by decide +kernel))
set_option maxRecDepth 20000 in
theorem gX7_differences_X7_colours : GoodIn wsX7_differences (wsV RX7 234 RX7 yX7_colours wsX7_colours) := goodIn_app (goodIn_of _ (by decide +kernel)) ggX7_differences_X7_colours
set_option maxRecDepth 20000 in
theorem ggX7_differences_X7_unequal : GoodIn wsX7_differences wsX7_unequal := goodIn_ca (goodIn_r _ [99, 7, 9, 65, 66, 5, 67, 58, 59, 60, 61, 62, 63, 64, 100, 101, 102, 103, 104, 105, 106, 107, 108, 109, 110, 111, 112, 113, 10, 114, 115, 116, 117, 118, 32, 8, 23, 19, 20, 21, 22, 24, 25, 26, 27, 119, 120, 121, 122, 37, 38, 39, 40, 41, 42, 43, 44, 45, 46, 47, 48, 123, 124, 125, 126, 127, 128, 129, 130, 131, 132, 133, 134, 135, 136, 137, 138, 139, 140, 141, 142, 143, 144] (by decide +kernel) (by decide +kernel)) (goodIn_sub (fun _ h => List.mem_cons_of_mem _ (List.mem_append_right _ h)) (by decide +kernel))
set_option maxRecDepth 20000 in
theorem gX7_differences_X7_unequal : GoodIn wsX7_differences (wsV RX7 270 RX7 yX7_unequal wsX7_unequal) := goodIn_app (goodIn_of _ (by decide +kernel)) ggX7_differences_X7_unequal
theorem dX7_differences_0 : decode cX7_differences 0 = .ok (.aload_n 0, 1) := by decide +kernel
theorem dX7_differences_1 : decode cX7_differences 1 = .ok (.iconst 0, 1) := by decide +kernel
theorem dX7_differences_2 : decode cX7_differences 2 = .ok (.putfield 57, 3) := by decide +kernel
theorem dX7_differences_5 : decode cX7_differences 5 = .ok (.aload_n 0, 1) := by decide +kernel
theorem dX7_differences_6 : decode cX7_differences 6 = .ok (.invokevirtual 234, 3) := by decide +kernel
theorem dX7_differences_9 : decode cX7_differences 9 = .ok (.aload_n 0, 1) := by decide +kernel
theorem dX7_differences_10 : decode cX7_differences 10 = .ok (.invokevirtual 270, 3) := by decide +kernel
theorem dX7_differences_13 : decode cX7_differences 13 = .ok (.ireturn, 1) := by decide +kernel
set_option maxRecDepth 20000 in
theorem ggX7_differenceKind_X7_finds : GoodIn wsX7_differenceKind wsX7_finds := goodIn_ca (goodIn_r _ [6, 7, 8, 9, 1, 10, 11, 12, 13, 5, 14, 15, 16, 17, 18, 19, 20, 21, 22, 23, 24, 25, 26, 27, 28, 29, 30, 31, 32, 33, 34, 35, 36, 37, 38, 39, 40, 41, 42, 43, 44, 45, 46, 47, 48, 49, 50, 51, 52, 53, 54, 55, 56, 57, 58, 59, 60, 61, 62, 63, 64, 65, 66, 67, 68, 69, 70, 71, 72, 73, 74, 75, 76, 77, 78, 79, 80, 81, 82, 83, 84, 85, 86, 87, 88, 89, 90, 91, 92, 93, 94, 95, 96, 97, 98, 99, 100, 101, 102, 103, 104, 105, 106, 107, 108, 109, 110, 111, 112, 113, 114, 115, 116, 117, 118, 119, 120, 121, 122, 123, 124, 125, 126, 127, 128, 129, 130, 131, 132, 133, 134, 135, 136, 137, 138, 139, 140, 141, 142, 143, 144, 145, 146, 147, 148, 149, 150] (by decide +kernel) (by decide +kernel)) (goodIn_sub (fun _ h => List.mem_cons_of_mem _ (List.mem_append_right _ h)) (by decide +kernel))
set_option maxRecDepth 20000 in
theorem gX7_differenceKind_X7_finds : GoodIn wsX7_differenceKind (wsV RX7 280 RX7 yX7_finds wsX7_finds) := goodIn_app (goodIn_of _ (by decide +kernel)) ggX7_differenceKind_X7_finds
theorem dX7_differenceKind_0 : decode cX7_differenceKind 0 = .ok (.aload_n 0, 1) := by decide +kernel
theorem dX7_differenceKind_1 : decode cX7_differenceKind 1 = .ok (.iload_n 1, 1) := by decide +kernel
theorem dX7_differenceKind_2 : decode cX7_differenceKind 2 = .ok (.invokevirtual 280, 3) := by decide +kernel
theorem dX7_differenceKind_5 : decode cX7_differenceKind 5 = .ok (.ifCond .eq 20, 3) := by decide +kernel
theorem dX7_differenceKind_25 : decode cX7_differenceKind 25 = .ok (.bipush 32, 2) := by decide +kernel
theorem dX7_differenceKind_27 : decode cX7_differenceKind 27 = .ok (.ireturn, 1) := by decide +kernel
set_option maxRecDepth 20000 in
theorem ggX7_differenceMember_X7_finds : GoodIn wsX7_differenceMember wsX7_finds := goodIn_ca (goodIn_r _ [9, 10, 3, 2, 1, 4, 11, 12, 13, 8, 14, 15, 16, 17, 18, 19, 20, 21, 22, 23, 24, 25, 26, 27, 28, 29, 30, 31, 32, 33, 34, 35, 36, 37, 38, 39, 40, 41, 42, 43, 44, 45, 46, 47, 48, 49, 50, 51, 52, 53, 54, 55, 56, 57, 58, 59, 60, 61, 62, 63, 64, 65, 66, 67, 68, 69, 70, 71, 72, 73, 74, 75, 76, 77, 78, 79, 80, 81, 82, 83, 84, 85, 86, 87, 88, 89, 90, 91, 92, 93, 94, 95, 96, 97, 98, 99, 100, 101, 102, 103, 104, 105, 106, 107, 108, 109, 110, 111, 112, 113, 114, 115, 116, 117, 118, 119, 120, 121, 122, 123, 124, 125, 126, 127, 128, 129, 130, 131, 132, 133, 134, 135, 136, 137, 138, 139, 140, 141, 142, 143, 144, 145, 146, 147, 148, 149, 150] (by decide +kernel) (by decide +kernel)) (goodIn_sub (fun _ h => List.mem_cons_of_mem _ (List.mem_append_right _ h)) (by decide +kernel))
set_option maxRecDepth 20000 in
theorem gX7_differenceMember_X7_finds : GoodIn wsX7_differenceMember (wsV RX7 280 RX7 yX7_finds wsX7_finds) := goodIn_app (goodIn_of _ (by decide +kernel)) ggX7_differenceMember_X7_finds
theorem dX7_differenceMember_0 : decode cX7_differenceMember 0 = .ok (.aload_n 0, 1) := by decide +kernel
theorem dX7_differenceMember_1 : decode cX7_differenceMember 1 = .ok (.iload_n 1, 1) := by decide +kernel
theorem dX7_differenceMember_2 : decode cX7_differenceMember 2 = .ok (.invokevirtual 280, 3) := by decide +kernel
theorem dX7_differenceMember_5 : decode cX7_differenceMember 5 = .ok (.ifCond .eq 31, 3) := by decide +kernel
theorem dX7_differenceMember_36 : decode cX7_differenceMember 36 = .ok (.iconst (-1), 1) := by decide +kernel
theorem dX7_differenceMember_37 : decode cX7_differenceMember 37 = .ok (.ireturn, 1) := by decide +kernel
set_option maxRecDepth 20000 in
theorem ggX7_differenceDistance_X7_finds : GoodIn wsX7_differenceDistance wsX7_finds := goodIn_ca (goodIn_r _ [7, 8, 9, 10, 1, 2, 11, 12, 13, 6, 14, 15, 16, 17, 18, 19, 20, 21, 22, 23, 24, 25, 26, 27, 28, 29, 30, 31, 32, 33, 34, 35, 36, 37, 38, 39, 40, 41, 42, 43, 44, 45, 46, 47, 48, 49, 50, 51, 52, 53, 54, 55, 56, 57, 58, 59, 60, 61, 62, 63, 64, 65, 66, 67, 68, 69, 70, 71, 72, 73, 74, 75, 76, 77, 78, 79, 80, 81, 82, 83, 84, 85, 86, 87, 88, 89, 90, 91, 92, 93, 94, 95, 96, 97, 98, 99, 100, 101, 102, 103, 104, 105, 106, 107, 108, 109, 110, 111, 112, 113, 114, 115, 116, 117, 118, 119, 120, 121, 122, 123, 124, 125, 126, 127, 128, 129, 130, 131, 132, 133, 134, 135, 136, 137, 138, 139, 140, 141, 142, 143, 144, 145, 146, 147, 148, 149, 150] (by decide +kernel) (by decide +kernel)) (goodIn_sub (fun _ h => List.mem_cons_of_mem _ (List.mem_append_right _ h)) (by decide +kernel))
set_option maxRecDepth 20000 in
theorem gX7_differenceDistance_X7_finds : GoodIn wsX7_differenceDistance (wsV RX7 280 RX7 yX7_finds wsX7_finds) := goodIn_app (goodIn_of _ (by decide +kernel)) ggX7_differenceDistance_X7_finds
theorem dX7_differenceDistance_0 : decode cX7_differenceDistance 0 = .ok (.aload_n 0, 1) := by decide +kernel
theorem dX7_differenceDistance_1 : decode cX7_differenceDistance 1 = .ok (.iload_n 1, 1) := by decide +kernel
theorem dX7_differenceDistance_2 : decode cX7_differenceDistance 2 = .ok (.invokevirtual 280, 3) := by decide +kernel
theorem dX7_differenceDistance_5 : decode cX7_differenceDistance 5 = .ok (.ifCond .eq 18, 3) := by decide +kernel
theorem dX7_differenceDistance_23 : decode cX7_differenceDistance 23 = .ok (.iconst (-1), 1) := by decide +kernel
theorem dX7_differenceDistance_24 : decode cX7_differenceDistance 24 = .ok (.ireturn, 1) := by decide +kernel
set_option maxRecDepth 20000 in
theorem ggX7_differenceSize_X7_finds : GoodIn wsX7_differenceSize wsX7_finds := goodIn_ca (goodIn_r _ [10, 1, 4, 3, 2, 5, 11, 12, 13, 9, 14, 15, 16, 17, 18, 19, 20, 21, 22, 23, 24, 25, 26, 27, 28, 29, 30, 31, 32, 33, 34, 35, 36, 37, 38, 39, 40, 41, 42, 43, 44, 45, 46, 47, 48, 49, 50, 51, 52, 53, 54, 55, 56, 57, 58, 59, 60, 61, 62, 63, 64, 65, 66, 67, 68, 69, 70, 71, 72, 73, 74, 75, 76, 77, 78, 79, 80, 81, 82, 83, 84, 85, 86, 87, 88, 89, 90, 91, 92, 93, 94, 95, 96, 97, 98, 99, 100, 101, 102, 103, 104, 105, 106, 107, 108, 109, 110, 111, 112, 113, 114, 115, 116, 117, 118, 119, 120, 121, 122, 123, 124, 125, 126, 127, 128, 129, 130, 131, 135, 136, 137, 138, 139, 140, 141, 142, 143, 144, 145, 146, 147, 148, 149, 150, 151, 152, 153] (by decide +kernel) (by decide +kernel)) (goodIn_sub (fun _ h => List.mem_cons_of_mem _ (List.mem_append_right _ h)) (by decide +kernel))
set_option maxRecDepth 20000 in
theorem gX7_differenceSize_X7_finds : GoodIn wsX7_differenceSize (wsV RX7 280 RX7 yX7_finds wsX7_finds) := goodIn_app (goodIn_of _ (by decide +kernel)) ggX7_differenceSize_X7_finds
theorem dX7_differenceSize_0 : decode cX7_differenceSize 0 = .ok (.aload_n 0, 1) := by decide +kernel
theorem dX7_differenceSize_1 : decode cX7_differenceSize 1 = .ok (.iload_n 1, 1) := by decide +kernel
theorem dX7_differenceSize_2 : decode cX7_differenceSize 2 = .ok (.invokevirtual 280, 3) := by decide +kernel
theorem dX7_differenceSize_5 : decode cX7_differenceSize 5 = .ok (.ifCond .ne 5, 3) := by decide +kernel
theorem dX7_differenceSize_8 : decode cX7_differenceSize 8 = .ok (.iconst (-1), 1) := by decide +kernel
theorem dX7_differenceSize_9 : decode cX7_differenceSize 9 = .ok (.ireturn, 1) := by decide +kernel
set_option maxRecDepth 20000 in
theorem ggX7_equalShare_X7_colours : GoodIn wsX7_equalShare wsX7_colours := goodIn_ca (goodIn_r _ [8, 1, 9, 2, 10, 11, 12, 13, 14, 15, 16, 17, 7, 18, 19, 20, 21, 22, 23, 24, 25, 26, 27, 28, 29, 30, 31, 32, 33, 34, 35, 36, 37, 38, 39, 40, 41, 42, 43, 44, 45, 46, 47, 48, 49, 50, 51, 52, 53, 54, 55, 56, 57, 58, 59, 60, 61, 62, 63, 64, 65, 66, 67, 68, 69, 70, 71, 72, 73, 74, 75, 76, 77, 78, 79, 80, 81, 82, 83, 84, 85, 86, 87, 88, 89, 90, 91, 92, 93, 94, 95, 126, 127, 128, 129, 130, 131, 132, 133, 134, 135, 136, 137, 138, 139, 140, 141, 142, 143, 144] (by decide +kernel) (by decide +kernel)) (goodIn_sub (fun _ h => List.mem_cons_of_mem _ (List.mem_append_right _ h)) (by decide +kernel))
set_option maxRecDepth 20000 in
theorem gX7_equalShare_X7_colours : GoodIn wsX7_equalShare (wsV RX7 234 RX7 yX7_colours wsX7_colours) := goodIn_app (goodIn_of _ (by decide +kernel)) ggX7_equalShare_X7_colours
set_option maxRecDepth 20000 in
theorem ggX7_equalShare_X7_classes : GoodIn wsX7_equalShare wsX7_classes := goodIn_ca (goodIn_r _ [67, 58, 59, 7, 60, 61, 62, 63, 64] (by decide +kernel) (by decide +kernel)) (goodIn_sub (fun _ h => List.mem_cons_of_mem _ (List.mem_append_right _ h)) (by decide +kernel))
set_option maxRecDepth 20000 in
theorem gX7_equalShare_X7_classes : GoodIn wsX7_equalShare (va_wsS RX7 221 yX7_classes wsX7_classes) := goodIn_app (goodIn_of _ (by decide +kernel)) ggX7_equalShare_X7_classes
theorem dX7_equalShare_0 : decode cX7_equalShare 0 = .ok (.aload_n 0, 1) := by decide +kernel
theorem dX7_equalShare_1 : decode cX7_equalShare 1 = .ok (.invokevirtual 234, 3) := by decide +kernel
theorem dX7_equalShare_4 : decode cX7_equalShare 4 = .ok (.aload_n 0, 1) := by decide +kernel
theorem dX7_equalShare_5 : decode cX7_equalShare 5 = .ok (.getfield 33, 3) := by decide +kernel
theorem dX7_equalShare_8 : decode cX7_equalShare 8 = .ok (.invokestatic 221, 3) := by decide +kernel
theorem dX7_equalShare_11 : decode cX7_equalShare 11 = .ok (.aload_n 0, 1) := by decide +kernel
theorem dX7_equalShare_12 : decode cX7_equalShare 12 = .ok (.getfield 36, 3) := by decide +kernel
theorem dX7_equalShare_15 : decode cX7_equalShare 15 = .ok (.invokestatic 221, 3) := by decide +kernel
theorem dX7_equalShare_18 : decode cX7_equalShare 18 = .ok (.iadd, 1) := by decide +kernel
theorem dX7_equalShare_19 : decode cX7_equalShare 19 = .ok (.istore_n 1, 1) := by decide +kernel
theorem dX7_equalShare_20 : decode cX7_equalShare 20 = .ok (.aload_n 0, 1) := by decide +kernel
theorem dX7_equalShare_21 : decode cX7_equalShare 21 = .ok (.iload_n 1, 1) := by decide +kernel
theorem dX7_equalShare_22 : decode cX7_equalShare 22 = .ok (.ifCond .ne 7, 3) := by decide +kernel
theorem dX7_equalShare_25 : decode cX7_equalShare 25 = .ok (.iconst 1, 1) := by decide +kernel
theorem dX7_equalShare_26 : decode cX7_equalShare 26 = .ok (.goto 4, 3) := by decide +kernel
theorem dX7_equalShare_30 : decode cX7_equalShare 30 = .ok (.putfield 57, 3) := by decide +kernel
theorem dX7_equalShare_33 : decode cX7_equalShare 33 = .ok (.aload_n 0, 1) := by decide +kernel
theorem dX7_equalShare_34 : decode cX7_equalShare 34 = .ok (.getfield 57, 3) := by decide +kernel
theorem dX7_equalShare_37 : decode cX7_equalShare 37 = .ok (.ifCond .ne 16, 3) := by decide +kernel
theorem dX7_equalShare_53 : decode cX7_equalShare 53 = .ok (.fconst 0, 1) := by decide +kernel
theorem dX7_equalShare_54 : decode cX7_equalShare 54 = .ok (.freturn, 1) := by decide +kernel
set_option maxRecDepth 20000 in
theorem ggX7_meanDistance_X7_isCircuit : GoodIn wsX7_meanDistance wsX7_isCircuit := goodIn_r _ [6] (by decide +kernel) (by decide +kernel)
set_option maxRecDepth 20000 in
theorem gX7_meanDistance_X7_isCircuit : GoodIn wsX7_meanDistance (va_wsS RX7 81 yX7_isCircuit wsX7_isCircuit) := goodIn_app (goodIn_of _ (by decide +kernel)) ggX7_meanDistance_X7_isCircuit
theorem dX7_meanDistance_0 : decode cX7_meanDistance 0 = .ok (.aload_n 0, 1) := by decide +kernel
theorem dX7_meanDistance_1 : decode cX7_meanDistance 1 = .ok (.iload_n 1, 1) := by decide +kernel
theorem dX7_meanDistance_2 : decode cX7_meanDistance 2 = .ok (.invokestatic 81, 3) := by decide +kernel
theorem dX7_meanDistance_5 : decode cX7_meanDistance 5 = .ok (.ifCond .eq 7, 3) := by decide +kernel
theorem dX7_meanDistance_8 : decode cX7_meanDistance 8 = .ok (.iconst 0, 1) := by decide +kernel
theorem dX7_meanDistance_9 : decode cX7_meanDistance 9 = .ok (.goto 4, 3) := by decide +kernel
theorem dX7_meanDistance_12 : decode cX7_meanDistance 12 = .ok (.iconst 1, 1) := by decide +kernel
theorem dX7_meanDistance_13 : decode cX7_meanDistance 13 = .ok (.putfield 57, 3) := by decide +kernel
theorem dX7_meanDistance_16 : decode cX7_meanDistance 16 = .ok (.iconst 0, 1) := by decide +kernel
theorem dX7_meanDistance_17 : decode cX7_meanDistance 17 = .ok (.istore_n 2, 1) := by decide +kernel
theorem dX7_meanDistance_18 : decode cX7_meanDistance 18 = .ok (.iconst 0, 1) := by decide +kernel
theorem dX7_meanDistance_19 : decode cX7_meanDistance 19 = .ok (.istore_n 3, 1) := by decide +kernel
theorem dX7_meanDistance_20 : decode cX7_meanDistance 20 = .ok (.iconst 0, 1) := by decide +kernel
theorem dX7_meanDistance_21 : decode cX7_meanDistance 21 = .ok (.istore 4, 2) := by decide +kernel
theorem dX7_meanDistance_23 : decode cX7_meanDistance 23 = .ok (.aload_n 0, 1) := by decide +kernel
theorem dX7_meanDistance_24 : decode cX7_meanDistance 24 = .ok (.getfield 57, 3) := by decide +kernel
theorem dX7_meanDistance_27 : decode cX7_meanDistance 27 = .ok (.ifCond .ne 60, 3) := by decide +kernel
theorem dX7_meanDistance_30 : decode cX7_meanDistance 30 = .ok (.iload 4, 2) := by decide +kernel
theorem dX7_meanDistance_32 : decode cX7_meanDistance 32 = .ok (.aload_n 0, 1) := by decide +kernel
theorem dX7_meanDistance_33 : decode cX7_meanDistance 33 = .ok (.getfield 7, 3) := by decide +kernel
theorem dX7_meanDistance_36 : decode cX7_meanDistance 36 = .ok (.iload_n 1, 1) := by decide +kernel
theorem dX7_meanDistance_37 : decode cX7_meanDistance 37 = .ok (.iaload, 1) := by decide +kernel
theorem dX7_meanDistance_38 : decode cX7_meanDistance 38 = .ok (.if_icmp .ge 49, 3) := by decide +kernel
theorem dX7_meanDistance_87 : decode cX7_meanDistance 87 = .ok (.aload_n 0, 1) := by decide +kernel
theorem dX7_meanDistance_88 : decode cX7_meanDistance 88 = .ok (.aload_n 0, 1) := by decide +kernel
theorem dX7_meanDistance_89 : decode cX7_meanDistance 89 = .ok (.getfield 57, 3) := by decide +kernel
theorem dX7_meanDistance_92 : decode cX7_meanDistance 92 = .ok (.ifCond .ne 11, 3) := by decide +kernel
theorem dX7_meanDistance_95 : decode cX7_meanDistance 95 = .ok (.iload_n 2, 1) := by decide +kernel
theorem dX7_meanDistance_96 : decode cX7_meanDistance 96 = .ok (.ifCond .ne 7, 3) := by decide +kernel
theorem dX7_meanDistance_99 : decode cX7_meanDistance 99 = .ok (.iconst 2, 1) := by decide +kernel
theorem dX7_meanDistance_100 : decode cX7_meanDistance 100 = .ok (.goto 7, 3) := by decide +kernel
theorem dX7_meanDistance_103 : decode cX7_meanDistance 103 = .ok (.aload_n 0, 1) := by decide +kernel
theorem dX7_meanDistance_104 : decode cX7_meanDistance 104 = .ok (.getfield 57, 3) := by decide +kernel
theorem dX7_meanDistance_107 : decode cX7_meanDistance 107 = .ok (.putfield 57, 3) := by decide +kernel
theorem dX7_meanDistance_110 : decode cX7_meanDistance 110 = .ok (.aload_n 0, 1) := by decide +kernel
theorem dX7_meanDistance_111 : decode cX7_meanDistance 111 = .ok (.getfield 57, 3) := by decide +kernel
theorem dX7_meanDistance_114 : decode cX7_meanDistance 114 = .ok (.ifCond .ne 11, 3) := by decide +kernel
theorem dX7_meanDistance_125 : decode cX7_meanDistance 125 = .ok (.dconst 0, 1) := by decide +kernel
theorem dX7_meanDistance_126 : decode cX7_meanDistance 126 = .ok (.dreturn, 1) := by decide +kernel
set_option maxRecDepth 20000 in
theorem ggX7_valueSum_X7_isCircuit : GoodIn wsX7_valueSum wsX7_isCircuit := goodIn_r _ [6] (by decide +kernel) (by decide +kernel)
set_option maxRecDepth 20000 in
theorem gX7_valueSum_X7_isCircuit : GoodIn wsX7_valueSum (va_wsS RX7 81 yX7_isCircuit wsX7_isCircuit) := goodIn_app (goodIn_of _ (by decide +kernel)) ggX7_valueSum_X7_isCircuit
theorem dX7_valueSum_0 : decode cX7_valueSum 0 = .ok (.aload_n 0, 1) := by decide +kernel
theorem dX7_valueSum_1 : decode cX7_valueSum 1 = .ok (.iload_n 1, 1) := by decide +kernel
theorem dX7_valueSum_2 : decode cX7_valueSum 2 = .ok (.invokestatic 81, 3) := by decide +kernel
theorem dX7_valueSum_5 : decode cX7_valueSum 5 = .ok (.ifCond .eq 7, 3) := by decide +kernel
theorem dX7_valueSum_8 : decode cX7_valueSum 8 = .ok (.iconst 0, 1) := by decide +kernel
theorem dX7_valueSum_9 : decode cX7_valueSum 9 = .ok (.goto 4, 3) := by decide +kernel
theorem dX7_valueSum_12 : decode cX7_valueSum 12 = .ok (.iconst 1, 1) := by decide +kernel
theorem dX7_valueSum_13 : decode cX7_valueSum 13 = .ok (.putfield 57, 3) := by decide +kernel
theorem dX7_valueSum_16 : decode cX7_valueSum 16 = .ok (.lconst 0, 1) := by decide +kernel
theorem dX7_valueSum_17 : decode cX7_valueSum 17 = .ok (.lstore_n 2, 1) := by decide +kernel
theorem dX7_valueSum_18 : decode cX7_valueSum 18 = .ok (.iconst 0, 1) := by decide +kernel
theorem dX7_valueSum_19 : decode cX7_valueSum 19 = .ok (.istore 4, 2) := by decide +kernel
theorem dX7_valueSum_21 : decode cX7_valueSum 21 = .ok (.aload_n 0, 1) := by decide +kernel
theorem dX7_valueSum_22 : decode cX7_valueSum 22 = .ok (.getfield 57, 3) := by decide +kernel
theorem dX7_valueSum_25 : decode cX7_valueSum 25 = .ok (.ifCond .ne 45, 3) := by decide +kernel
theorem dX7_valueSum_28 : decode cX7_valueSum 28 = .ok (.iload 4, 2) := by decide +kernel
theorem dX7_valueSum_30 : decode cX7_valueSum 30 = .ok (.aload_n 0, 1) := by decide +kernel
theorem dX7_valueSum_31 : decode cX7_valueSum 31 = .ok (.getfield 13, 3) := by decide +kernel
theorem dX7_valueSum_34 : decode cX7_valueSum 34 = .ok (.iload_n 1, 1) := by decide +kernel
theorem dX7_valueSum_35 : decode cX7_valueSum 35 = .ok (.iaload, 1) := by decide +kernel
theorem dX7_valueSum_36 : decode cX7_valueSum 36 = .ok (.if_icmp .ge 34, 3) := by decide +kernel
theorem dX7_valueSum_70 : decode cX7_valueSum 70 = .ok (.lload_n 2, 1) := by decide +kernel
theorem dX7_valueSum_71 : decode cX7_valueSum 71 = .ok (.lreturn, 1) := by decide +kernel
set_option maxHeartbeats 4000000 in
set_option maxRecDepth 100000 in
/-- isAsked on a fresh model -/
theorem kX7_isAsked (l : Launch) (dC : Nat → ClassId) (dI : Nat → Nat → Nat) (k0 kN kA kO kK kV kG kP kC kD kE kF kX kY kT kU : Nat) (cI : ClassId) (p0 p1 : Int32) (sz : Nat) : fMi l yX7_isAsked wsX7_isAsked ({ frames := 2, cells := 0, slots := 0, locals := 47 } : Room) dC dI [.ref k0, .int p0, .int p1] [(k0, .inr (10, [.ref kN, .ref kA, .ref kO, .ref kK, .ref kV, .ref kG, .ref kP, .ref kC, .ref kD, .ref kE, .ref kF, .ref kX, .ref kY, .int 0, .ref kT, .ref kU, .int 0, .int 0, .int 0])), (kA, .inl (cI, 2, .inl (fun _ => 0)))] [(cI, .int)] sz (fun (r : Int32) (u : Int32) => r = 0 ∧ (u = 1 ∧ ¬ ((p0 = 0) ∨ (p0 = 1)) ∨ u = 2 ∧ ((p0 = 0) ∨ (p0 = 1)))) (fun u => [(k0, .inr (10, [.ref kN, .ref kA, .ref kO, .ref kK, .ref kV, .ref kG, .ref kP, .ref kC, .ref kD, .ref kE, .ref kF, .ref kX, .ref kY, .int 0, .ref kT, .ref kU, .int u, .int 0, .int 0]))]) (fun u => []) := by
  refine oP_z (y := yX7_isAsked) (cc := cX7_isAsked) (maxL := 3) (by decide) rfl (Nat.le_of_ble_eq_true rfl) ?_
  intro p e s m args below meth c ls A Q hx hb hr hml hown hts hN hZ hA hin hlk hP hK hD hl ret
  have hS : va_S A s.heap s.heap [] := va_S.rf
  have hl : lv_has ls 3 [(0, .ref k0), (1, .int p0), (2, .int p1)] := hl
  have hP : va_P (dC, dI) vwCl [(k0, .inr (10, [.ref kN, .ref kA, .ref kO, .ref kK, .ref kV, .ref kG, .ref kP, .ref kC, .ref kD, .ref kE, .ref kF, .ref kX, .ref kY, .int 0, .ref kT, .ref kU, .int 0, .int 0, .int 0])), (kA, .inl (cI, 2, .inl (fun _ => 0)))] _ := hP
  have hD : va_D A [(k0, .inr (10, [.ref kN, .ref kA, .ref kO, .ref kK, .ref kV, .ref kG, .ref kP, .ref kC, .ref kD, .ref kE, .ref kF, .ref kX, .ref kY, .int 0, .ref kT, .ref kU, .int 0, .int 0, .int 0])), (kA, .inl (cI, 2, .inl (fun _ => 0)))] := hD
  refine lv_aload_n hx hb dX7_isAsked_0 rfl (lv_at hl 0 rfl) ?_
  refine lv_iload_n hx hb dX7_isAsked_1 rfl (lv_at hl 1 rfl) ?_
  have hPc := hP.sub (ws' := []) [] rfl
  have hDc := hD.sub (ws' := []) [] (by decide) rfl
  have hKc := hK.sub (tys' := []) [] rfl
  have hFc := va_free (wc := []) hD hS hA [] rfl
  refine va_calli (va_runS (As := [.int p0]) (rest := [.ref k0]) ⟨hx, hb, hml, hown, hts⟩ (kX7_isCircuit l dC dI p0 s.heap.size) (va_cwS 1 hts gX7_isAsked_X7_isCircuit rfl rfl rfl (by decide +kernel) ⟨Nat.le_of_ble_eq_true rfl, Nat.le_of_ble_eq_true rfl⟩) (fPreS hN hZ hS (fun q h => hFc q h) hPc hKc hDc) rfl rfl hl.1 rfl (lv_room (Nat.le_of_ble_eq_true rfl)) dX7_isAsked_2 ⟨Nat.le_of_ble_eq_true rfl, Nat.le_of_ble_eq_true rfl⟩) hS (fun q _ h => hFc q h) hFc (fun r u t H1 locs ht hvm hw hB hz1 hk1 hS => ?_)
  obtain ⟨hP1, hK1, hD1⟩ := hB
  rw [ht] at hP1
  have hK1 := va_K.moved hvm.symm hK1
  obtain ⟨hP, hD⟩ := va_join (wr := [(k0, .inr (10, [.ref kN, .ref kA, .ref kO, .ref kK, .ref kV, .ref kG, .ref kP, .ref kC, .ref kD, .ref kE, .ref kF, .ref kX, .ref kY, .int 0, .ref kT, .ref kU, .int 0, .int 0, .int 0])), (kA, .inl (cI, 2, .inl (fun _ => 0)))]) (w1 := []) hP hD [] [0, 1] rfl rfl (by decide) (by decide) hk1 hFc hP1 hD1
  generalize H1 = H at hP hS ⊢
  have hP : va_P (dC, dI) vwCl [(k0, .inr (10, [.ref kN, .ref kA, .ref kO, .ref kK, .ref kV, .ref kG, .ref kP, .ref kC, .ref kD, .ref kE, .ref kF, .ref kX, .ref kY, .int 0, .ref kT, .ref kU, .int 0, .int 0, .int 0])), (kA, .inl (cI, 2, .inl (fun _ => 0)))] _ := hP
  have hD : va_D A [(k0, .inr (10, [.ref kN, .ref kA, .ref kO, .ref kK, .ref kV, .ref kG, .ref kP, .ref kC, .ref kD, .ref kE, .ref kF, .ref kX, .ref kY, .int 0, .ref kT, .ref kU, .int 0, .int 0, .int 0])), (kA, .inl (cI, 2, .inl (fun _ => 0)))] := hD
  rcases hw with ⟨rfl, hc | hc⟩ | ⟨rfl, hc⟩
  · skip
    subst hc
    have hP : va_P (dC, dI) vwCl [(k0, .inr (10, [.ref kN, .ref kA, .ref kO, .ref kK, .ref kV, .ref kG, .ref kP, .ref kC, .ref kD, .ref kE, .ref kF, .ref kX, .ref kY, .int 0, .ref kT, .ref kU, .int 0, .int 0, .int 0])), (kA, .inl (cI, 2, .inl (fun _ => 0)))] _ := hP
    have hD : va_D A [(k0, .inr (10, [.ref kN, .ref kA, .ref kO, .ref kK, .ref kV, .ref kG, .ref kP, .ref kC, .ref kD, .ref kE, .ref kF, .ref kX, .ref kY, .int 0, .ref kT, .ref kU, .int 0, .int 0, .int 0])), (kA, .inl (cI, 2, .inl (fun _ => 0)))] := hD
    refine lv_if_ne (tgt := 12) hx hb dX7_isAsked_5 (by decide) (fun _ => ?_) (fun h9 => absurd h9 (by decide))
    refine lv_aload_n hx hb dX7_isAsked_12 rfl (lv_at hl 0 rfl) ?_
    refine lv_iload_n hx hb dX7_isAsked_13 rfl (lv_at hl 1 rfl) ?_
    refine lv_iload_n hx hb dX7_isAsked_14 rfl (lv_at hl 2 rfl) ?_
    have hPc := hP.sub (ws' := [(k0, .inr (10, [.ref kN, .ref kA, .ref kO, .ref kK, .ref kV, .ref kG, .ref kP, .ref kC, .ref kD, .ref kE, .ref kF, .ref kX, .ref kY, .int 0, .ref kT, .ref kU, .int 0, .int 0, .int 0])), (kA, .inl (cI, 2, .inl (fun _ => 0)))]) [0, 1] rfl
    have hDc := hD.sub (ws' := [(k0, .inr (10, [.ref kN, .ref kA, .ref kO, .ref kK, .ref kV, .ref kG, .ref kP, .ref kC, .ref kD, .ref kE, .ref kF, .ref kX, .ref kY, .int 0, .ref kT, .ref kU, .int 0, .int 0, .int 0])), (kA, .inl (cI, 2, .inl (fun _ => 0)))]) [0, 1] (by decide) rfl
    have hKc := hK.sub (tys' := [(cI, .int)]) [0] rfl
    have hFc := va_free (wc := [(k0, .inr (10, [.ref kN, .ref kA, .ref kO, .ref kK, .ref kV, .ref kG, .ref kP, .ref kC, .ref kD, .ref kE, .ref kF, .ref kX, .ref kY, .int 0, .ref kT, .ref kU, .int 0, .int 0, .int 0])), (kA, .inl (cI, 2, .inl (fun _ => 0)))]) hD hS hA [0, 1] rfl
    refine va_calli (va_runV (As := [.int 0, .int p1]) (rest := [.ref k0]) ⟨hx, hb, hml, hown, hts⟩ (kX7_isPart0 l dC dI k0 kN kA kO kK kV kG kP kC kD kE kF kX kY kT kU cI p1 H.size) (cwV 2 hts gX7_isAsked_X7_isPart rfl rfl rfl (by decide +kernel) ⟨Nat.le_of_ble_eq_true rfl, Nat.le_of_ble_eq_true rfl⟩) (fPreV hN hZ hS (fun q h => hFc q h) hPc hKc hDc (ci := 10) (q0 := 0) rfl rfl) rfl rfl hl.1 rfl (lv_room (Nat.le_of_ble_eq_true rfl)) dX7_isAsked_15 ⟨Nat.le_of_ble_eq_true rfl, Nat.le_of_ble_eq_true rfl⟩) hS (fun q _ h => hFc q h) hFc (fun r u t H1 locs ht hvm hw hB hz1 hk1 hS => ?_)
    obtain ⟨hP1, hK1, hD1⟩ := hB
    rw [ht] at hP1
    have hK1 := va_K.moved hvm.symm hK1
    obtain ⟨hP, hD⟩ := va_join (wr := []) (w1 := [(k0, .inr (10, [.ref kN, .ref kA, .ref kO, .ref kK, .ref kV, .ref kG, .ref kP, .ref kC, .ref kD, .ref kE, .ref kF, .ref kX, .ref kY, .int 0, .ref kT, .ref kU, .int 0, .int 0, .int 0])), (kA, .inl (cI, 2, .inl (fun _ => 0)))]) hP hD [0, 1] [] rfl rfl (by decide) (by decide) hk1 hFc hP1 hD1
    generalize H1 = H at hP hS ⊢
    have hP : va_P (dC, dI) vwCl [(k0, .inr (10, [.ref kN, .ref kA, .ref kO, .ref kK, .ref kV, .ref kG, .ref kP, .ref kC, .ref kD, .ref kE, .ref kF, .ref kX, .ref kY, .int 0, .ref kT, .ref kU, .int 0, .int 0, .int 0])), (kA, .inl (cI, 2, .inl (fun _ => 0)))] _ := hP
    have hD : va_D A [(k0, .inr (10, [.ref kN, .ref kA, .ref kO, .ref kK, .ref kV, .ref kG, .ref kP, .ref kC, .ref kD, .ref kE, .ref kF, .ref kX, .ref kY, .int 0, .ref kT, .ref kU, .int 0, .int 0, .int 0])), (kA, .inl (cI, 2, .inl (fun _ => 0)))] := hD
    subst hw
    refine lv_if_ne (tgt := 25) hx hb dX7_isAsked_18 (by decide) (fun h9 => absurd (by decide) h9) (fun _ => ?_)
    refine lv_iconst (v := 2) hx hb dX7_isAsked_21 (by decide) ?_
    refine lv_goto (tgt := 26) hx hb dX7_isAsked_22 (by decide) ?_
    refine va_put (D := (dC, dI)) (ci := 10) (v := .int 2) (ty := .int) (C := RX7) (T := TX7) (N := 19) hx hb hts (fun w h => List.mem_cons_of_mem _ (List.mem_append_left _ (List.mem_append_right _ (h)))) tyX7 tyX7_ok nmX7 hown hK hP hD hS 0 rfl rfl 16 (by decide) (hts (.fieldLink RX7 57 "NetcompareModel" "thrown" "I") (List.mem_cons_of_mem _ (List.mem_append_left _ (List.mem_append_left _ (List.mem_of_getElem? (i := 0) rfl))))) (fun _ h9 => h9) rfl (by decide +kernel) rfl rfl (Nat.le_of_ble_eq_true rfl) dX7_isAsked_26 (fun H locs hP hD hS => ?_)
    have hP : va_P (dC, dI) vwCl [(k0, .inr (10, [.ref kN, .ref kA, .ref kO, .ref kK, .ref kV, .ref kG, .ref kP, .ref kC, .ref kD, .ref kE, .ref kF, .ref kX, .ref kY, .int 0, .ref kT, .ref kU, .int 2, .int 0, .int 0])), (kA, .inl (cI, 2, .inl (fun _ => 0)))] _ := hP
    have hD : va_D A [(k0, .inr (10, [.ref kN, .ref kA, .ref kO, .ref kK, .ref kV, .ref kG, .ref kP, .ref kC, .ref kD, .ref kE, .ref kF, .ref kX, .ref kY, .int 0, .ref kT, .ref kU, .int 2, .int 0, .int 0])), (kA, .inl (cI, 2, .inl (fun _ => 0)))] := hD
    refine lv_aload_n hx hb dX7_isAsked_29 rfl (lv_at hl 0 rfl) ?_
    refine va_get (D := (dC, dI)) (ci := 10) (v := .int 2) (C := RX7) (T := TX7) (N := 19) hx hb hts (fun w h => List.mem_cons_of_mem _ (List.mem_append_left _ (List.mem_append_right _ (h)))) hown hK hP 0 rfl rfl 16 (by decide) (hts (.fieldLink RX7 57 "NetcompareModel" "thrown" "I") (List.mem_cons_of_mem _ (List.mem_append_left _ (List.mem_append_left _ (List.mem_of_getElem? (i := 0) rfl))))) (fun _ h9 => h9) rfl dX7_isAsked_30 ?_
    refine lv_if_ne (tgt := 40) hx hb dX7_isAsked_33 (by decide) (fun _ => ?_) (fun h9 => absurd h9 (by decide))
    refine lv_iconst (v := 0) hx hb dX7_isAsked_40 (by decide) ?_
    exact ret _ 2 _ _ _ _ _ _ (rfl) (⟨rfl, Or.inr ⟨rfl, Or.inl (rfl)⟩⟩) (hP.sub [0] rfl) (hK.sub [] rfl) (hD.sub [0] (by decide) rfl) hS (Nat.le_of_ble_eq_true rfl) (Nat.le_of_ble_eq_true rfl) dX7_isAsked_41
  · skip
    subst hc
    have hP : va_P (dC, dI) vwCl [(k0, .inr (10, [.ref kN, .ref kA, .ref kO, .ref kK, .ref kV, .ref kG, .ref kP, .ref kC, .ref kD, .ref kE, .ref kF, .ref kX, .ref kY, .int 0, .ref kT, .ref kU, .int 0, .int 0, .int 0])), (kA, .inl (cI, 2, .inl (fun _ => 0)))] _ := hP
    have hD : va_D A [(k0, .inr (10, [.ref kN, .ref kA, .ref kO, .ref kK, .ref kV, .ref kG, .ref kP, .ref kC, .ref kD, .ref kE, .ref kF, .ref kX, .ref kY, .int 0, .ref kT, .ref kU, .int 0, .int 0, .int 0])), (kA, .inl (cI, 2, .inl (fun _ => 0)))] := hD
    refine lv_if_ne (tgt := 12) hx hb dX7_isAsked_5 (by decide) (fun _ => ?_) (fun h9 => absurd h9 (by decide))
    refine lv_aload_n hx hb dX7_isAsked_12 rfl (lv_at hl 0 rfl) ?_
    refine lv_iload_n hx hb dX7_isAsked_13 rfl (lv_at hl 1 rfl) ?_
    refine lv_iload_n hx hb dX7_isAsked_14 rfl (lv_at hl 2 rfl) ?_
    have hPc := hP.sub (ws' := [(k0, .inr (10, [.ref kN, .ref kA, .ref kO, .ref kK, .ref kV, .ref kG, .ref kP, .ref kC, .ref kD, .ref kE, .ref kF, .ref kX, .ref kY, .int 0, .ref kT, .ref kU, .int 0, .int 0, .int 0])), (kA, .inl (cI, 2, .inl (fun _ => 0)))]) [0, 1] rfl
    have hDc := hD.sub (ws' := [(k0, .inr (10, [.ref kN, .ref kA, .ref kO, .ref kK, .ref kV, .ref kG, .ref kP, .ref kC, .ref kD, .ref kE, .ref kF, .ref kX, .ref kY, .int 0, .ref kT, .ref kU, .int 0, .int 0, .int 0])), (kA, .inl (cI, 2, .inl (fun _ => 0)))]) [0, 1] (by decide) rfl
    have hKc := hK.sub (tys' := [(cI, .int)]) [0] rfl
    have hFc := va_free (wc := [(k0, .inr (10, [.ref kN, .ref kA, .ref kO, .ref kK, .ref kV, .ref kG, .ref kP, .ref kC, .ref kD, .ref kE, .ref kF, .ref kX, .ref kY, .int 0, .ref kT, .ref kU, .int 0, .int 0, .int 0])), (kA, .inl (cI, 2, .inl (fun _ => 0)))]) hD hS hA [0, 1] rfl
    refine va_calli (va_runV (As := [.int 1, .int p1]) (rest := [.ref k0]) ⟨hx, hb, hml, hown, hts⟩ (kX7_isPart1 l dC dI k0 kN kA kO kK kV kG kP kC kD kE kF kX kY kT kU cI p1 H.size) (cwV 2 hts gX7_isAsked_X7_isPart rfl rfl rfl (by decide +kernel) ⟨Nat.le_of_ble_eq_true rfl, Nat.le_of_ble_eq_true rfl⟩) (fPreV hN hZ hS (fun q h => hFc q h) hPc hKc hDc (ci := 10) (q0 := 0) rfl rfl) rfl rfl hl.1 rfl (lv_room (Nat.le_of_ble_eq_true rfl)) dX7_isAsked_15 ⟨Nat.le_of_ble_eq_true rfl, Nat.le_of_ble_eq_true rfl⟩) hS (fun q _ h => hFc q h) hFc (fun r u t H1 locs ht hvm hw hB hz1 hk1 hS => ?_)
    obtain ⟨hP1, hK1, hD1⟩ := hB
    rw [ht] at hP1
    have hK1 := va_K.moved hvm.symm hK1
    obtain ⟨hP, hD⟩ := va_join (wr := []) (w1 := [(k0, .inr (10, [.ref kN, .ref kA, .ref kO, .ref kK, .ref kV, .ref kG, .ref kP, .ref kC, .ref kD, .ref kE, .ref kF, .ref kX, .ref kY, .int 0, .ref kT, .ref kU, .int 0, .int 0, .int 0])), (kA, .inl (cI, 2, .inl (fun _ => 0)))]) hP hD [0, 1] [] rfl rfl (by decide) (by decide) hk1 hFc hP1 hD1
    generalize H1 = H at hP hS ⊢
    have hP : va_P (dC, dI) vwCl [(k0, .inr (10, [.ref kN, .ref kA, .ref kO, .ref kK, .ref kV, .ref kG, .ref kP, .ref kC, .ref kD, .ref kE, .ref kF, .ref kX, .ref kY, .int 0, .ref kT, .ref kU, .int 0, .int 0, .int 0])), (kA, .inl (cI, 2, .inl (fun _ => 0)))] _ := hP
    have hD : va_D A [(k0, .inr (10, [.ref kN, .ref kA, .ref kO, .ref kK, .ref kV, .ref kG, .ref kP, .ref kC, .ref kD, .ref kE, .ref kF, .ref kX, .ref kY, .int 0, .ref kT, .ref kU, .int 0, .int 0, .int 0])), (kA, .inl (cI, 2, .inl (fun _ => 0)))] := hD
    subst hw
    refine lv_if_ne (tgt := 25) hx hb dX7_isAsked_18 (by decide) (fun h9 => absurd (by decide) h9) (fun _ => ?_)
    refine lv_iconst (v := 2) hx hb dX7_isAsked_21 (by decide) ?_
    refine lv_goto (tgt := 26) hx hb dX7_isAsked_22 (by decide) ?_
    refine va_put (D := (dC, dI)) (ci := 10) (v := .int 2) (ty := .int) (C := RX7) (T := TX7) (N := 19) hx hb hts (fun w h => List.mem_cons_of_mem _ (List.mem_append_left _ (List.mem_append_right _ (h)))) tyX7 tyX7_ok nmX7 hown hK hP hD hS 0 rfl rfl 16 (by decide) (hts (.fieldLink RX7 57 "NetcompareModel" "thrown" "I") (List.mem_cons_of_mem _ (List.mem_append_left _ (List.mem_append_left _ (List.mem_of_getElem? (i := 0) rfl))))) (fun _ h9 => h9) rfl (by decide +kernel) rfl rfl (Nat.le_of_ble_eq_true rfl) dX7_isAsked_26 (fun H locs hP hD hS => ?_)
    have hP : va_P (dC, dI) vwCl [(k0, .inr (10, [.ref kN, .ref kA, .ref kO, .ref kK, .ref kV, .ref kG, .ref kP, .ref kC, .ref kD, .ref kE, .ref kF, .ref kX, .ref kY, .int 0, .ref kT, .ref kU, .int 2, .int 0, .int 0])), (kA, .inl (cI, 2, .inl (fun _ => 0)))] _ := hP
    have hD : va_D A [(k0, .inr (10, [.ref kN, .ref kA, .ref kO, .ref kK, .ref kV, .ref kG, .ref kP, .ref kC, .ref kD, .ref kE, .ref kF, .ref kX, .ref kY, .int 0, .ref kT, .ref kU, .int 2, .int 0, .int 0])), (kA, .inl (cI, 2, .inl (fun _ => 0)))] := hD
    refine lv_aload_n hx hb dX7_isAsked_29 rfl (lv_at hl 0 rfl) ?_
    refine va_get (D := (dC, dI)) (ci := 10) (v := .int 2) (C := RX7) (T := TX7) (N := 19) hx hb hts (fun w h => List.mem_cons_of_mem _ (List.mem_append_left _ (List.mem_append_right _ (h)))) hown hK hP 0 rfl rfl 16 (by decide) (hts (.fieldLink RX7 57 "NetcompareModel" "thrown" "I") (List.mem_cons_of_mem _ (List.mem_append_left _ (List.mem_append_left _ (List.mem_of_getElem? (i := 0) rfl))))) (fun _ h9 => h9) rfl dX7_isAsked_30 ?_
    refine lv_if_ne (tgt := 40) hx hb dX7_isAsked_33 (by decide) (fun _ => ?_) (fun h9 => absurd h9 (by decide))
    refine lv_iconst (v := 0) hx hb dX7_isAsked_40 (by decide) ?_
    exact ret _ 2 _ _ _ _ _ _ (rfl) (⟨rfl, Or.inr ⟨rfl, Or.inr (rfl)⟩⟩) (hP.sub [0] rfl) (hK.sub [] rfl) (hD.sub [0] (by decide) rfl) hS (Nat.le_of_ble_eq_true rfl) (Nat.le_of_ble_eq_true rfl) dX7_isAsked_41
  · skip
    have hc1 := hc
    refine lv_if_ne (tgt := 12) hx hb dX7_isAsked_5 (by decide) (fun h9 => absurd (by decide) h9) (fun _ => ?_)
    refine lv_iconst (v := 1) hx hb dX7_isAsked_8 (by decide) ?_
    refine lv_goto (tgt := 26) hx hb dX7_isAsked_9 (by decide) ?_
    refine va_put (D := (dC, dI)) (ci := 10) (v := .int 1) (ty := .int) (C := RX7) (T := TX7) (N := 19) hx hb hts (fun w h => List.mem_cons_of_mem _ (List.mem_append_left _ (List.mem_append_right _ (h)))) tyX7 tyX7_ok nmX7 hown hK hP hD hS 0 rfl rfl 16 (by decide) (hts (.fieldLink RX7 57 "NetcompareModel" "thrown" "I") (List.mem_cons_of_mem _ (List.mem_append_left _ (List.mem_append_left _ (List.mem_of_getElem? (i := 0) rfl))))) (fun _ h9 => h9) rfl (by decide +kernel) rfl rfl (Nat.le_of_ble_eq_true rfl) dX7_isAsked_26 (fun H locs hP hD hS => ?_)
    have hP : va_P (dC, dI) vwCl [(k0, .inr (10, [.ref kN, .ref kA, .ref kO, .ref kK, .ref kV, .ref kG, .ref kP, .ref kC, .ref kD, .ref kE, .ref kF, .ref kX, .ref kY, .int 0, .ref kT, .ref kU, .int 1, .int 0, .int 0])), (kA, .inl (cI, 2, .inl (fun _ => 0)))] _ := hP
    have hD : va_D A [(k0, .inr (10, [.ref kN, .ref kA, .ref kO, .ref kK, .ref kV, .ref kG, .ref kP, .ref kC, .ref kD, .ref kE, .ref kF, .ref kX, .ref kY, .int 0, .ref kT, .ref kU, .int 1, .int 0, .int 0])), (kA, .inl (cI, 2, .inl (fun _ => 0)))] := hD
    refine lv_aload_n hx hb dX7_isAsked_29 rfl (lv_at hl 0 rfl) ?_
    refine va_get (D := (dC, dI)) (ci := 10) (v := .int 1) (C := RX7) (T := TX7) (N := 19) hx hb hts (fun w h => List.mem_cons_of_mem _ (List.mem_append_left _ (List.mem_append_right _ (h)))) hown hK hP 0 rfl rfl 16 (by decide) (hts (.fieldLink RX7 57 "NetcompareModel" "thrown" "I") (List.mem_cons_of_mem _ (List.mem_append_left _ (List.mem_append_left _ (List.mem_of_getElem? (i := 0) rfl))))) (fun _ h9 => h9) rfl dX7_isAsked_30 ?_
    refine lv_if_ne (tgt := 40) hx hb dX7_isAsked_33 (by decide) (fun _ => ?_) (fun h9 => absurd h9 (by decide))
    refine lv_iconst (v := 0) hx hb dX7_isAsked_40 (by decide) ?_
    exact ret _ 1 _ _ _ _ _ _ (rfl) (⟨rfl, Or.inl ⟨rfl, hc1⟩⟩) (hP.sub [0] rfl) (hK.sub [] rfl) (hD.sub [0] (by decide) rfl) hS (Nat.le_of_ble_eq_true rfl) (Nat.le_of_ble_eq_true rfl) dX7_isAsked_41

set_option maxHeartbeats 4000000 in
set_option maxRecDepth 100000 in
/-- areAsked on a fresh model -/
theorem kX7_areAsked (l : Launch) (dC : Nat → ClassId) (dI : Nat → Nat → Nat) (k0 kN kA kO kK kV kG kP kC kD kE kF kX kY kT kU : Nat) (cI : ClassId) (p0 p1 p2 : Int32) (sz : Nat) : fMi l yX7_areAsked wsX7_areAsked ({ frames := 2, cells := 0, slots := 0, locals := 47 } : Room) dC dI [.ref k0, .int p0, .int p1, .int p2] [(k0, .inr (10, [.ref kN, .ref kA, .ref kO, .ref kK, .ref kV, .ref kG, .ref kP, .ref kC, .ref kD, .ref kE, .ref kF, .ref kX, .ref kY, .int 0, .ref kT, .ref kU, .int 0, .int 0, .int 0])), (kA, .inl (cI, 2, .inl (fun _ => 0)))] [(cI, .int)] sz (fun (r : Int32) (u : Int32) => r = 0 ∧ (u = 1 ∧ ¬ ((p0 = 0) ∨ (p0 = 1)) ∨ u = 2 ∧ ((p0 = 0) ∨ (p0 = 1)))) (fun u => [(k0, .inr (10, [.ref kN, .ref kA, .ref kO, .ref kK, .ref kV, .ref kG, .ref kP, .ref kC, .ref kD, .ref kE, .ref kF, .ref kX, .ref kY, .int 0, .ref kT, .ref kU, .int u, .int 0, .int 0]))]) (fun u => []) := by
  refine oP_z (y := yX7_areAsked) (cc := cX7_areAsked) (maxL := 4) (by decide) rfl (Nat.le_of_ble_eq_true rfl) ?_
  intro p e s m args below meth c ls A Q hx hb hr hml hown hts hN hZ hA hin hlk hP hK hD hl ret
  have hS : va_S A s.heap s.heap [] := va_S.rf
  have hl : lv_has ls 4 [(0, .ref k0), (1, .int p0), (2, .int p1), (3, .int p2)] := hl
  have hP : va_P (dC, dI) vwCl [(k0, .inr (10, [.ref kN, .ref kA, .ref kO, .ref kK, .ref kV, .ref kG, .ref kP, .ref kC, .ref kD, .ref kE, .ref kF, .ref kX, .ref kY, .int 0, .ref kT, .ref kU, .int 0, .int 0, .int 0])), (kA, .inl (cI, 2, .inl (fun _ => 0)))] _ := hP
  have hD : va_D A [(k0, .inr (10, [.ref kN, .ref kA, .ref kO, .ref kK, .ref kV, .ref kG, .ref kP, .ref kC, .ref kD, .ref kE, .ref kF, .ref kX, .ref kY, .int 0, .ref kT, .ref kU, .int 0, .int 0, .int 0])), (kA, .inl (cI, 2, .inl (fun _ => 0)))] := hD
  refine lv_aload_n hx hb dX7_areAsked_0 rfl (lv_at hl 0 rfl) ?_
  refine lv_iload_n hx hb dX7_areAsked_1 rfl (lv_at hl 1 rfl) ?_
  have hPc := hP.sub (ws' := []) [] rfl
  have hDc := hD.sub (ws' := []) [] (by decide) rfl
  have hKc := hK.sub (tys' := []) [] rfl
  have hFc := va_free (wc := []) hD hS hA [] rfl
  refine va_calli (va_runS (As := [.int p0]) (rest := [.ref k0]) ⟨hx, hb, hml, hown, hts⟩ (kX7_isCircuit l dC dI p0 s.heap.size) (va_cwS 1 hts gX7_areAsked_X7_isCircuit rfl rfl rfl (by decide +kernel) ⟨Nat.le_of_ble_eq_true rfl, Nat.le_of_ble_eq_true rfl⟩) (fPreS hN hZ hS (fun q h => hFc q h) hPc hKc hDc) rfl rfl hl.1 rfl (lv_room (Nat.le_of_ble_eq_true rfl)) dX7_areAsked_2 ⟨Nat.le_of_ble_eq_true rfl, Nat.le_of_ble_eq_true rfl⟩) hS (fun q _ h => hFc q h) hFc (fun r u t H1 locs ht hvm hw hB hz1 hk1 hS => ?_)
  obtain ⟨hP1, hK1, hD1⟩ := hB
  rw [ht] at hP1
  have hK1 := va_K.moved hvm.symm hK1
  obtain ⟨hP, hD⟩ := va_join (wr := [(k0, .inr (10, [.ref kN, .ref kA, .ref kO, .ref kK, .ref kV, .ref kG, .ref kP, .ref kC, .ref kD, .ref kE, .ref kF, .ref kX, .ref kY, .int 0, .ref kT, .ref kU, .int 0, .int 0, .int 0])), (kA, .inl (cI, 2, .inl (fun _ => 0)))]) (w1 := []) hP hD [] [0, 1] rfl rfl (by decide) (by decide) hk1 hFc hP1 hD1
  generalize H1 = H at hP hS ⊢
  have hP : va_P (dC, dI) vwCl [(k0, .inr (10, [.ref kN, .ref kA, .ref kO, .ref kK, .ref kV, .ref kG, .ref kP, .ref kC, .ref kD, .ref kE, .ref kF, .ref kX, .ref kY, .int 0, .ref kT, .ref kU, .int 0, .int 0, .int 0])), (kA, .inl (cI, 2, .inl (fun _ => 0)))] _ := hP
  have hD : va_D A [(k0, .inr (10, [.ref kN, .ref kA, .ref kO, .ref kK, .ref kV, .ref kG, .ref kP, .ref kC, .ref kD, .ref kE, .ref kF, .ref kX, .ref kY, .int 0, .ref kT, .ref kU, .int 0, .int 0, .int 0])), (kA, .inl (cI, 2, .inl (fun _ => 0)))] := hD
  rcases hw with ⟨rfl, hc | hc⟩ | ⟨rfl, hc⟩
  · skip
    subst hc
    have hP : va_P (dC, dI) vwCl [(k0, .inr (10, [.ref kN, .ref kA, .ref kO, .ref kK, .ref kV, .ref kG, .ref kP, .ref kC, .ref kD, .ref kE, .ref kF, .ref kX, .ref kY, .int 0, .ref kT, .ref kU, .int 0, .int 0, .int 0])), (kA, .inl (cI, 2, .inl (fun _ => 0)))] _ := hP
    have hD : va_D A [(k0, .inr (10, [.ref kN, .ref kA, .ref kO, .ref kK, .ref kV, .ref kG, .ref kP, .ref kC, .ref kD, .ref kE, .ref kF, .ref kX, .ref kY, .int 0, .ref kT, .ref kU, .int 0, .int 0, .int 0])), (kA, .inl (cI, 2, .inl (fun _ => 0)))] := hD
    refine lv_if_ne (tgt := 12) hx hb dX7_areAsked_5 (by decide) (fun _ => ?_) (fun h9 => absurd h9 (by decide))
    refine lv_aload_n hx hb dX7_areAsked_12 rfl (lv_at hl 0 rfl) ?_
    refine lv_iload_n hx hb dX7_areAsked_13 rfl (lv_at hl 1 rfl) ?_
    refine lv_iload_n hx hb dX7_areAsked_14 rfl (lv_at hl 2 rfl) ?_
    have hPc := hP.sub (ws' := [(k0, .inr (10, [.ref kN, .ref kA, .ref kO, .ref kK, .ref kV, .ref kG, .ref kP, .ref kC, .ref kD, .ref kE, .ref kF, .ref kX, .ref kY, .int 0, .ref kT, .ref kU, .int 0, .int 0, .int 0])), (kA, .inl (cI, 2, .inl (fun _ => 0)))]) [0, 1] rfl
    have hDc := hD.sub (ws' := [(k0, .inr (10, [.ref kN, .ref kA, .ref kO, .ref kK, .ref kV, .ref kG, .ref kP, .ref kC, .ref kD, .ref kE, .ref kF, .ref kX, .ref kY, .int 0, .ref kT, .ref kU, .int 0, .int 0, .int 0])), (kA, .inl (cI, 2, .inl (fun _ => 0)))]) [0, 1] (by decide) rfl
    have hKc := hK.sub (tys' := [(cI, .int)]) [0] rfl
    have hFc := va_free (wc := [(k0, .inr (10, [.ref kN, .ref kA, .ref kO, .ref kK, .ref kV, .ref kG, .ref kP, .ref kC, .ref kD, .ref kE, .ref kF, .ref kX, .ref kY, .int 0, .ref kT, .ref kU, .int 0, .int 0, .int 0])), (kA, .inl (cI, 2, .inl (fun _ => 0)))]) hD hS hA [0, 1] rfl
    refine va_calli (va_runV (As := [.int 0, .int p1]) (rest := [.ref k0]) ⟨hx, hb, hml, hown, hts⟩ (kX7_isPart0 l dC dI k0 kN kA kO kK kV kG kP kC kD kE kF kX kY kT kU cI p1 H.size) (cwV 2 hts gX7_areAsked_X7_isPart rfl rfl rfl (by decide +kernel) ⟨Nat.le_of_ble_eq_true rfl, Nat.le_of_ble_eq_true rfl⟩) (fPreV hN hZ hS (fun q h => hFc q h) hPc hKc hDc (ci := 10) (q0 := 0) rfl rfl) rfl rfl hl.1 rfl (lv_room (Nat.le_of_ble_eq_true rfl)) dX7_areAsked_15 ⟨Nat.le_of_ble_eq_true rfl, Nat.le_of_ble_eq_true rfl⟩) hS (fun q _ h => hFc q h) hFc (fun r u t H1 locs ht hvm hw hB hz1 hk1 hS => ?_)
    obtain ⟨hP1, hK1, hD1⟩ := hB
    rw [ht] at hP1
    have hK1 := va_K.moved hvm.symm hK1
    obtain ⟨hP, hD⟩ := va_join (wr := []) (w1 := [(k0, .inr (10, [.ref kN, .ref kA, .ref kO, .ref kK, .ref kV, .ref kG, .ref kP, .ref kC, .ref kD, .ref kE, .ref kF, .ref kX, .ref kY, .int 0, .ref kT, .ref kU, .int 0, .int 0, .int 0])), (kA, .inl (cI, 2, .inl (fun _ => 0)))]) hP hD [0, 1] [] rfl rfl (by decide) (by decide) hk1 hFc hP1 hD1
    generalize H1 = H at hP hS ⊢
    have hP : va_P (dC, dI) vwCl [(k0, .inr (10, [.ref kN, .ref kA, .ref kO, .ref kK, .ref kV, .ref kG, .ref kP, .ref kC, .ref kD, .ref kE, .ref kF, .ref kX, .ref kY, .int 0, .ref kT, .ref kU, .int 0, .int 0, .int 0])), (kA, .inl (cI, 2, .inl (fun _ => 0)))] _ := hP
    have hD : va_D A [(k0, .inr (10, [.ref kN, .ref kA, .ref kO, .ref kK, .ref kV, .ref kG, .ref kP, .ref kC, .ref kD, .ref kE, .ref kF, .ref kX, .ref kY, .int 0, .ref kT, .ref kU, .int 0, .int 0, .int 0])), (kA, .inl (cI, 2, .inl (fun _ => 0)))] := hD
    subst hw
    refine lv_if_eq (tgt := 30) hx hb dX7_areAsked_18 (by decide) (fun _ => ?_) (fun h9 => absurd (by decide) h9)
    refine lv_iconst (v := 2) hx hb dX7_areAsked_30 (by decide) ?_
    refine lv_goto (tgt := 35) hx hb dX7_areAsked_31 (by decide) ?_
    refine va_put (D := (dC, dI)) (ci := 10) (v := .int 2) (ty := .int) (C := RX7) (T := TX7) (N := 19) hx hb hts (fun w h => List.mem_cons_of_mem _ (List.mem_append_left _ (List.mem_append_right _ (h)))) tyX7 tyX7_ok nmX7 hown hK hP hD hS 0 rfl rfl 16 (by decide) (hts (.fieldLink RX7 57 "NetcompareModel" "thrown" "I") (List.mem_cons_of_mem _ (List.mem_append_left _ (List.mem_append_left _ (List.mem_of_getElem? (i := 0) rfl))))) (fun _ h9 => h9) rfl (by decide +kernel) rfl rfl (Nat.le_of_ble_eq_true rfl) dX7_areAsked_35 (fun H locs hP hD hS => ?_)
    have hP : va_P (dC, dI) vwCl [(k0, .inr (10, [.ref kN, .ref kA, .ref kO, .ref kK, .ref kV, .ref kG, .ref kP, .ref kC, .ref kD, .ref kE, .ref kF, .ref kX, .ref kY, .int 0, .ref kT, .ref kU, .int 2, .int 0, .int 0])), (kA, .inl (cI, 2, .inl (fun _ => 0)))] _ := hP
    have hD : va_D A [(k0, .inr (10, [.ref kN, .ref kA, .ref kO, .ref kK, .ref kV, .ref kG, .ref kP, .ref kC, .ref kD, .ref kE, .ref kF, .ref kX, .ref kY, .int 0, .ref kT, .ref kU, .int 2, .int 0, .int 0])), (kA, .inl (cI, 2, .inl (fun _ => 0)))] := hD
    refine lv_aload_n hx hb dX7_areAsked_38 rfl (lv_at hl 0 rfl) ?_
    refine va_get (D := (dC, dI)) (ci := 10) (v := .int 2) (C := RX7) (T := TX7) (N := 19) hx hb hts (fun w h => List.mem_cons_of_mem _ (List.mem_append_left _ (List.mem_append_right _ (h)))) hown hK hP 0 rfl rfl 16 (by decide) (hts (.fieldLink RX7 57 "NetcompareModel" "thrown" "I") (List.mem_cons_of_mem _ (List.mem_append_left _ (List.mem_append_left _ (List.mem_of_getElem? (i := 0) rfl))))) (fun _ h9 => h9) rfl dX7_areAsked_39 ?_
    refine lv_if_ne (tgt := 49) hx hb dX7_areAsked_42 (by decide) (fun _ => ?_) (fun h9 => absurd h9 (by decide))
    refine lv_iconst (v := 0) hx hb dX7_areAsked_49 (by decide) ?_
    exact ret _ 2 _ _ _ _ _ _ (rfl) (⟨rfl, Or.inr ⟨rfl, Or.inl (rfl)⟩⟩) (hP.sub [0] rfl) (hK.sub [] rfl) (hD.sub [0] (by decide) rfl) hS (Nat.le_of_ble_eq_true rfl) (Nat.le_of_ble_eq_true rfl) dX7_areAsked_50
  · skip
    subst hc
    have hP : va_P (dC, dI) vwCl [(k0, .inr (10, [.ref kN, .ref kA, .ref kO, .ref kK, .ref kV, .ref kG, .ref kP, .ref kC, .ref kD, .ref kE, .ref kF, .ref kX, .ref kY, .int 0, .ref kT, .ref kU, .int 0, .int 0, .int 0])), (kA, .inl (cI, 2, .inl (fun _ => 0)))] _ := hP
    have hD : va_D A [(k0, .inr (10, [.ref kN, .ref kA, .ref kO, .ref kK, .ref kV, .ref kG, .ref kP, .ref kC, .ref kD, .ref kE, .ref kF, .ref kX, .ref kY, .int 0, .ref kT, .ref kU, .int 0, .int 0, .int 0])), (kA, .inl (cI, 2, .inl (fun _ => 0)))] := hD
    refine lv_if_ne (tgt := 12) hx hb dX7_areAsked_5 (by decide) (fun _ => ?_) (fun h9 => absurd h9 (by decide))
    refine lv_aload_n hx hb dX7_areAsked_12 rfl (lv_at hl 0 rfl) ?_
    refine lv_iload_n hx hb dX7_areAsked_13 rfl (lv_at hl 1 rfl) ?_
    refine lv_iload_n hx hb dX7_areAsked_14 rfl (lv_at hl 2 rfl) ?_
    have hPc := hP.sub (ws' := [(k0, .inr (10, [.ref kN, .ref kA, .ref kO, .ref kK, .ref kV, .ref kG, .ref kP, .ref kC, .ref kD, .ref kE, .ref kF, .ref kX, .ref kY, .int 0, .ref kT, .ref kU, .int 0, .int 0, .int 0])), (kA, .inl (cI, 2, .inl (fun _ => 0)))]) [0, 1] rfl
    have hDc := hD.sub (ws' := [(k0, .inr (10, [.ref kN, .ref kA, .ref kO, .ref kK, .ref kV, .ref kG, .ref kP, .ref kC, .ref kD, .ref kE, .ref kF, .ref kX, .ref kY, .int 0, .ref kT, .ref kU, .int 0, .int 0, .int 0])), (kA, .inl (cI, 2, .inl (fun _ => 0)))]) [0, 1] (by decide) rfl
    have hKc := hK.sub (tys' := [(cI, .int)]) [0] rfl
    have hFc := va_free (wc := [(k0, .inr (10, [.ref kN, .ref kA, .ref kO, .ref kK, .ref kV, .ref kG, .ref kP, .ref kC, .ref kD, .ref kE, .ref kF, .ref kX, .ref kY, .int 0, .ref kT, .ref kU, .int 0, .int 0, .int 0])), (kA, .inl (cI, 2, .inl (fun _ => 0)))]) hD hS hA [0, 1] rfl
    refine va_calli (va_runV (As := [.int 1, .int p1]) (rest := [.ref k0]) ⟨hx, hb, hml, hown, hts⟩ (kX7_isPart1 l dC dI k0 kN kA kO kK kV kG kP kC kD kE kF kX kY kT kU cI p1 H.size) (cwV 2 hts gX7_areAsked_X7_isPart rfl rfl rfl (by decide +kernel) ⟨Nat.le_of_ble_eq_true rfl, Nat.le_of_ble_eq_true rfl⟩) (fPreV hN hZ hS (fun q h => hFc q h) hPc hKc hDc (ci := 10) (q0 := 0) rfl rfl) rfl rfl hl.1 rfl (lv_room (Nat.le_of_ble_eq_true rfl)) dX7_areAsked_15 ⟨Nat.le_of_ble_eq_true rfl, Nat.le_of_ble_eq_true rfl⟩) hS (fun q _ h => hFc q h) hFc (fun r u t H1 locs ht hvm hw hB hz1 hk1 hS => ?_)
    obtain ⟨hP1, hK1, hD1⟩ := hB
    rw [ht] at hP1
    have hK1 := va_K.moved hvm.symm hK1
    obtain ⟨hP, hD⟩ := va_join (wr := []) (w1 := [(k0, .inr (10, [.ref kN, .ref kA, .ref kO, .ref kK, .ref kV, .ref kG, .ref kP, .ref kC, .ref kD, .ref kE, .ref kF, .ref kX, .ref kY, .int 0, .ref kT, .ref kU, .int 0, .int 0, .int 0])), (kA, .inl (cI, 2, .inl (fun _ => 0)))]) hP hD [0, 1] [] rfl rfl (by decide) (by decide) hk1 hFc hP1 hD1
    generalize H1 = H at hP hS ⊢
    have hP : va_P (dC, dI) vwCl [(k0, .inr (10, [.ref kN, .ref kA, .ref kO, .ref kK, .ref kV, .ref kG, .ref kP, .ref kC, .ref kD, .ref kE, .ref kF, .ref kX, .ref kY, .int 0, .ref kT, .ref kU, .int 0, .int 0, .int 0])), (kA, .inl (cI, 2, .inl (fun _ => 0)))] _ := hP
    have hD : va_D A [(k0, .inr (10, [.ref kN, .ref kA, .ref kO, .ref kK, .ref kV, .ref kG, .ref kP, .ref kC, .ref kD, .ref kE, .ref kF, .ref kX, .ref kY, .int 0, .ref kT, .ref kU, .int 0, .int 0, .int 0])), (kA, .inl (cI, 2, .inl (fun _ => 0)))] := hD
    subst hw
    refine lv_if_eq (tgt := 30) hx hb dX7_areAsked_18 (by decide) (fun _ => ?_) (fun h9 => absurd (by decide) h9)
    refine lv_iconst (v := 2) hx hb dX7_areAsked_30 (by decide) ?_
    refine lv_goto (tgt := 35) hx hb dX7_areAsked_31 (by decide) ?_
    refine va_put (D := (dC, dI)) (ci := 10) (v := .int 2) (ty := .int) (C := RX7) (T := TX7) (N := 19) hx hb hts (fun w h => List.mem_cons_of_mem _ (List.mem_append_left _ (List.mem_append_right _ (h)))) tyX7 tyX7_ok nmX7 hown hK hP hD hS 0 rfl rfl 16 (by decide) (hts (.fieldLink RX7 57 "NetcompareModel" "thrown" "I") (List.mem_cons_of_mem _ (List.mem_append_left _ (List.mem_append_left _ (List.mem_of_getElem? (i := 0) rfl))))) (fun _ h9 => h9) rfl (by decide +kernel) rfl rfl (Nat.le_of_ble_eq_true rfl) dX7_areAsked_35 (fun H locs hP hD hS => ?_)
    have hP : va_P (dC, dI) vwCl [(k0, .inr (10, [.ref kN, .ref kA, .ref kO, .ref kK, .ref kV, .ref kG, .ref kP, .ref kC, .ref kD, .ref kE, .ref kF, .ref kX, .ref kY, .int 0, .ref kT, .ref kU, .int 2, .int 0, .int 0])), (kA, .inl (cI, 2, .inl (fun _ => 0)))] _ := hP
    have hD : va_D A [(k0, .inr (10, [.ref kN, .ref kA, .ref kO, .ref kK, .ref kV, .ref kG, .ref kP, .ref kC, .ref kD, .ref kE, .ref kF, .ref kX, .ref kY, .int 0, .ref kT, .ref kU, .int 2, .int 0, .int 0])), (kA, .inl (cI, 2, .inl (fun _ => 0)))] := hD
    refine lv_aload_n hx hb dX7_areAsked_38 rfl (lv_at hl 0 rfl) ?_
    refine va_get (D := (dC, dI)) (ci := 10) (v := .int 2) (C := RX7) (T := TX7) (N := 19) hx hb hts (fun w h => List.mem_cons_of_mem _ (List.mem_append_left _ (List.mem_append_right _ (h)))) hown hK hP 0 rfl rfl 16 (by decide) (hts (.fieldLink RX7 57 "NetcompareModel" "thrown" "I") (List.mem_cons_of_mem _ (List.mem_append_left _ (List.mem_append_left _ (List.mem_of_getElem? (i := 0) rfl))))) (fun _ h9 => h9) rfl dX7_areAsked_39 ?_
    refine lv_if_ne (tgt := 49) hx hb dX7_areAsked_42 (by decide) (fun _ => ?_) (fun h9 => absurd h9 (by decide))
    refine lv_iconst (v := 0) hx hb dX7_areAsked_49 (by decide) ?_
    exact ret _ 2 _ _ _ _ _ _ (rfl) (⟨rfl, Or.inr ⟨rfl, Or.inr (rfl)⟩⟩) (hP.sub [0] rfl) (hK.sub [] rfl) (hD.sub [0] (by decide) rfl) hS (Nat.le_of_ble_eq_true rfl) (Nat.le_of_ble_eq_true rfl) dX7_areAsked_50
  · skip
    have hc1 := hc
    refine lv_if_ne (tgt := 12) hx hb dX7_areAsked_5 (by decide) (fun h9 => absurd (by decide) h9) (fun _ => ?_)
    refine lv_iconst (v := 1) hx hb dX7_areAsked_8 (by decide) ?_
    refine lv_goto (tgt := 35) hx hb dX7_areAsked_9 (by decide) ?_
    refine va_put (D := (dC, dI)) (ci := 10) (v := .int 1) (ty := .int) (C := RX7) (T := TX7) (N := 19) hx hb hts (fun w h => List.mem_cons_of_mem _ (List.mem_append_left _ (List.mem_append_right _ (h)))) tyX7 tyX7_ok nmX7 hown hK hP hD hS 0 rfl rfl 16 (by decide) (hts (.fieldLink RX7 57 "NetcompareModel" "thrown" "I") (List.mem_cons_of_mem _ (List.mem_append_left _ (List.mem_append_left _ (List.mem_of_getElem? (i := 0) rfl))))) (fun _ h9 => h9) rfl (by decide +kernel) rfl rfl (Nat.le_of_ble_eq_true rfl) dX7_areAsked_35 (fun H locs hP hD hS => ?_)
    have hP : va_P (dC, dI) vwCl [(k0, .inr (10, [.ref kN, .ref kA, .ref kO, .ref kK, .ref kV, .ref kG, .ref kP, .ref kC, .ref kD, .ref kE, .ref kF, .ref kX, .ref kY, .int 0, .ref kT, .ref kU, .int 1, .int 0, .int 0])), (kA, .inl (cI, 2, .inl (fun _ => 0)))] _ := hP
    have hD : va_D A [(k0, .inr (10, [.ref kN, .ref kA, .ref kO, .ref kK, .ref kV, .ref kG, .ref kP, .ref kC, .ref kD, .ref kE, .ref kF, .ref kX, .ref kY, .int 0, .ref kT, .ref kU, .int 1, .int 0, .int 0])), (kA, .inl (cI, 2, .inl (fun _ => 0)))] := hD
    refine lv_aload_n hx hb dX7_areAsked_38 rfl (lv_at hl 0 rfl) ?_
    refine va_get (D := (dC, dI)) (ci := 10) (v := .int 1) (C := RX7) (T := TX7) (N := 19) hx hb hts (fun w h => List.mem_cons_of_mem _ (List.mem_append_left _ (List.mem_append_right _ (h)))) hown hK hP 0 rfl rfl 16 (by decide) (hts (.fieldLink RX7 57 "NetcompareModel" "thrown" "I") (List.mem_cons_of_mem _ (List.mem_append_left _ (List.mem_append_left _ (List.mem_of_getElem? (i := 0) rfl))))) (fun _ h9 => h9) rfl dX7_areAsked_39 ?_
    refine lv_if_ne (tgt := 49) hx hb dX7_areAsked_42 (by decide) (fun _ => ?_) (fun h9 => absurd h9 (by decide))
    refine lv_iconst (v := 0) hx hb dX7_areAsked_49 (by decide) ?_
    exact ret _ 1 _ _ _ _ _ _ (rfl) (⟨rfl, Or.inl ⟨rfl, hc1⟩⟩) (hP.sub [0] rfl) (hK.sub [] rfl) (hD.sub [0] (by decide) rfl) hS (Nat.le_of_ble_eq_true rfl) (Nat.le_of_ble_eq_true rfl) dX7_areAsked_50

set_option maxHeartbeats 4000000 in
set_option maxRecDepth 100000 in
/-- isNetAsked on a fresh model -/
theorem kX7_isNetAsked (l : Launch) (dC : Nat → ClassId) (dI : Nat → Nat → Nat) (k0 kN kA kO kK kV kG kP kC kD kE kF kX kY kT kU : Nat) (cI : ClassId) (p0 p1 : Int32) (sz : Nat) : fMi l yX7_isNetAsked wsX7_isNetAsked ({ frames := 2, cells := 0, slots := 0, locals := 47 } : Room) dC dI [.ref k0, .int p0, .int p1] [(k0, .inr (10, [.ref kN, .ref kA, .ref kO, .ref kK, .ref kV, .ref kG, .ref kP, .ref kC, .ref kD, .ref kE, .ref kF, .ref kX, .ref kY, .int 0, .ref kT, .ref kU, .int 0, .int 0, .int 0])), (kN, .inl (cI, 2, .inl (fun _ => 0)))] [(cI, .int)] sz (fun (r : Int32) (u : Int32) => r = 0 ∧ (u = 1 ∧ ¬ ((p0 = 0) ∨ (p0 = 1)) ∨ u = 2 ∧ ((p0 = 0) ∨ (p0 = 1)))) (fun u => [(k0, .inr (10, [.ref kN, .ref kA, .ref kO, .ref kK, .ref kV, .ref kG, .ref kP, .ref kC, .ref kD, .ref kE, .ref kF, .ref kX, .ref kY, .int 0, .ref kT, .ref kU, .int u, .int 0, .int 0]))]) (fun u => []) := by
  refine oP_z (y := yX7_isNetAsked) (cc := cX7_isNetAsked) (maxL := 3) (by decide) rfl (Nat.le_of_ble_eq_true rfl) ?_
  intro p e s m args below meth c ls A Q hx hb hr hml hown hts hN hZ hA hin hlk hP hK hD hl ret
  have hS : va_S A s.heap s.heap [] := va_S.rf
  have hl : lv_has ls 3 [(0, .ref k0), (1, .int p0), (2, .int p1)] := hl
  have hP : va_P (dC, dI) vwCl [(k0, .inr (10, [.ref kN, .ref kA, .ref kO, .ref kK, .ref kV, .ref kG, .ref kP, .ref kC, .ref kD, .ref kE, .ref kF, .ref kX, .ref kY, .int 0, .ref kT, .ref kU, .int 0, .int 0, .int 0])), (kN, .inl (cI, 2, .inl (fun _ => 0)))] _ := hP
  have hD : va_D A [(k0, .inr (10, [.ref kN, .ref kA, .ref kO, .ref kK, .ref kV, .ref kG, .ref kP, .ref kC, .ref kD, .ref kE, .ref kF, .ref kX, .ref kY, .int 0, .ref kT, .ref kU, .int 0, .int 0, .int 0])), (kN, .inl (cI, 2, .inl (fun _ => 0)))] := hD
  refine lv_aload_n hx hb dX7_isNetAsked_0 rfl (lv_at hl 0 rfl) ?_
  refine lv_iload_n hx hb dX7_isNetAsked_1 rfl (lv_at hl 1 rfl) ?_
  have hPc := hP.sub (ws' := []) [] rfl
  have hDc := hD.sub (ws' := []) [] (by decide) rfl
  have hKc := hK.sub (tys' := []) [] rfl
  have hFc := va_free (wc := []) hD hS hA [] rfl
  refine va_calli (va_runS (As := [.int p0]) (rest := [.ref k0]) ⟨hx, hb, hml, hown, hts⟩ (kX7_isCircuit l dC dI p0 s.heap.size) (va_cwS 1 hts gX7_isNetAsked_X7_isCircuit rfl rfl rfl (by decide +kernel) ⟨Nat.le_of_ble_eq_true rfl, Nat.le_of_ble_eq_true rfl⟩) (fPreS hN hZ hS (fun q h => hFc q h) hPc hKc hDc) rfl rfl hl.1 rfl (lv_room (Nat.le_of_ble_eq_true rfl)) dX7_isNetAsked_2 ⟨Nat.le_of_ble_eq_true rfl, Nat.le_of_ble_eq_true rfl⟩) hS (fun q _ h => hFc q h) hFc (fun r u t H1 locs ht hvm hw hB hz1 hk1 hS => ?_)
  obtain ⟨hP1, hK1, hD1⟩ := hB
  rw [ht] at hP1
  have hK1 := va_K.moved hvm.symm hK1
  obtain ⟨hP, hD⟩ := va_join (wr := [(k0, .inr (10, [.ref kN, .ref kA, .ref kO, .ref kK, .ref kV, .ref kG, .ref kP, .ref kC, .ref kD, .ref kE, .ref kF, .ref kX, .ref kY, .int 0, .ref kT, .ref kU, .int 0, .int 0, .int 0])), (kN, .inl (cI, 2, .inl (fun _ => 0)))]) (w1 := []) hP hD [] [0, 1] rfl rfl (by decide) (by decide) hk1 hFc hP1 hD1
  generalize H1 = H at hP hS ⊢
  have hP : va_P (dC, dI) vwCl [(k0, .inr (10, [.ref kN, .ref kA, .ref kO, .ref kK, .ref kV, .ref kG, .ref kP, .ref kC, .ref kD, .ref kE, .ref kF, .ref kX, .ref kY, .int 0, .ref kT, .ref kU, .int 0, .int 0, .int 0])), (kN, .inl (cI, 2, .inl (fun _ => 0)))] _ := hP
  have hD : va_D A [(k0, .inr (10, [.ref kN, .ref kA, .ref kO, .ref kK, .ref kV, .ref kG, .ref kP, .ref kC, .ref kD, .ref kE, .ref kF, .ref kX, .ref kY, .int 0, .ref kT, .ref kU, .int 0, .int 0, .int 0])), (kN, .inl (cI, 2, .inl (fun _ => 0)))] := hD
  rcases hw with ⟨rfl, hc | hc⟩ | ⟨rfl, hc⟩
  · skip
    subst hc
    have hP : va_P (dC, dI) vwCl [(k0, .inr (10, [.ref kN, .ref kA, .ref kO, .ref kK, .ref kV, .ref kG, .ref kP, .ref kC, .ref kD, .ref kE, .ref kF, .ref kX, .ref kY, .int 0, .ref kT, .ref kU, .int 0, .int 0, .int 0])), (kN, .inl (cI, 2, .inl (fun _ => 0)))] _ := hP
    have hD : va_D A [(k0, .inr (10, [.ref kN, .ref kA, .ref kO, .ref kK, .ref kV, .ref kG, .ref kP, .ref kC, .ref kD, .ref kE, .ref kF, .ref kX, .ref kY, .int 0, .ref kT, .ref kU, .int 0, .int 0, .int 0])), (kN, .inl (cI, 2, .inl (fun _ => 0)))] := hD
    refine lv_if_ne (tgt := 12) hx hb dX7_isNetAsked_5 (by decide) (fun _ => ?_) (fun h9 => absurd h9 (by decide))
    refine lv_aload_n hx hb dX7_isNetAsked_12 rfl (lv_at hl 0 rfl) ?_
    refine lv_iload_n hx hb dX7_isNetAsked_13 rfl (lv_at hl 1 rfl) ?_
    refine lv_iload_n hx hb dX7_isNetAsked_14 rfl (lv_at hl 2 rfl) ?_
    have hPc := hP.sub (ws' := [(k0, .inr (10, [.ref kN, .ref kA, .ref kO, .ref kK, .ref kV, .ref kG, .ref kP, .ref kC, .ref kD, .ref kE, .ref kF, .ref kX, .ref kY, .int 0, .ref kT, .ref kU, .int 0, .int 0, .int 0])), (kN, .inl (cI, 2, .inl (fun _ => 0)))]) [0, 1] rfl
    have hDc := hD.sub (ws' := [(k0, .inr (10, [.ref kN, .ref kA, .ref kO, .ref kK, .ref kV, .ref kG, .ref kP, .ref kC, .ref kD, .ref kE, .ref kF, .ref kX, .ref kY, .int 0, .ref kT, .ref kU, .int 0, .int 0, .int 0])), (kN, .inl (cI, 2, .inl (fun _ => 0)))]) [0, 1] (by decide) rfl
    have hKc := hK.sub (tys' := [(cI, .int)]) [0] rfl
    have hFc := va_free (wc := [(k0, .inr (10, [.ref kN, .ref kA, .ref kO, .ref kK, .ref kV, .ref kG, .ref kP, .ref kC, .ref kD, .ref kE, .ref kF, .ref kX, .ref kY, .int 0, .ref kT, .ref kU, .int 0, .int 0, .int 0])), (kN, .inl (cI, 2, .inl (fun _ => 0)))]) hD hS hA [0, 1] rfl
    refine va_calli (va_runV (As := [.int 0, .int p1]) (rest := [.ref k0]) ⟨hx, hb, hml, hown, hts⟩ (kX7_isNet0 l dC dI k0 kN kA kO kK kV kG kP kC kD kE kF kX kY kT kU cI p1 H.size) (cwV 2 hts gX7_isNetAsked_X7_isNet rfl rfl rfl (by decide +kernel) ⟨Nat.le_of_ble_eq_true rfl, Nat.le_of_ble_eq_true rfl⟩) (fPreV hN hZ hS (fun q h => hFc q h) hPc hKc hDc (ci := 10) (q0 := 0) rfl rfl) rfl rfl hl.1 rfl (lv_room (Nat.le_of_ble_eq_true rfl)) dX7_isNetAsked_15 ⟨Nat.le_of_ble_eq_true rfl, Nat.le_of_ble_eq_true rfl⟩) hS (fun q _ h => hFc q h) hFc (fun r u t H1 locs ht hvm hw hB hz1 hk1 hS => ?_)
    obtain ⟨hP1, hK1, hD1⟩ := hB
    rw [ht] at hP1
    have hK1 := va_K.moved hvm.symm hK1
    obtain ⟨hP, hD⟩ := va_join (wr := []) (w1 := [(k0, .inr (10, [.ref kN, .ref kA, .ref kO, .ref kK, .ref kV, .ref kG, .ref kP, .ref kC, .ref kD, .ref kE, .ref kF, .ref kX, .ref kY, .int 0, .ref kT, .ref kU, .int 0, .int 0, .int 0])), (kN, .inl (cI, 2, .inl (fun _ => 0)))]) hP hD [0, 1] [] rfl rfl (by decide) (by decide) hk1 hFc hP1 hD1
    generalize H1 = H at hP hS ⊢
    have hP : va_P (dC, dI) vwCl [(k0, .inr (10, [.ref kN, .ref kA, .ref kO, .ref kK, .ref kV, .ref kG, .ref kP, .ref kC, .ref kD, .ref kE, .ref kF, .ref kX, .ref kY, .int 0, .ref kT, .ref kU, .int 0, .int 0, .int 0])), (kN, .inl (cI, 2, .inl (fun _ => 0)))] _ := hP
    have hD : va_D A [(k0, .inr (10, [.ref kN, .ref kA, .ref kO, .ref kK, .ref kV, .ref kG, .ref kP, .ref kC, .ref kD, .ref kE, .ref kF, .ref kX, .ref kY, .int 0, .ref kT, .ref kU, .int 0, .int 0, .int 0])), (kN, .inl (cI, 2, .inl (fun _ => 0)))] := hD
    subst hw
    refine lv_if_ne (tgt := 25) hx hb dX7_isNetAsked_18 (by decide) (fun h9 => absurd (by decide) h9) (fun _ => ?_)
    refine lv_iconst (v := 2) hx hb dX7_isNetAsked_21 (by decide) ?_
    refine lv_goto (tgt := 26) hx hb dX7_isNetAsked_22 (by decide) ?_
    refine va_put (D := (dC, dI)) (ci := 10) (v := .int 2) (ty := .int) (C := RX7) (T := TX7) (N := 19) hx hb hts (fun w h => List.mem_cons_of_mem _ (List.mem_append_left _ (List.mem_append_right _ (h)))) tyX7 tyX7_ok nmX7 hown hK hP hD hS 0 rfl rfl 16 (by decide) (hts (.fieldLink RX7 57 "NetcompareModel" "thrown" "I") (List.mem_cons_of_mem _ (List.mem_append_left _ (List.mem_append_left _ (List.mem_of_getElem? (i := 0) rfl))))) (fun _ h9 => h9) rfl (by decide +kernel) rfl rfl (Nat.le_of_ble_eq_true rfl) dX7_isNetAsked_26 (fun H locs hP hD hS => ?_)
    have hP : va_P (dC, dI) vwCl [(k0, .inr (10, [.ref kN, .ref kA, .ref kO, .ref kK, .ref kV, .ref kG, .ref kP, .ref kC, .ref kD, .ref kE, .ref kF, .ref kX, .ref kY, .int 0, .ref kT, .ref kU, .int 2, .int 0, .int 0])), (kN, .inl (cI, 2, .inl (fun _ => 0)))] _ := hP
    have hD : va_D A [(k0, .inr (10, [.ref kN, .ref kA, .ref kO, .ref kK, .ref kV, .ref kG, .ref kP, .ref kC, .ref kD, .ref kE, .ref kF, .ref kX, .ref kY, .int 0, .ref kT, .ref kU, .int 2, .int 0, .int 0])), (kN, .inl (cI, 2, .inl (fun _ => 0)))] := hD
    refine lv_aload_n hx hb dX7_isNetAsked_29 rfl (lv_at hl 0 rfl) ?_
    refine va_get (D := (dC, dI)) (ci := 10) (v := .int 2) (C := RX7) (T := TX7) (N := 19) hx hb hts (fun w h => List.mem_cons_of_mem _ (List.mem_append_left _ (List.mem_append_right _ (h)))) hown hK hP 0 rfl rfl 16 (by decide) (hts (.fieldLink RX7 57 "NetcompareModel" "thrown" "I") (List.mem_cons_of_mem _ (List.mem_append_left _ (List.mem_append_left _ (List.mem_of_getElem? (i := 0) rfl))))) (fun _ h9 => h9) rfl dX7_isNetAsked_30 ?_
    refine lv_if_ne (tgt := 40) hx hb dX7_isNetAsked_33 (by decide) (fun _ => ?_) (fun h9 => absurd h9 (by decide))
    refine lv_iconst (v := 0) hx hb dX7_isNetAsked_40 (by decide) ?_
    exact ret _ 2 _ _ _ _ _ _ (rfl) (⟨rfl, Or.inr ⟨rfl, Or.inl (rfl)⟩⟩) (hP.sub [0] rfl) (hK.sub [] rfl) (hD.sub [0] (by decide) rfl) hS (Nat.le_of_ble_eq_true rfl) (Nat.le_of_ble_eq_true rfl) dX7_isNetAsked_41
  · skip
    subst hc
    have hP : va_P (dC, dI) vwCl [(k0, .inr (10, [.ref kN, .ref kA, .ref kO, .ref kK, .ref kV, .ref kG, .ref kP, .ref kC, .ref kD, .ref kE, .ref kF, .ref kX, .ref kY, .int 0, .ref kT, .ref kU, .int 0, .int 0, .int 0])), (kN, .inl (cI, 2, .inl (fun _ => 0)))] _ := hP
    have hD : va_D A [(k0, .inr (10, [.ref kN, .ref kA, .ref kO, .ref kK, .ref kV, .ref kG, .ref kP, .ref kC, .ref kD, .ref kE, .ref kF, .ref kX, .ref kY, .int 0, .ref kT, .ref kU, .int 0, .int 0, .int 0])), (kN, .inl (cI, 2, .inl (fun _ => 0)))] := hD
    refine lv_if_ne (tgt := 12) hx hb dX7_isNetAsked_5 (by decide) (fun _ => ?_) (fun h9 => absurd h9 (by decide))
    refine lv_aload_n hx hb dX7_isNetAsked_12 rfl (lv_at hl 0 rfl) ?_
    refine lv_iload_n hx hb dX7_isNetAsked_13 rfl (lv_at hl 1 rfl) ?_
    refine lv_iload_n hx hb dX7_isNetAsked_14 rfl (lv_at hl 2 rfl) ?_
    have hPc := hP.sub (ws' := [(k0, .inr (10, [.ref kN, .ref kA, .ref kO, .ref kK, .ref kV, .ref kG, .ref kP, .ref kC, .ref kD, .ref kE, .ref kF, .ref kX, .ref kY, .int 0, .ref kT, .ref kU, .int 0, .int 0, .int 0])), (kN, .inl (cI, 2, .inl (fun _ => 0)))]) [0, 1] rfl
    have hDc := hD.sub (ws' := [(k0, .inr (10, [.ref kN, .ref kA, .ref kO, .ref kK, .ref kV, .ref kG, .ref kP, .ref kC, .ref kD, .ref kE, .ref kF, .ref kX, .ref kY, .int 0, .ref kT, .ref kU, .int 0, .int 0, .int 0])), (kN, .inl (cI, 2, .inl (fun _ => 0)))]) [0, 1] (by decide) rfl
    have hKc := hK.sub (tys' := [(cI, .int)]) [0] rfl
    have hFc := va_free (wc := [(k0, .inr (10, [.ref kN, .ref kA, .ref kO, .ref kK, .ref kV, .ref kG, .ref kP, .ref kC, .ref kD, .ref kE, .ref kF, .ref kX, .ref kY, .int 0, .ref kT, .ref kU, .int 0, .int 0, .int 0])), (kN, .inl (cI, 2, .inl (fun _ => 0)))]) hD hS hA [0, 1] rfl
    refine va_calli (va_runV (As := [.int 1, .int p1]) (rest := [.ref k0]) ⟨hx, hb, hml, hown, hts⟩ (kX7_isNet1 l dC dI k0 kN kA kO kK kV kG kP kC kD kE kF kX kY kT kU cI p1 H.size) (cwV 2 hts gX7_isNetAsked_X7_isNet rfl rfl rfl (by decide +kernel) ⟨Nat.le_of_ble_eq_true rfl, Nat.le_of_ble_eq_true rfl⟩) (fPreV hN hZ hS (fun q h => hFc q h) hPc hKc hDc (ci := 10) (q0 := 0) rfl rfl) rfl rfl hl.1 rfl (lv_room (Nat.le_of_ble_eq_true rfl)) dX7_isNetAsked_15 ⟨Nat.le_of_ble_eq_true rfl, Nat.le_of_ble_eq_true rfl⟩) hS (fun q _ h => hFc q h) hFc (fun r u t H1 locs ht hvm hw hB hz1 hk1 hS => ?_)
    obtain ⟨hP1, hK1, hD1⟩ := hB
    rw [ht] at hP1
    have hK1 := va_K.moved hvm.symm hK1
    obtain ⟨hP, hD⟩ := va_join (wr := []) (w1 := [(k0, .inr (10, [.ref kN, .ref kA, .ref kO, .ref kK, .ref kV, .ref kG, .ref kP, .ref kC, .ref kD, .ref kE, .ref kF, .ref kX, .ref kY, .int 0, .ref kT, .ref kU, .int 0, .int 0, .int 0])), (kN, .inl (cI, 2, .inl (fun _ => 0)))]) hP hD [0, 1] [] rfl rfl (by decide) (by decide) hk1 hFc hP1 hD1
    generalize H1 = H at hP hS ⊢
    have hP : va_P (dC, dI) vwCl [(k0, .inr (10, [.ref kN, .ref kA, .ref kO, .ref kK, .ref kV, .ref kG, .ref kP, .ref kC, .ref kD, .ref kE, .ref kF, .ref kX, .ref kY, .int 0, .ref kT, .ref kU, .int 0, .int 0, .int 0])), (kN, .inl (cI, 2, .inl (fun _ => 0)))] _ := hP
    have hD : va_D A [(k0, .inr (10, [.ref kN, .ref kA, .ref kO, .ref kK, .ref kV, .ref kG, .ref kP, .ref kC, .ref kD, .ref kE, .ref kF, .ref kX, .ref kY, .int 0, .ref kT, .ref kU, .int 0, .int 0, .int 0])), (kN, .inl (cI, 2, .inl (fun _ => 0)))] := hD
    subst hw
    refine lv_if_ne (tgt := 25) hx hb dX7_isNetAsked_18 (by decide) (fun h9 => absurd (by decide) h9) (fun _ => ?_)
    refine lv_iconst (v := 2) hx hb dX7_isNetAsked_21 (by decide) ?_
    refine lv_goto (tgt := 26) hx hb dX7_isNetAsked_22 (by decide) ?_
    refine va_put (D := (dC, dI)) (ci := 10) (v := .int 2) (ty := .int) (C := RX7) (T := TX7) (N := 19) hx hb hts (fun w h => List.mem_cons_of_mem _ (List.mem_append_left _ (List.mem_append_right _ (h)))) tyX7 tyX7_ok nmX7 hown hK hP hD hS 0 rfl rfl 16 (by decide) (hts (.fieldLink RX7 57 "NetcompareModel" "thrown" "I") (List.mem_cons_of_mem _ (List.mem_append_left _ (List.mem_append_left _ (List.mem_of_getElem? (i := 0) rfl))))) (fun _ h9 => h9) rfl (by decide +kernel) rfl rfl (Nat.le_of_ble_eq_true rfl) dX7_isNetAsked_26 (fun H locs hP hD hS => ?_)
    have hP : va_P (dC, dI) vwCl [(k0, .inr (10, [.ref kN, .ref kA, .ref kO, .ref kK, .ref kV, .ref kG, .ref kP, .ref kC, .ref kD, .ref kE, .ref kF, .ref kX, .ref kY, .int 0, .ref kT, .ref kU, .int 2, .int 0, .int 0])), (kN, .inl (cI, 2, .inl (fun _ => 0)))] _ := hP
    have hD : va_D A [(k0, .inr (10, [.ref kN, .ref kA, .ref kO, .ref kK, .ref kV, .ref kG, .ref kP, .ref kC, .ref kD, .ref kE, .ref kF, .ref kX, .ref kY, .int 0, .ref kT, .ref kU, .int 2, .int 0, .int 0])), (kN, .inl (cI, 2, .inl (fun _ => 0)))] := hD
    refine lv_aload_n hx hb dX7_isNetAsked_29 rfl (lv_at hl 0 rfl) ?_
    refine va_get (D := (dC, dI)) (ci := 10) (v := .int 2) (C := RX7) (T := TX7) (N := 19) hx hb hts (fun w h => List.mem_cons_of_mem _ (List.mem_append_left _ (List.mem_append_right _ (h)))) hown hK hP 0 rfl rfl 16 (by decide) (hts (.fieldLink RX7 57 "NetcompareModel" "thrown" "I") (List.mem_cons_of_mem _ (List.mem_append_left _ (List.mem_append_left _ (List.mem_of_getElem? (i := 0) rfl))))) (fun _ h9 => h9) rfl dX7_isNetAsked_30 ?_
    refine lv_if_ne (tgt := 40) hx hb dX7_isNetAsked_33 (by decide) (fun _ => ?_) (fun h9 => absurd h9 (by decide))
    refine lv_iconst (v := 0) hx hb dX7_isNetAsked_40 (by decide) ?_
    exact ret _ 2 _ _ _ _ _ _ (rfl) (⟨rfl, Or.inr ⟨rfl, Or.inr (rfl)⟩⟩) (hP.sub [0] rfl) (hK.sub [] rfl) (hD.sub [0] (by decide) rfl) hS (Nat.le_of_ble_eq_true rfl) (Nat.le_of_ble_eq_true rfl) dX7_isNetAsked_41
  · skip
    have hc1 := hc
    refine lv_if_ne (tgt := 12) hx hb dX7_isNetAsked_5 (by decide) (fun h9 => absurd (by decide) h9) (fun _ => ?_)
    refine lv_iconst (v := 1) hx hb dX7_isNetAsked_8 (by decide) ?_
    refine lv_goto (tgt := 26) hx hb dX7_isNetAsked_9 (by decide) ?_
    refine va_put (D := (dC, dI)) (ci := 10) (v := .int 1) (ty := .int) (C := RX7) (T := TX7) (N := 19) hx hb hts (fun w h => List.mem_cons_of_mem _ (List.mem_append_left _ (List.mem_append_right _ (h)))) tyX7 tyX7_ok nmX7 hown hK hP hD hS 0 rfl rfl 16 (by decide) (hts (.fieldLink RX7 57 "NetcompareModel" "thrown" "I") (List.mem_cons_of_mem _ (List.mem_append_left _ (List.mem_append_left _ (List.mem_of_getElem? (i := 0) rfl))))) (fun _ h9 => h9) rfl (by decide +kernel) rfl rfl (Nat.le_of_ble_eq_true rfl) dX7_isNetAsked_26 (fun H locs hP hD hS => ?_)
    have hP : va_P (dC, dI) vwCl [(k0, .inr (10, [.ref kN, .ref kA, .ref kO, .ref kK, .ref kV, .ref kG, .ref kP, .ref kC, .ref kD, .ref kE, .ref kF, .ref kX, .ref kY, .int 0, .ref kT, .ref kU, .int 1, .int 0, .int 0])), (kN, .inl (cI, 2, .inl (fun _ => 0)))] _ := hP
    have hD : va_D A [(k0, .inr (10, [.ref kN, .ref kA, .ref kO, .ref kK, .ref kV, .ref kG, .ref kP, .ref kC, .ref kD, .ref kE, .ref kF, .ref kX, .ref kY, .int 0, .ref kT, .ref kU, .int 1, .int 0, .int 0])), (kN, .inl (cI, 2, .inl (fun _ => 0)))] := hD
    refine lv_aload_n hx hb dX7_isNetAsked_29 rfl (lv_at hl 0 rfl) ?_
    refine va_get (D := (dC, dI)) (ci := 10) (v := .int 1) (C := RX7) (T := TX7) (N := 19) hx hb hts (fun w h => List.mem_cons_of_mem _ (List.mem_append_left _ (List.mem_append_right _ (h)))) hown hK hP 0 rfl rfl 16 (by decide) (hts (.fieldLink RX7 57 "NetcompareModel" "thrown" "I") (List.mem_cons_of_mem _ (List.mem_append_left _ (List.mem_append_left _ (List.mem_of_getElem? (i := 0) rfl))))) (fun _ h9 => h9) rfl dX7_isNetAsked_30 ?_
    refine lv_if_ne (tgt := 40) hx hb dX7_isNetAsked_33 (by decide) (fun _ => ?_) (fun h9 => absurd h9 (by decide))
    refine lv_iconst (v := 0) hx hb dX7_isNetAsked_40 (by decide) ?_
    exact ret _ 1 _ _ _ _ _ _ (rfl) (⟨rfl, Or.inl ⟨rfl, hc1⟩⟩) (hP.sub [0] rfl) (hK.sub [] rfl) (hD.sub [0] (by decide) rfl) hS (Nat.le_of_ble_eq_true rfl) (Nat.le_of_ble_eq_true rfl) dX7_isNetAsked_41

set_option maxHeartbeats 4000000 in
set_option maxRecDepth 100000 in
/-- the model: addNet on a fresh one -/
theorem kX7_addNet (l : Launch) (dC : Nat → ClassId) (dI : Nat → Nat → Nat) (k0 kN kA kO kK kV kG kP kC kD kE kF kX kY kT kU : Nat) (cI cC : ClassId) (p0 : Int32) (sz : Nat) : fMi l yX7_addNet wsX7_addNet ({ frames := 1, cells := 0, slots := 0, locals := 20 } : Room) dC dI [.ref k0, .int p0] [(k0, .inr (10, [.ref kN, .ref kA, .ref kO, .ref kK, .ref kV, .ref kG, .ref kP, .ref kC, .ref kD, .ref kE, .ref kF, .ref kX, .ref kY, .int 0, .ref kT, .ref kU, .int 0, .int 0, .int 0])), (kN, .inl (cI, 2, .inl (fun _ => 0))), (kA, .inl (cI, 2, .inl (fun _ => 0))), (kO, .inl (cC, 20, .inl (fun _ => 0)))] [(cI, .int), (cC, .char)] sz (fun (r : Int32) (u : Int32) => u = 0 ∧ r = 0 ∧ ((p0 = 0) ∨ (p0 = 1)) ∨ u = 1 ∧ (¬ ((p0 = 0) ∨ (p0 = 1)))) (fun u => [(k0, .inr (10, [.ref kN, .ref kA, .ref kO, .ref kK, .ref kV, .ref kG, .ref kP, .ref kC, .ref kD, .ref kE, .ref kF, .ref kX, .ref kY, .int 0, .ref kT, .ref kU, .int u, .int 0, .int 0]))]) (fun u => []) := by
  refine oP_i (y := yX7_addNet) (cc := cX7_addNet) (maxL := 2) (by decide) rfl (Nat.le_of_ble_eq_true rfl) ?_
  intro p e s m args below meth c ls A Q hx hb hr hml hown hts hN hZ hA hin hlk hP hK hD hl ret
  have hS : va_S A s.heap s.heap [] := va_S.rf
  have hl : lv_has ls 2 [(0, .ref k0), (1, .int p0)] := hl
  have hP : va_P (dC, dI) vwCl [(k0, .inr (10, [.ref kN, .ref kA, .ref kO, .ref kK, .ref kV, .ref kG, .ref kP, .ref kC, .ref kD, .ref kE, .ref kF, .ref kX, .ref kY, .int 0, .ref kT, .ref kU, .int 0, .int 0, .int 0])), (kN, .inl (cI, 2, .inl (fun _ => 0))), (kA, .inl (cI, 2, .inl (fun _ => 0))), (kO, .inl (cC, 20, .inl (fun _ => 0)))] _ := hP
  have hD : va_D A [(k0, .inr (10, [.ref kN, .ref kA, .ref kO, .ref kK, .ref kV, .ref kG, .ref kP, .ref kC, .ref kD, .ref kE, .ref kF, .ref kX, .ref kY, .int 0, .ref kT, .ref kU, .int 0, .int 0, .int 0])), (kN, .inl (cI, 2, .inl (fun _ => 0))), (kA, .inl (cI, 2, .inl (fun _ => 0))), (kO, .inl (cC, 20, .inl (fun _ => 0)))] := hD
  refine lv_aload_n hx hb dX7_addNet_0 rfl (lv_at hl 0 rfl) ?_
  refine lv_iload_n hx hb dX7_addNet_1 rfl (lv_at hl 1 rfl) ?_
  have hPc := hP.sub (ws' := []) [] rfl
  have hDc := hD.sub (ws' := []) [] (by decide) rfl
  have hKc := hK.sub (tys' := []) [] rfl
  have hFc := va_free (wc := []) hD hS hA [] rfl
  refine va_calli (va_runS (As := [.int p0]) (rest := [.ref k0]) ⟨hx, hb, hml, hown, hts⟩ (kX7_isCircuit l dC dI p0 s.heap.size) (va_cwS 1 hts gX7_addNet_X7_isCircuit rfl rfl rfl (by decide +kernel) ⟨Nat.le_of_ble_eq_true rfl, Nat.le_of_ble_eq_true rfl⟩) (fPreS hN hZ hS (fun q h => hFc q h) hPc hKc hDc) rfl rfl hl.1 rfl (lv_room (Nat.le_of_ble_eq_true rfl)) dX7_addNet_2 ⟨Nat.le_of_ble_eq_true rfl, Nat.le_of_ble_eq_true rfl⟩) hS (fun q _ h => hFc q h) hFc (fun r u t H1 locs ht hvm hw hB hz1 hk1 hS => ?_)
  obtain ⟨hP1, hK1, hD1⟩ := hB
  rw [ht] at hP1
  have hK1 := va_K.moved hvm.symm hK1
  obtain ⟨hP, hD⟩ := va_join (wr := [(k0, .inr (10, [.ref kN, .ref kA, .ref kO, .ref kK, .ref kV, .ref kG, .ref kP, .ref kC, .ref kD, .ref kE, .ref kF, .ref kX, .ref kY, .int 0, .ref kT, .ref kU, .int 0, .int 0, .int 0])), (kN, .inl (cI, 2, .inl (fun _ => 0))), (kA, .inl (cI, 2, .inl (fun _ => 0))), (kO, .inl (cC, 20, .inl (fun _ => 0)))]) (w1 := []) hP hD [] [0, 1, 2, 3] rfl rfl (by decide) (by decide) hk1 hFc hP1 hD1
  generalize H1 = H at hP hS ⊢
  have hP : va_P (dC, dI) vwCl [(k0, .inr (10, [.ref kN, .ref kA, .ref kO, .ref kK, .ref kV, .ref kG, .ref kP, .ref kC, .ref kD, .ref kE, .ref kF, .ref kX, .ref kY, .int 0, .ref kT, .ref kU, .int 0, .int 0, .int 0])), (kN, .inl (cI, 2, .inl (fun _ => 0))), (kA, .inl (cI, 2, .inl (fun _ => 0))), (kO, .inl (cC, 20, .inl (fun _ => 0)))] _ := hP
  have hD : va_D A [(k0, .inr (10, [.ref kN, .ref kA, .ref kO, .ref kK, .ref kV, .ref kG, .ref kP, .ref kC, .ref kD, .ref kE, .ref kF, .ref kX, .ref kY, .int 0, .ref kT, .ref kU, .int 0, .int 0, .int 0])), (kN, .inl (cI, 2, .inl (fun _ => 0))), (kA, .inl (cI, 2, .inl (fun _ => 0))), (kO, .inl (cC, 20, .inl (fun _ => 0)))] := hD
  rcases hw with ⟨rfl, hc | hc⟩ | ⟨rfl, hc⟩
  · skip
    subst hc
    have hP : va_P (dC, dI) vwCl [(k0, .inr (10, [.ref kN, .ref kA, .ref kO, .ref kK, .ref kV, .ref kG, .ref kP, .ref kC, .ref kD, .ref kE, .ref kF, .ref kX, .ref kY, .int 0, .ref kT, .ref kU, .int 0, .int 0, .int 0])), (kN, .inl (cI, 2, .inl (fun _ => 0))), (kA, .inl (cI, 2, .inl (fun _ => 0))), (kO, .inl (cC, 20, .inl (fun _ => 0)))] _ := hP
    have hD : va_D A [(k0, .inr (10, [.ref kN, .ref kA, .ref kO, .ref kK, .ref kV, .ref kG, .ref kP, .ref kC, .ref kD, .ref kE, .ref kF, .ref kX, .ref kY, .int 0, .ref kT, .ref kU, .int 0, .int 0, .int 0])), (kN, .inl (cI, 2, .inl (fun _ => 0))), (kA, .inl (cI, 2, .inl (fun _ => 0))), (kO, .inl (cC, 20, .inl (fun _ => 0)))] := hD
    refine lv_if_ne (tgt := 12) hx hb dX7_addNet_5 (by decide) (fun _ => ?_) (fun h9 => absurd h9 (by decide))
    refine lv_aload_n hx hb dX7_addNet_12 rfl (lv_at hl 0 rfl) ?_
    refine va_get (D := (dC, dI)) (ci := 10) (v := .ref kN) (C := RX7) (T := TX7) (N := 19) hx hb hts (fun w h => List.mem_cons_of_mem _ (List.mem_append_left _ (List.mem_append_right _ (h)))) hown hK hP 0 rfl rfl 0 (by decide) (hts (.fieldLink RX7 7 "NetcompareModel" "nets" "[I") (List.mem_cons_of_mem _ (List.mem_append_left _ (List.mem_append_left _ (List.mem_of_getElem? (i := 0) rfl))))) (fun _ h9 => h9) rfl dX7_addNet_13 ?_
    refine lv_iload_n hx hb dX7_addNet_16 rfl (lv_at hl 1 rfl) ?_
    refine va_iald hx hb hK hP 1 0 rfl rfl (show ¬ (_ ∨ _) by decide) dX7_addNet_17 ?_
    refine W.eq (g2 := F0 m 18 ls [.int 0, .ref k0]) rfl ?_
    refine lv_bipush (v := 10) hx hb dX7_addNet_18 (by decide) ?_
    refine lv_icmp_ne (tgt := 27) hx hb dX7_addNet_20 (by decide) (fun _ => ?_) (fun h9 => absurd h9 (by decide))
    refine lv_iconst (v := 0) hx hb dX7_addNet_27 (by decide) ?_
    refine va_put (D := (dC, dI)) (ci := 10) (v := .int 0) (ty := .int) (C := RX7) (T := TX7) (N := 19) hx hb hts (fun w h => List.mem_cons_of_mem _ (List.mem_append_left _ (List.mem_append_right _ (h)))) tyX7 tyX7_ok nmX7 hown hK hP hD hS 0 rfl rfl 16 (by decide) (hts (.fieldLink RX7 57 "NetcompareModel" "thrown" "I") (List.mem_cons_of_mem _ (List.mem_append_left _ (List.mem_append_left _ (List.mem_of_getElem? (i := 1) rfl))))) (fun _ h9 => h9) rfl (by decide +kernel) rfl rfl (Nat.le_of_ble_eq_true rfl) dX7_addNet_28 (fun H locs hP hD hS => ?_)
    have hP : va_P (dC, dI) vwCl [(k0, .inr (10, [.ref kN, .ref kA, .ref kO, .ref kK, .ref kV, .ref kG, .ref kP, .ref kC, .ref kD, .ref kE, .ref kF, .ref kX, .ref kY, .int 0, .ref kT, .ref kU, .int 0, .int 0, .int 0])), (kN, .inl (cI, 2, .inl (fun _ => 0))), (kA, .inl (cI, 2, .inl (fun _ => 0))), (kO, .inl (cC, 20, .inl (fun _ => 0)))] _ := hP
    have hD : va_D A [(k0, .inr (10, [.ref kN, .ref kA, .ref kO, .ref kK, .ref kV, .ref kG, .ref kP, .ref kC, .ref kD, .ref kE, .ref kF, .ref kX, .ref kY, .int 0, .ref kT, .ref kU, .int 0, .int 0, .int 0])), (kN, .inl (cI, 2, .inl (fun _ => 0))), (kA, .inl (cI, 2, .inl (fun _ => 0))), (kO, .inl (cC, 20, .inl (fun _ => 0)))] := hD
    refine lv_aload_n hx hb dX7_addNet_31 rfl (lv_at hl 0 rfl) ?_
    refine va_get (D := (dC, dI)) (ci := 10) (v := .int 0) (C := RX7) (T := TX7) (N := 19) hx hb hts (fun w h => List.mem_cons_of_mem _ (List.mem_append_left _ (List.mem_append_right _ (h)))) hown hK hP 0 rfl rfl 16 (by decide) (hts (.fieldLink RX7 57 "NetcompareModel" "thrown" "I") (List.mem_cons_of_mem _ (List.mem_append_left _ (List.mem_append_left _ (List.mem_of_getElem? (i := 1) rfl))))) (fun _ h9 => h9) rfl dX7_addNet_32 ?_
    refine lv_if_le (tgt := 40) hx hb dX7_addNet_35 (by decide) (fun _ => ?_) (fun h9 => absurd (by decide) h9)
    refine lv_aload_n hx hb dX7_addNet_40 rfl (lv_at hl 0 rfl) ?_
    refine va_get (D := (dC, dI)) (ci := 10) (v := .ref kO) (C := RX7) (T := TX7) (N := 19) hx hb hts (fun w h => List.mem_cons_of_mem _ (List.mem_append_left _ (List.mem_append_right _ (h)))) hown hK hP 0 rfl rfl 2 (by decide) (hts (.fieldLink RX7 16 "NetcompareModel" "ports" "[C") (List.mem_cons_of_mem _ (List.mem_append_left _ (List.mem_append_left _ (List.mem_of_getElem? (i := 2) rfl))))) (fun _ h9 => h9) rfl dX7_addNet_41 ?_
    refine lv_bipush (v := 10) hx hb dX7_addNet_44 (by decide) ?_
    refine lv_iload_n hx hb dX7_addNet_46 rfl (lv_at hl 1 rfl) ?_
    refine lv_imul hx hb dX7_addNet_47 ?_
    refine lv_topi (fun y1 ey1 => ?_)
    obtain rfl : y1 = 0 := ey1.trans (by decide)
    refine lv_aload_n hx hb dX7_addNet_48 rfl (lv_at hl 0 rfl) ?_
    refine va_get (D := (dC, dI)) (ci := 10) (v := .ref kN) (C := RX7) (T := TX7) (N := 19) hx hb hts (fun w h => List.mem_cons_of_mem _ (List.mem_append_left _ (List.mem_append_right _ (h)))) hown hK hP 0 rfl rfl 0 (by decide) (hts (.fieldLink RX7 7 "NetcompareModel" "nets" "[I") (List.mem_cons_of_mem _ (List.mem_append_left _ (List.mem_append_left _ (List.mem_of_getElem? (i := 0) rfl))))) (fun _ h9 => h9) rfl dX7_addNet_49 ?_
    refine lv_iload_n hx hb dX7_addNet_52 rfl (lv_at hl 1 rfl) ?_
    refine va_iald hx hb hK hP 1 0 rfl rfl (show ¬ (_ ∨ _) by decide) dX7_addNet_53 ?_
    refine W.eq (g2 := F0 m 54 ls [.int 0, .int 0, .ref kO]) rfl ?_
    refine lv_iadd hx hb dX7_addNet_54 ?_
    refine lv_topi (fun y2 ey2 => ?_)
    obtain rfl : y2 = 0 := ey2.trans (by decide)
    refine lv_bipush (v := 45) hx hb dX7_addNet_55 (by decide) ?_
    refine va_cast hx hb hK hP hD hS 3 1 rfl rfl (show ¬ (_ ∨ _) by decide) dX7_addNet_57 (fun H locs hP hD hS => ?_)
    have hP : va_P (dC, dI) vwCl [(k0, .inr (10, [.ref kN, .ref kA, .ref kO, .ref kK, .ref kV, .ref kG, .ref kP, .ref kC, .ref kD, .ref kE, .ref kF, .ref kX, .ref kY, .int 0, .ref kT, .ref kU, .int 0, .int 0, .int 0])), (kN, .inl (cI, 2, .inl (fun _ => 0))), (kA, .inl (cI, 2, .inl (fun _ => 0))), (kO, .inl (cC, 20, .inl (upd (fun _ => 0) 0 (vp_nar .char 45))))] _ := hP
    have hD : va_D A [(k0, .inr (10, [.ref kN, .ref kA, .ref kO, .ref kK, .ref kV, .ref kG, .ref kP, .ref kC, .ref kD, .ref kE, .ref kF, .ref kX, .ref kY, .int 0, .ref kT, .ref kU, .int 0, .int 0, .int 0])), (kN, .inl (cI, 2, .inl (fun _ => 0))), (kA, .inl (cI, 2, .inl (fun _ => 0))), (kO, .inl (cC, 20, .inl (upd (fun _ => 0) 0 (vp_nar .char 45))))] := hD
    rw [show vp_nar .char 45 = 45 from rfl] at hP hD
    have hP : va_P (dC, dI) vwCl [(k0, .inr (10, [.ref kN, .ref kA, .ref kO, .ref kK, .ref kV, .ref kG, .ref kP, .ref kC, .ref kD, .ref kE, .ref kF, .ref kX, .ref kY, .int 0, .ref kT, .ref kU, .int 0, .int 0, .int 0])), (kN, .inl (cI, 2, .inl (fun _ => 0))), (kA, .inl (cI, 2, .inl (fun _ => 0))), (kO, .inl (cC, 20, .inl (upd (fun _ => 0) 0 45)))] _ := hP
    have hD : va_D A [(k0, .inr (10, [.ref kN, .ref kA, .ref kO, .ref kK, .ref kV, .ref kG, .ref kP, .ref kC, .ref kD, .ref kE, .ref kF, .ref kX, .ref kY, .int 0, .ref kT, .ref kU, .int 0, .int 0, .int 0])), (kN, .inl (cI, 2, .inl (fun _ => 0))), (kA, .inl (cI, 2, .inl (fun _ => 0))), (kO, .inl (cC, 20, .inl (upd (fun _ => 0) 0 45)))] := hD
    refine lv_aload_n hx hb dX7_addNet_58 rfl (lv_at hl 0 rfl) ?_
    refine va_get (D := (dC, dI)) (ci := 10) (v := .ref kN) (C := RX7) (T := TX7) (N := 19) hx hb hts (fun w h => List.mem_cons_of_mem _ (List.mem_append_left _ (List.mem_append_right _ (h)))) hown hK hP 0 rfl rfl 0 (by decide) (hts (.fieldLink RX7 7 "NetcompareModel" "nets" "[I") (List.mem_cons_of_mem _ (List.mem_append_left _ (List.mem_append_left _ (List.mem_of_getElem? (i := 0) rfl))))) (fun _ h9 => h9) rfl dX7_addNet_59 ?_
    refine lv_iload_n hx hb dX7_addNet_62 rfl (lv_at hl 1 rfl) ?_
    refine lv_dup2_11 hx hb dX7_addNet_63 rfl rfl ?_
    refine va_iald hx hb hK hP 1 0 rfl rfl (show ¬ (_ ∨ _) by decide) dX7_addNet_64 ?_
    refine W.eq (g2 := F0 m 65 ls [.int 0, .int 0, .ref kN]) rfl ?_
    refine lv_iconst (v := 1) hx hb dX7_addNet_65 (by decide) ?_
    refine lv_iadd hx hb dX7_addNet_66 ?_
    refine lv_topi (fun y3 ey3 => ?_)
    obtain rfl : y3 = 1 := ey3.trans (by decide)
    refine va_iast hx hb hK hP hD hS 1 0 rfl rfl (show ¬ (_ ∨ _) by decide) dX7_addNet_67 (fun H locs hP hD hS => ?_)
    have hP : va_P (dC, dI) vwCl [(k0, .inr (10, [.ref kN, .ref kA, .ref kO, .ref kK, .ref kV, .ref kG, .ref kP, .ref kC, .ref kD, .ref kE, .ref kF, .ref kX, .ref kY, .int 0, .ref kT, .ref kU, .int 0, .int 0, .int 0])), (kN, .inl (cI, 2, .inl (upd (fun _ => 0) 0 1))), (kA, .inl (cI, 2, .inl (fun _ => 0))), (kO, .inl (cC, 20, .inl (upd (fun _ => 0) 0 45)))] _ := hP
    have hD : va_D A [(k0, .inr (10, [.ref kN, .ref kA, .ref kO, .ref kK, .ref kV, .ref kG, .ref kP, .ref kC, .ref kD, .ref kE, .ref kF, .ref kX, .ref kY, .int 0, .ref kT, .ref kU, .int 0, .int 0, .int 0])), (kN, .inl (cI, 2, .inl (upd (fun _ => 0) 0 1))), (kA, .inl (cI, 2, .inl (fun _ => 0))), (kO, .inl (cC, 20, .inl (upd (fun _ => 0) 0 45)))] := hD
    refine lv_aload_n hx hb dX7_addNet_68 rfl (lv_at hl 0 rfl) ?_
    refine va_get (D := (dC, dI)) (ci := 10) (v := .ref kN) (C := RX7) (T := TX7) (N := 19) hx hb hts (fun w h => List.mem_cons_of_mem _ (List.mem_append_left _ (List.mem_append_right _ (h)))) hown hK hP 0 rfl rfl 0 (by decide) (hts (.fieldLink RX7 7 "NetcompareModel" "nets" "[I") (List.mem_cons_of_mem _ (List.mem_append_left _ (List.mem_append_left _ (List.mem_of_getElem? (i := 0) rfl))))) (fun _ h9 => h9) rfl dX7_addNet_69 ?_
    refine lv_iload_n hx hb dX7_addNet_72 rfl (lv_at hl 1 rfl) ?_
    refine va_iald hx hb hK hP 1 0 rfl rfl (show ¬ (_ ∨ _) by decide) dX7_addNet_73 ?_
    refine W.eq (g2 := F0 m 74 ls [.int 1]) rfl ?_
    refine lv_iconst (v := 1) hx hb dX7_addNet_74 (by decide) ?_
    refine lv_isub hx hb dX7_addNet_75 ?_
    refine lv_topi (fun y4 ey4 => ?_)
    obtain rfl : y4 = 0 := ey4.trans (by decide)
    exact ret _ 0 _ _ _ _ _ _ (Or.inl (⟨rfl, rfl, Or.inl (rfl)⟩)) (hP.sub [0] rfl) (hK.sub [] rfl) (hD.sub [0] (by decide) rfl) hS (Nat.le_of_ble_eq_true rfl) (Nat.le_of_ble_eq_true rfl) dX7_addNet_76
  · skip
    subst hc
    have hP : va_P (dC, dI) vwCl [(k0, .inr (10, [.ref kN, .ref kA, .ref kO, .ref kK, .ref kV, .ref kG, .ref kP, .ref kC, .ref kD, .ref kE, .ref kF, .ref kX, .ref kY, .int 0, .ref kT, .ref kU, .int 0, .int 0, .int 0])), (kN, .inl (cI, 2, .inl (fun _ => 0))), (kA, .inl (cI, 2, .inl (fun _ => 0))), (kO, .inl (cC, 20, .inl (fun _ => 0)))] _ := hP
    have hD : va_D A [(k0, .inr (10, [.ref kN, .ref kA, .ref kO, .ref kK, .ref kV, .ref kG, .ref kP, .ref kC, .ref kD, .ref kE, .ref kF, .ref kX, .ref kY, .int 0, .ref kT, .ref kU, .int 0, .int 0, .int 0])), (kN, .inl (cI, 2, .inl (fun _ => 0))), (kA, .inl (cI, 2, .inl (fun _ => 0))), (kO, .inl (cC, 20, .inl (fun _ => 0)))] := hD
    refine lv_if_ne (tgt := 12) hx hb dX7_addNet_5 (by decide) (fun _ => ?_) (fun h9 => absurd h9 (by decide))
    refine lv_aload_n hx hb dX7_addNet_12 rfl (lv_at hl 0 rfl) ?_
    refine va_get (D := (dC, dI)) (ci := 10) (v := .ref kN) (C := RX7) (T := TX7) (N := 19) hx hb hts (fun w h => List.mem_cons_of_mem _ (List.mem_append_left _ (List.mem_append_right _ (h)))) hown hK hP 0 rfl rfl 0 (by decide) (hts (.fieldLink RX7 7 "NetcompareModel" "nets" "[I") (List.mem_cons_of_mem _ (List.mem_append_left _ (List.mem_append_left _ (List.mem_of_getElem? (i := 0) rfl))))) (fun _ h9 => h9) rfl dX7_addNet_13 ?_
    refine lv_iload_n hx hb dX7_addNet_16 rfl (lv_at hl 1 rfl) ?_
    refine va_iald hx hb hK hP 1 0 rfl rfl (show ¬ (_ ∨ _) by decide) dX7_addNet_17 ?_
    refine W.eq (g2 := F0 m 18 ls [.int 0, .ref k0]) rfl ?_
    refine lv_bipush (v := 10) hx hb dX7_addNet_18 (by decide) ?_
    refine lv_icmp_ne (tgt := 27) hx hb dX7_addNet_20 (by decide) (fun _ => ?_) (fun h9 => absurd h9 (by decide))
    refine lv_iconst (v := 0) hx hb dX7_addNet_27 (by decide) ?_
    refine va_put (D := (dC, dI)) (ci := 10) (v := .int 0) (ty := .int) (C := RX7) (T := TX7) (N := 19) hx hb hts (fun w h => List.mem_cons_of_mem _ (List.mem_append_left _ (List.mem_append_right _ (h)))) tyX7 tyX7_ok nmX7 hown hK hP hD hS 0 rfl rfl 16 (by decide) (hts (.fieldLink RX7 57 "NetcompareModel" "thrown" "I") (List.mem_cons_of_mem _ (List.mem_append_left _ (List.mem_append_left _ (List.mem_of_getElem? (i := 1) rfl))))) (fun _ h9 => h9) rfl (by decide +kernel) rfl rfl (Nat.le_of_ble_eq_true rfl) dX7_addNet_28 (fun H locs hP hD hS => ?_)
    have hP : va_P (dC, dI) vwCl [(k0, .inr (10, [.ref kN, .ref kA, .ref kO, .ref kK, .ref kV, .ref kG, .ref kP, .ref kC, .ref kD, .ref kE, .ref kF, .ref kX, .ref kY, .int 0, .ref kT, .ref kU, .int 0, .int 0, .int 0])), (kN, .inl (cI, 2, .inl (fun _ => 0))), (kA, .inl (cI, 2, .inl (fun _ => 0))), (kO, .inl (cC, 20, .inl (fun _ => 0)))] _ := hP
    have hD : va_D A [(k0, .inr (10, [.ref kN, .ref kA, .ref kO, .ref kK, .ref kV, .ref kG, .ref kP, .ref kC, .ref kD, .ref kE, .ref kF, .ref kX, .ref kY, .int 0, .ref kT, .ref kU, .int 0, .int 0, .int 0])), (kN, .inl (cI, 2, .inl (fun _ => 0))), (kA, .inl (cI, 2, .inl (fun _ => 0))), (kO, .inl (cC, 20, .inl (fun _ => 0)))] := hD
    refine lv_aload_n hx hb dX7_addNet_31 rfl (lv_at hl 0 rfl) ?_
    refine va_get (D := (dC, dI)) (ci := 10) (v := .int 0) (C := RX7) (T := TX7) (N := 19) hx hb hts (fun w h => List.mem_cons_of_mem _ (List.mem_append_left _ (List.mem_append_right _ (h)))) hown hK hP 0 rfl rfl 16 (by decide) (hts (.fieldLink RX7 57 "NetcompareModel" "thrown" "I") (List.mem_cons_of_mem _ (List.mem_append_left _ (List.mem_append_left _ (List.mem_of_getElem? (i := 1) rfl))))) (fun _ h9 => h9) rfl dX7_addNet_32 ?_
    refine lv_if_le (tgt := 40) hx hb dX7_addNet_35 (by decide) (fun _ => ?_) (fun h9 => absurd (by decide) h9)
    refine lv_aload_n hx hb dX7_addNet_40 rfl (lv_at hl 0 rfl) ?_
    refine va_get (D := (dC, dI)) (ci := 10) (v := .ref kO) (C := RX7) (T := TX7) (N := 19) hx hb hts (fun w h => List.mem_cons_of_mem _ (List.mem_append_left _ (List.mem_append_right _ (h)))) hown hK hP 0 rfl rfl 2 (by decide) (hts (.fieldLink RX7 16 "NetcompareModel" "ports" "[C") (List.mem_cons_of_mem _ (List.mem_append_left _ (List.mem_append_left _ (List.mem_of_getElem? (i := 2) rfl))))) (fun _ h9 => h9) rfl dX7_addNet_41 ?_
    refine lv_bipush (v := 10) hx hb dX7_addNet_44 (by decide) ?_
    refine lv_iload_n hx hb dX7_addNet_46 rfl (lv_at hl 1 rfl) ?_
    refine lv_imul hx hb dX7_addNet_47 ?_
    refine lv_topi (fun y5 ey5 => ?_)
    obtain rfl : y5 = 10 := ey5.trans (by decide)
    refine lv_aload_n hx hb dX7_addNet_48 rfl (lv_at hl 0 rfl) ?_
    refine va_get (D := (dC, dI)) (ci := 10) (v := .ref kN) (C := RX7) (T := TX7) (N := 19) hx hb hts (fun w h => List.mem_cons_of_mem _ (List.mem_append_left _ (List.mem_append_right _ (h)))) hown hK hP 0 rfl rfl 0 (by decide) (hts (.fieldLink RX7 7 "NetcompareModel" "nets" "[I") (List.mem_cons_of_mem _ (List.mem_append_left _ (List.mem_append_left _ (List.mem_of_getElem? (i := 0) rfl))))) (fun _ h9 => h9) rfl dX7_addNet_49 ?_
    refine lv_iload_n hx hb dX7_addNet_52 rfl (lv_at hl 1 rfl) ?_
    refine va_iald hx hb hK hP 1 0 rfl rfl (show ¬ (_ ∨ _) by decide) dX7_addNet_53 ?_
    refine W.eq (g2 := F0 m 54 ls [.int 0, .int 10, .ref kO]) rfl ?_
    refine lv_iadd hx hb dX7_addNet_54 ?_
    refine lv_topi (fun y6 ey6 => ?_)
    obtain rfl : y6 = 10 := ey6.trans (by decide)
    refine lv_bipush (v := 45) hx hb dX7_addNet_55 (by decide) ?_
    refine va_cast hx hb hK hP hD hS 3 1 rfl rfl (show ¬ (_ ∨ _) by decide) dX7_addNet_57 (fun H locs hP hD hS => ?_)
    have hP : va_P (dC, dI) vwCl [(k0, .inr (10, [.ref kN, .ref kA, .ref kO, .ref kK, .ref kV, .ref kG, .ref kP, .ref kC, .ref kD, .ref kE, .ref kF, .ref kX, .ref kY, .int 0, .ref kT, .ref kU, .int 0, .int 0, .int 0])), (kN, .inl (cI, 2, .inl (fun _ => 0))), (kA, .inl (cI, 2, .inl (fun _ => 0))), (kO, .inl (cC, 20, .inl (upd (fun _ => 0) 10 (vp_nar .char 45))))] _ := hP
    have hD : va_D A [(k0, .inr (10, [.ref kN, .ref kA, .ref kO, .ref kK, .ref kV, .ref kG, .ref kP, .ref kC, .ref kD, .ref kE, .ref kF, .ref kX, .ref kY, .int 0, .ref kT, .ref kU, .int 0, .int 0, .int 0])), (kN, .inl (cI, 2, .inl (fun _ => 0))), (kA, .inl (cI, 2, .inl (fun _ => 0))), (kO, .inl (cC, 20, .inl (upd (fun _ => 0) 10 (vp_nar .char 45))))] := hD
    rw [show vp_nar .char 45 = 45 from rfl] at hP hD
    have hP : va_P (dC, dI) vwCl [(k0, .inr (10, [.ref kN, .ref kA, .ref kO, .ref kK, .ref kV, .ref kG, .ref kP, .ref kC, .ref kD, .ref kE, .ref kF, .ref kX, .ref kY, .int 0, .ref kT, .ref kU, .int 0, .int 0, .int 0])), (kN, .inl (cI, 2, .inl (fun _ => 0))), (kA, .inl (cI, 2, .inl (fun _ => 0))), (kO, .inl (cC, 20, .inl (upd (fun _ => 0) 10 45)))] _ := hP
    have hD : va_D A [(k0, .inr (10, [.ref kN, .ref kA, .ref kO, .ref kK, .ref kV, .ref kG, .ref kP, .ref kC, .ref kD, .ref kE, .ref kF, .ref kX, .ref kY, .int 0, .ref kT, .ref kU, .int 0, .int 0, .int 0])), (kN, .inl (cI, 2, .inl (fun _ => 0))), (kA, .inl (cI, 2, .inl (fun _ => 0))), (kO, .inl (cC, 20, .inl (upd (fun _ => 0) 10 45)))] := hD
    refine lv_aload_n hx hb dX7_addNet_58 rfl (lv_at hl 0 rfl) ?_
    refine va_get (D := (dC, dI)) (ci := 10) (v := .ref kN) (C := RX7) (T := TX7) (N := 19) hx hb hts (fun w h => List.mem_cons_of_mem _ (List.mem_append_left _ (List.mem_append_right _ (h)))) hown hK hP 0 rfl rfl 0 (by decide) (hts (.fieldLink RX7 7 "NetcompareModel" "nets" "[I") (List.mem_cons_of_mem _ (List.mem_append_left _ (List.mem_append_left _ (List.mem_of_getElem? (i := 0) rfl))))) (fun _ h9 => h9) rfl dX7_addNet_59 ?_
    refine lv_iload_n hx hb dX7_addNet_62 rfl (lv_at hl 1 rfl) ?_
    refine lv_dup2_11 hx hb dX7_addNet_63 rfl rfl ?_
    refine va_iald hx hb hK hP 1 0 rfl rfl (show ¬ (_ ∨ _) by decide) dX7_addNet_64 ?_
    refine W.eq (g2 := F0 m 65 ls [.int 0, .int 1, .ref kN]) rfl ?_
    refine lv_iconst (v := 1) hx hb dX7_addNet_65 (by decide) ?_
    refine lv_iadd hx hb dX7_addNet_66 ?_
    refine lv_topi (fun y7 ey7 => ?_)
    obtain rfl : y7 = 1 := ey7.trans (by decide)
    refine va_iast hx hb hK hP hD hS 1 0 rfl rfl (show ¬ (_ ∨ _) by decide) dX7_addNet_67 (fun H locs hP hD hS => ?_)
    have hP : va_P (dC, dI) vwCl [(k0, .inr (10, [.ref kN, .ref kA, .ref kO, .ref kK, .ref kV, .ref kG, .ref kP, .ref kC, .ref kD, .ref kE, .ref kF, .ref kX, .ref kY, .int 0, .ref kT, .ref kU, .int 0, .int 0, .int 0])), (kN, .inl (cI, 2, .inl (upd (fun _ => 0) 1 1))), (kA, .inl (cI, 2, .inl (fun _ => 0))), (kO, .inl (cC, 20, .inl (upd (fun _ => 0) 10 45)))] _ := hP
    have hD : va_D A [(k0, .inr (10, [.ref kN, .ref kA, .ref kO, .ref kK, .ref kV, .ref kG, .ref kP, .ref kC, .ref kD, .ref kE, .ref kF, .ref kX, .ref kY, .int 0, .ref kT, .ref kU, .int 0, .int 0, .int 0])), (kN, .inl (cI, 2, .inl (upd (fun _ => 0) 1 1))), (kA, .inl (cI, 2, .inl (fun _ => 0))), (kO, .inl (cC, 20, .inl (upd (fun _ => 0) 10 45)))] := hD
    refine lv_aload_n hx hb dX7_addNet_68 rfl (lv_at hl 0 rfl) ?_
    refine va_get (D := (dC, dI)) (ci := 10) (v := .ref kN) (C := RX7) (T := TX7) (N := 19) hx hb hts (fun w h => List.mem_cons_of_mem _ (List.mem_append_left _ (List.mem_append_right _ (h)))) hown hK hP 0 rfl rfl 0 (by decide) (hts (.fieldLink RX7 7 "NetcompareModel" "nets" "[I") (List.mem_cons_of_mem _ (List.mem_append_left _ (List.mem_append_left _ (List.mem_of_getElem? (i := 0) rfl))))) (fun _ h9 => h9) rfl dX7_addNet_69 ?_
    refine lv_iload_n hx hb dX7_addNet_72 rfl (lv_at hl 1 rfl) ?_
    refine va_iald hx hb hK hP 1 0 rfl rfl (show ¬ (_ ∨ _) by decide) dX7_addNet_73 ?_
    refine W.eq (g2 := F0 m 74 ls [.int 1]) rfl ?_
    refine lv_iconst (v := 1) hx hb dX7_addNet_74 (by decide) ?_
    refine lv_isub hx hb dX7_addNet_75 ?_
    refine lv_topi (fun y8 ey8 => ?_)
    obtain rfl : y8 = 0 := ey8.trans (by decide)
    exact ret _ 0 _ _ _ _ _ _ (Or.inl (⟨rfl, rfl, Or.inr (rfl)⟩)) (hP.sub [0] rfl) (hK.sub [] rfl) (hD.sub [0] (by decide) rfl) hS (Nat.le_of_ble_eq_true rfl) (Nat.le_of_ble_eq_true rfl) dX7_addNet_76
  · skip
    have hc9 := hc
    refine lv_if_ne (tgt := 12) hx hb dX7_addNet_5 (by decide) (fun h9 => absurd (by decide) h9) (fun _ => ?_)
    refine lv_iconst (v := 1) hx hb dX7_addNet_8 (by decide) ?_
    refine lv_goto (tgt := 28) hx hb dX7_addNet_9 (by decide) ?_
    refine va_put (D := (dC, dI)) (ci := 10) (v := .int 1) (ty := .int) (C := RX7) (T := TX7) (N := 19) hx hb hts (fun w h => List.mem_cons_of_mem _ (List.mem_append_left _ (List.mem_append_right _ (h)))) tyX7 tyX7_ok nmX7 hown hK hP hD hS 0 rfl rfl 16 (by decide) (hts (.fieldLink RX7 57 "NetcompareModel" "thrown" "I") (List.mem_cons_of_mem _ (List.mem_append_left _ (List.mem_append_left _ (List.mem_of_getElem? (i := 1) rfl))))) (fun _ h9 => h9) rfl (by decide +kernel) rfl rfl (Nat.le_of_ble_eq_true rfl) dX7_addNet_28 (fun H locs hP hD hS => ?_)
    have hP : va_P (dC, dI) vwCl [(k0, .inr (10, [.ref kN, .ref kA, .ref kO, .ref kK, .ref kV, .ref kG, .ref kP, .ref kC, .ref kD, .ref kE, .ref kF, .ref kX, .ref kY, .int 0, .ref kT, .ref kU, .int 1, .int 0, .int 0])), (kN, .inl (cI, 2, .inl (fun _ => 0))), (kA, .inl (cI, 2, .inl (fun _ => 0))), (kO, .inl (cC, 20, .inl (fun _ => 0)))] _ := hP
    have hD : va_D A [(k0, .inr (10, [.ref kN, .ref kA, .ref kO, .ref kK, .ref kV, .ref kG, .ref kP, .ref kC, .ref kD, .ref kE, .ref kF, .ref kX, .ref kY, .int 0, .ref kT, .ref kU, .int 1, .int 0, .int 0])), (kN, .inl (cI, 2, .inl (fun _ => 0))), (kA, .inl (cI, 2, .inl (fun _ => 0))), (kO, .inl (cC, 20, .inl (fun _ => 0)))] := hD
    refine lv_aload_n hx hb dX7_addNet_31 rfl (lv_at hl 0 rfl) ?_
    refine va_get (D := (dC, dI)) (ci := 10) (v := .int 1) (C := RX7) (T := TX7) (N := 19) hx hb hts (fun w h => List.mem_cons_of_mem _ (List.mem_append_left _ (List.mem_append_right _ (h)))) hown hK hP 0 rfl rfl 16 (by decide) (hts (.fieldLink RX7 57 "NetcompareModel" "thrown" "I") (List.mem_cons_of_mem _ (List.mem_append_left _ (List.mem_append_left _ (List.mem_of_getElem? (i := 1) rfl))))) (fun _ h9 => h9) rfl dX7_addNet_32 ?_
    refine lv_if_le (tgt := 40) hx hb dX7_addNet_35 (by decide) (fun h9 => absurd h9 (by decide)) (fun _ => ?_)
    refine lv_iconst (v := (-1)) hx hb dX7_addNet_38 (by decide) ?_
    exact ret _ 1 _ _ _ _ _ _ (Or.inr (⟨rfl, hc9⟩)) (hP.sub [0] rfl) (hK.sub [] rfl) (hD.sub [0] (by decide) rfl) hS (Nat.le_of_ble_eq_true rfl) (Nat.le_of_ble_eq_true rfl) dX7_addNet_39

set_option maxHeartbeats 4000000 in
set_option maxRecDepth 100000 in
/-- the model: setPort on a fresh one -/
theorem kX7_setPort (l : Launch) (dC : Nat → ClassId) (dI : Nat → Nat → Nat) (k0 kN kA kO kK kV kG kP kC kD kE kF kX kY kT kU : Nat) (cI : ClassId) (p0 p1 p2 : Int32) (sz : Nat) : fMi l yX7_setPort wsX7_setPort ({ frames := 2, cells := 0, slots := 0, locals := 47 } : Room) dC dI [.ref k0, .int p0, .int p1, .int p2] [(k0, .inr (10, [.ref kN, .ref kA, .ref kO, .ref kK, .ref kV, .ref kG, .ref kP, .ref kC, .ref kD, .ref kE, .ref kF, .ref kX, .ref kY, .int 0, .ref kT, .ref kU, .int 0, .int 0, .int 0])), (kN, .inl (cI, 2, .inl (fun _ => 0))), (kA, .inl (cI, 2, .inl (fun _ => 0)))] [(cI, .int)] sz (fun (r : Int32) (u : Int32) => u = 1 ∧ ((¬ ((p0 = 0) ∨ (p0 = 1))) ∨ (¬ ((p2 = 45) ∨ ((¬ (p2 < 97)) ∧ (¬ (102 < p2)))))) ∨ u = 2 ∧ (¬ ((¬ ((p0 = 0) ∨ (p0 = 1))) ∨ (¬ ((p2 = 45) ∨ ((¬ (p2 < 97)) ∧ (¬ (102 < p2)))))))) (fun u => [(k0, .inr (10, [.ref kN, .ref kA, .ref kO, .ref kK, .ref kV, .ref kG, .ref kP, .ref kC, .ref kD, .ref kE, .ref kF, .ref kX, .ref kY, .int 0, .ref kT, .ref kU, .int u, .int 0, .int 0]))]) (fun u => []) := by
  refine oP_z (y := yX7_setPort) (cc := cX7_setPort) (maxL := 7) (by decide) rfl (Nat.le_of_ble_eq_true rfl) ?_
  intro p e s m args below meth c ls A Q hx hb hr hml hown hts hN hZ hA hin hlk hP hK hD hl ret
  have hS : va_S A s.heap s.heap [] := va_S.rf
  have hl : lv_has ls 7 [(0, .ref k0), (1, .int p0), (2, .int p1), (3, .int p2)] := hl
  have hP : va_P (dC, dI) vwCl [(k0, .inr (10, [.ref kN, .ref kA, .ref kO, .ref kK, .ref kV, .ref kG, .ref kP, .ref kC, .ref kD, .ref kE, .ref kF, .ref kX, .ref kY, .int 0, .ref kT, .ref kU, .int 0, .int 0, .int 0])), (kN, .inl (cI, 2, .inl (fun _ => 0))), (kA, .inl (cI, 2, .inl (fun _ => 0)))] _ := hP
  have hD : va_D A [(k0, .inr (10, [.ref kN, .ref kA, .ref kO, .ref kK, .ref kV, .ref kG, .ref kP, .ref kC, .ref kD, .ref kE, .ref kF, .ref kX, .ref kY, .int 0, .ref kT, .ref kU, .int 0, .int 0, .int 0])), (kN, .inl (cI, 2, .inl (fun _ => 0))), (kA, .inl (cI, 2, .inl (fun _ => 0)))] := hD
  refine lv_iload_n hx hb dX7_setPort_0 rfl (lv_at hl 3 rfl) ?_
  refine lv_bipush (v := 45) hx hb dX7_setPort_1 (by decide) ?_
  refine lv_icmp_eq (tgt := 20) hx hb dX7_setPort_3 (by decide) (fun h1 => ?_) (fun h1 => ?_)
  · skip
    refine lv_iconst (v := 1) hx hb dX7_setPort_20 (by decide) ?_
    refine lv_goto (tgt := 25) hx hb dX7_setPort_21 (by decide) ?_
    refine lv_istore (lv' := [(4, .int 1), (0, .ref k0), (1, .int p0), (2, .int p1), (3, .int p2)]) hx hb dX7_setPort_25 hl (Nat.le_of_ble_eq_true rfl) rfl (fun ls hl => ?_)
    refine lv_iload_n hx hb dX7_setPort_27 rfl (lv_at hl 2 rfl) ?_
    have hPc := hP.sub (ws' := []) [] rfl
    have hDc := hD.sub (ws' := []) [] (by decide) rfl
    have hKc := hK.sub (tys' := []) [] rfl
    have hFc := va_free (wc := []) hD hS hA [] rfl
    refine va_calli (va_runS (As := [.int p0]) (rest := []) ⟨hx, hb, hml, hown, hts⟩ (kX7_isCircuit l dC dI p0 s.heap.size) (va_cwS 1 hts gX7_setPort_X7_isCircuit rfl rfl rfl (by decide +kernel) ⟨Nat.le_of_ble_eq_true rfl, Nat.le_of_ble_eq_true rfl⟩) (fPreS hN hZ hS (fun q h => hFc q h) hPc hKc hDc) rfl rfl hl.1 rfl (lv_room (Nat.le_of_ble_eq_true rfl)) dX7_setPort_28 ⟨Nat.le_of_ble_eq_true rfl, Nat.le_of_ble_eq_true rfl⟩) hS (fun q _ h => hFc q h) hFc (fun r u t H1 locs ht hvm hw hB hz1 hk1 hS => ?_)
    obtain ⟨hP1, hK1, hD1⟩ := hB
    rw [ht] at hP1
    have hK1 := va_K.moved hvm.symm hK1
    obtain ⟨hP, hD⟩ := va_join (wr := [(k0, .inr (10, [.ref kN, .ref kA, .ref kO, .ref kK, .ref kV, .ref kG, .ref kP, .ref kC, .ref kD, .ref kE, .ref kF, .ref kX, .ref kY, .int 0, .ref kT, .ref kU, .int 0, .int 0, .int 0])), (kN, .inl (cI, 2, .inl (fun _ => 0))), (kA, .inl (cI, 2, .inl (fun _ => 0)))]) (w1 := []) hP hD [] [0, 1, 2] rfl rfl (by decide) (by decide) hk1 hFc hP1 hD1
    generalize H1 = H at hP hS ⊢
    have hP : va_P (dC, dI) vwCl [(k0, .inr (10, [.ref kN, .ref kA, .ref kO, .ref kK, .ref kV, .ref kG, .ref kP, .ref kC, .ref kD, .ref kE, .ref kF, .ref kX, .ref kY, .int 0, .ref kT, .ref kU, .int 0, .int 0, .int 0])), (kN, .inl (cI, 2, .inl (fun _ => 0))), (kA, .inl (cI, 2, .inl (fun _ => 0)))] _ := hP
    have hD : va_D A [(k0, .inr (10, [.ref kN, .ref kA, .ref kO, .ref kK, .ref kV, .ref kG, .ref kP, .ref kC, .ref kD, .ref kE, .ref kF, .ref kX, .ref kY, .int 0, .ref kT, .ref kU, .int 0, .int 0, .int 0])), (kN, .inl (cI, 2, .inl (fun _ => 0))), (kA, .inl (cI, 2, .inl (fun _ => 0)))] := hD
    rcases hw with ⟨rfl, hc | hc⟩ | ⟨rfl, hc⟩
    · skip
      subst hc
      have hP : va_P (dC, dI) vwCl [(k0, .inr (10, [.ref kN, .ref kA, .ref kO, .ref kK, .ref kV, .ref kG, .ref kP, .ref kC, .ref kD, .ref kE, .ref kF, .ref kX, .ref kY, .int 0, .ref kT, .ref kU, .int 0, .int 0, .int 0])), (kN, .inl (cI, 2, .inl (fun _ => 0))), (kA, .inl (cI, 2, .inl (fun _ => 0)))] _ := hP
      have hD : va_D A [(k0, .inr (10, [.ref kN, .ref kA, .ref kO, .ref kK, .ref kV, .ref kG, .ref kP, .ref kC, .ref kD, .ref kE, .ref kF, .ref kX, .ref kY, .int 0, .ref kT, .ref kU, .int 0, .int 0, .int 0])), (kN, .inl (cI, 2, .inl (fun _ => 0))), (kA, .inl (cI, 2, .inl (fun _ => 0)))] := hD
      refine lv_if_eq (tgt := 48) hx hb dX7_setPort_31 (by decide) (fun h9 => absurd h9 (by decide)) (fun _ => ?_)
      refine lv_iload hx hb dX7_setPort_34 (lv_at hl 0 rfl) ?_
      refine lv_if_eq (tgt := 48) hx hb dX7_setPort_36 (by decide) (fun h9 => absurd h9 (by decide)) (fun _ => ?_)
      refine lv_aload_n hx hb dX7_setPort_39 rfl (lv_at hl 1 rfl) ?_
      refine lv_iload_n hx hb dX7_setPort_40 rfl (lv_at hl 2 rfl) ?_
      refine lv_iload_n hx hb dX7_setPort_41 rfl (lv_at hl 3 rfl) ?_
      have hPc := hP.sub (ws' := [(k0, .inr (10, [.ref kN, .ref kA, .ref kO, .ref kK, .ref kV, .ref kG, .ref kP, .ref kC, .ref kD, .ref kE, .ref kF, .ref kX, .ref kY, .int 0, .ref kT, .ref kU, .int 0, .int 0, .int 0])), (kN, .inl (cI, 2, .inl (fun _ => 0)))]) [0, 1] rfl
      have hDc := hD.sub (ws' := [(k0, .inr (10, [.ref kN, .ref kA, .ref kO, .ref kK, .ref kV, .ref kG, .ref kP, .ref kC, .ref kD, .ref kE, .ref kF, .ref kX, .ref kY, .int 0, .ref kT, .ref kU, .int 0, .int 0, .int 0])), (kN, .inl (cI, 2, .inl (fun _ => 0)))]) [0, 1] (by decide) rfl
      have hKc := hK.sub (tys' := [(cI, .int)]) [0] rfl
      have hFc := va_free (wc := [(k0, .inr (10, [.ref kN, .ref kA, .ref kO, .ref kK, .ref kV, .ref kG, .ref kP, .ref kC, .ref kD, .ref kE, .ref kF, .ref kX, .ref kY, .int 0, .ref kT, .ref kU, .int 0, .int 0, .int 0])), (kN, .inl (cI, 2, .inl (fun _ => 0)))]) hD hS hA [0, 1] rfl
      refine va_calli (va_runV (As := [.int 0, .int p1]) (rest := []) ⟨hx, hb, hml, hown, hts⟩ (kX7_isNet0 l dC dI k0 kN kA kO kK kV kG kP kC kD kE kF kX kY kT kU cI p1 H.size) (cwV 2 hts gX7_setPort_X7_isNet rfl rfl rfl (by decide +kernel) ⟨Nat.le_of_ble_eq_true rfl, Nat.le_of_ble_eq_true rfl⟩) (fPreV hN hZ hS (fun q h => hFc q h) hPc hKc hDc (ci := 10) (q0 := 0) rfl rfl) rfl rfl hl.1 rfl (lv_room (Nat.le_of_ble_eq_true rfl)) dX7_setPort_42 ⟨Nat.le_of_ble_eq_true rfl, Nat.le_of_ble_eq_true rfl⟩) hS (fun q _ h => hFc q h) hFc (fun r u t H1 locs ht hvm hw hB hz1 hk1 hS => ?_)
      obtain ⟨hP1, hK1, hD1⟩ := hB
      rw [ht] at hP1
      have hK1 := va_K.moved hvm.symm hK1
      obtain ⟨hP, hD⟩ := va_join (wr := [(kA, .inl (cI, 2, .inl (fun _ => 0)))]) (w1 := [(k0, .inr (10, [.ref kN, .ref kA, .ref kO, .ref kK, .ref kV, .ref kG, .ref kP, .ref kC, .ref kD, .ref kE, .ref kF, .ref kX, .ref kY, .int 0, .ref kT, .ref kU, .int 0, .int 0, .int 0])), (kN, .inl (cI, 2, .inl (fun _ => 0)))]) hP hD [0, 1] [2] rfl rfl (by decide) (by decide) hk1 hFc hP1 hD1
      generalize H1 = H at hP hS ⊢
      have hP : va_P (dC, dI) vwCl [(kA, .inl (cI, 2, .inl (fun _ => 0))), (k0, .inr (10, [.ref kN, .ref kA, .ref kO, .ref kK, .ref kV, .ref kG, .ref kP, .ref kC, .ref kD, .ref kE, .ref kF, .ref kX, .ref kY, .int 0, .ref kT, .ref kU, .int 0, .int 0, .int 0])), (kN, .inl (cI, 2, .inl (fun _ => 0)))] _ := hP
      have hD : va_D A [(kA, .inl (cI, 2, .inl (fun _ => 0))), (k0, .inr (10, [.ref kN, .ref kA, .ref kO, .ref kK, .ref kV, .ref kG, .ref kP, .ref kC, .ref kD, .ref kE, .ref kF, .ref kX, .ref kY, .int 0, .ref kT, .ref kU, .int 0, .int 0, .int 0])), (kN, .inl (cI, 2, .inl (fun _ => 0)))] := hD
      subst hw
      refine lv_if_ne (tgt := 72) hx hb dX7_setPort_45 (by decide) (fun h9 => absurd (by decide) h9) (fun _ => ?_)
      refine lv_aload_n hx hb dX7_setPort_48 rfl (lv_at hl 1 rfl) ?_
      refine lv_iload_n hx hb dX7_setPort_49 rfl (lv_at hl 2 rfl) ?_
      have hPc := hP.sub (ws' := []) [] rfl
      have hDc := hD.sub (ws' := []) [] (by decide) rfl
      have hKc := hK.sub (tys' := []) [] rfl
      have hFc := va_free (wc := []) hD hS hA [] rfl
      refine va_calli (va_runS (As := [.int 0]) (rest := [.ref k0]) ⟨hx, hb, hml, hown, hts⟩ (kX7_isCircuit l dC dI 0 H.size) (va_cwS 1 hts gX7_setPort_X7_isCircuit rfl rfl rfl (by decide +kernel) ⟨Nat.le_of_ble_eq_true rfl, Nat.le_of_ble_eq_true rfl⟩) (fPreS hN hZ hS (fun q h => hFc q h) hPc hKc hDc) rfl rfl hl.1 rfl (lv_room (Nat.le_of_ble_eq_true rfl)) dX7_setPort_50 ⟨Nat.le_of_ble_eq_true rfl, Nat.le_of_ble_eq_true rfl⟩) hS (fun q _ h => hFc q h) hFc (fun r u t H1 locs ht hvm hw hB hz1 hk1 hS => ?_)
      obtain ⟨hP1, hK1, hD1⟩ := hB
      rw [ht] at hP1
      have hK1 := va_K.moved hvm.symm hK1
      obtain ⟨hP, hD⟩ := va_join (wr := [(kA, .inl (cI, 2, .inl (fun _ => 0))), (k0, .inr (10, [.ref kN, .ref kA, .ref kO, .ref kK, .ref kV, .ref kG, .ref kP, .ref kC, .ref kD, .ref kE, .ref kF, .ref kX, .ref kY, .int 0, .ref kT, .ref kU, .int 0, .int 0, .int 0])), (kN, .inl (cI, 2, .inl (fun _ => 0)))]) (w1 := []) hP hD [] [0, 1, 2] rfl rfl (by decide) (by decide) hk1 hFc hP1 hD1
      generalize H1 = H at hP hS ⊢
      have hP : va_P (dC, dI) vwCl [(kA, .inl (cI, 2, .inl (fun _ => 0))), (k0, .inr (10, [.ref kN, .ref kA, .ref kO, .ref kK, .ref kV, .ref kG, .ref kP, .ref kC, .ref kD, .ref kE, .ref kF, .ref kX, .ref kY, .int 0, .ref kT, .ref kU, .int 0, .int 0, .int 0])), (kN, .inl (cI, 2, .inl (fun _ => 0)))] _ := hP
      have hD : va_D A [(kA, .inl (cI, 2, .inl (fun _ => 0))), (k0, .inr (10, [.ref kN, .ref kA, .ref kO, .ref kK, .ref kV, .ref kG, .ref kP, .ref kC, .ref kD, .ref kE, .ref kF, .ref kX, .ref kY, .int 0, .ref kT, .ref kU, .int 0, .int 0, .int 0])), (kN, .inl (cI, 2, .inl (fun _ => 0)))] := hD
      have hw : r = 1 := hw.elim (fun h => h.1) (fun h => absurd (by decide) h.2)
      subst hw
      refine lv_if_eq (tgt := 61) hx hb dX7_setPort_53 (by decide) (fun h9 => absurd h9 (by decide)) (fun _ => ?_)
      refine lv_iload hx hb dX7_setPort_56 (lv_at hl 0 rfl) ?_
      refine lv_if_ne (tgt := 65) hx hb dX7_setPort_58 (by decide) (fun _ => ?_) (fun h9 => absurd h9 (by decide))
      refine lv_iconst (v := 2) hx hb dX7_setPort_65 (by decide) ?_
      refine va_put (D := (dC, dI)) (ci := 10) (v := .int 2) (ty := .int) (C := RX7) (T := TX7) (N := 19) hx hb hts (fun w h => List.mem_cons_of_mem _ (List.mem_append_left _ (List.mem_append_right _ (h)))) tyX7 tyX7_ok nmX7 hown hK hP hD hS 1 rfl rfl 16 (by decide) (hts (.fieldLink RX7 57 "NetcompareModel" "thrown" "I") (List.mem_cons_of_mem _ (List.mem_append_left _ (List.mem_append_left _ (List.mem_of_getElem? (i := 2) rfl))))) (fun _ h9 => h9) rfl (by decide +kernel) rfl rfl (Nat.le_of_ble_eq_true rfl) dX7_setPort_66 (fun H locs hP hD hS => ?_)
      have hP : va_P (dC, dI) vwCl [(kA, .inl (cI, 2, .inl (fun _ => 0))), (k0, .inr (10, [.ref kN, .ref kA, .ref kO, .ref kK, .ref kV, .ref kG, .ref kP, .ref kC, .ref kD, .ref kE, .ref kF, .ref kX, .ref kY, .int 0, .ref kT, .ref kU, .int 2, .int 0, .int 0])), (kN, .inl (cI, 2, .inl (fun _ => 0)))] _ := hP
      have hD : va_D A [(kA, .inl (cI, 2, .inl (fun _ => 0))), (k0, .inr (10, [.ref kN, .ref kA, .ref kO, .ref kK, .ref kV, .ref kG, .ref kP, .ref kC, .ref kD, .ref kE, .ref kF, .ref kX, .ref kY, .int 0, .ref kT, .ref kU, .int 2, .int 0, .int 0])), (kN, .inl (cI, 2, .inl (fun _ => 0)))] := hD
      refine lv_bipush (v := 32) hx hb dX7_setPort_69 (by decide) ?_
      exact ret _ 2 _ _ _ _ _ _ (by decide) (Or.inr (⟨rfl, (fun h9 => h9.elim ((fun h9 => h9 (Or.inl (rfl)))) ((fun h9 => h9 (Or.inl (h1)))))⟩)) (hP.sub [1] rfl) (hK.sub [] rfl) (hD.sub [1] (by decide) rfl) hS (Nat.le_of_ble_eq_true rfl) (Nat.le_of_ble_eq_true rfl) dX7_setPort_71
    · skip
      subst hc
      have hP : va_P (dC, dI) vwCl [(k0, .inr (10, [.ref kN, .ref kA, .ref kO, .ref kK, .ref kV, .ref kG, .ref kP, .ref kC, .ref kD, .ref kE, .ref kF, .ref kX, .ref kY, .int 0, .ref kT, .ref kU, .int 0, .int 0, .int 0])), (kN, .inl (cI, 2, .inl (fun _ => 0))), (kA, .inl (cI, 2, .inl (fun _ => 0)))] _ := hP
      have hD : va_D A [(k0, .inr (10, [.ref kN, .ref kA, .ref kO, .ref kK, .ref kV, .ref kG, .ref kP, .ref kC, .ref kD, .ref kE, .ref kF, .ref kX, .ref kY, .int 0, .ref kT, .ref kU, .int 0, .int 0, .int 0])), (kN, .inl (cI, 2, .inl (fun _ => 0))), (kA, .inl (cI, 2, .inl (fun _ => 0)))] := hD
      refine lv_if_eq (tgt := 48) hx hb dX7_setPort_31 (by decide) (fun h9 => absurd h9 (by decide)) (fun _ => ?_)
      refine lv_iload hx hb dX7_setPort_34 (lv_at hl 0 rfl) ?_
      refine lv_if_eq (tgt := 48) hx hb dX7_setPort_36 (by decide) (fun h9 => absurd h9 (by decide)) (fun _ => ?_)
      refine lv_aload_n hx hb dX7_setPort_39 rfl (lv_at hl 1 rfl) ?_
      refine lv_iload_n hx hb dX7_setPort_40 rfl (lv_at hl 2 rfl) ?_
      refine lv_iload_n hx hb dX7_setPort_41 rfl (lv_at hl 3 rfl) ?_
      have hPc := hP.sub (ws' := [(k0, .inr (10, [.ref kN, .ref kA, .ref kO, .ref kK, .ref kV, .ref kG, .ref kP, .ref kC, .ref kD, .ref kE, .ref kF, .ref kX, .ref kY, .int 0, .ref kT, .ref kU, .int 0, .int 0, .int 0])), (kN, .inl (cI, 2, .inl (fun _ => 0)))]) [0, 1] rfl
      have hDc := hD.sub (ws' := [(k0, .inr (10, [.ref kN, .ref kA, .ref kO, .ref kK, .ref kV, .ref kG, .ref kP, .ref kC, .ref kD, .ref kE, .ref kF, .ref kX, .ref kY, .int 0, .ref kT, .ref kU, .int 0, .int 0, .int 0])), (kN, .inl (cI, 2, .inl (fun _ => 0)))]) [0, 1] (by decide) rfl
      have hKc := hK.sub (tys' := [(cI, .int)]) [0] rfl
      have hFc := va_free (wc := [(k0, .inr (10, [.ref kN, .ref kA, .ref kO, .ref kK, .ref kV, .ref kG, .ref kP, .ref kC, .ref kD, .ref kE, .ref kF, .ref kX, .ref kY, .int 0, .ref kT, .ref kU, .int 0, .int 0, .int 0])), (kN, .inl (cI, 2, .inl (fun _ => 0)))]) hD hS hA [0, 1] rfl
      refine va_calli (va_runV (As := [.int 1, .int p1]) (rest := []) ⟨hx, hb, hml, hown, hts⟩ (kX7_isNet1 l dC dI k0 kN kA kO kK kV kG kP kC kD kE kF kX kY kT kU cI p1 H.size) (cwV 2 hts gX7_setPort_X7_isNet rfl rfl rfl (by decide +kernel) ⟨Nat.le_of_ble_eq_true rfl, Nat.le_of_ble_eq_true rfl⟩) (fPreV hN hZ hS (fun q h => hFc q h) hPc hKc hDc (ci := 10) (q0 := 0) rfl rfl) rfl rfl hl.1 rfl (lv_room (Nat.le_of_ble_eq_true rfl)) dX7_setPort_42 ⟨Nat.le_of_ble_eq_true rfl, Nat.le_of_ble_eq_true rfl⟩) hS (fun q _ h => hFc q h) hFc (fun r u t H1 locs ht hvm hw hB hz1 hk1 hS => ?_)
      obtain ⟨hP1, hK1, hD1⟩ := hB
      rw [ht] at hP1
      have hK1 := va_K.moved hvm.symm hK1
      obtain ⟨hP, hD⟩ := va_join (wr := [(kA, .inl (cI, 2, .inl (fun _ => 0)))]) (w1 := [(k0, .inr (10, [.ref kN, .ref kA, .ref kO, .ref kK, .ref kV, .ref kG, .ref kP, .ref kC, .ref kD, .ref kE, .ref kF, .ref kX, .ref kY, .int 0, .ref kT, .ref kU, .int 0, .int 0, .int 0])), (kN, .inl (cI, 2, .inl (fun _ => 0)))]) hP hD [0, 1] [2] rfl rfl (by decide) (by decide) hk1 hFc hP1 hD1
      generalize H1 = H at hP hS ⊢
      have hP : va_P (dC, dI) vwCl [(kA, .inl (cI, 2, .inl (fun _ => 0))), (k0, .inr (10, [.ref kN, .ref kA, .ref kO, .ref kK, .ref kV, .ref kG, .ref kP, .ref kC, .ref kD, .ref kE, .ref kF, .ref kX, .ref kY, .int 0, .ref kT, .ref kU, .int 0, .int 0, .int 0])), (kN, .inl (cI, 2, .inl (fun _ => 0)))] _ := hP
      have hD : va_D A [(kA, .inl (cI, 2, .inl (fun _ => 0))), (k0, .inr (10, [.ref kN, .ref kA, .ref kO, .ref kK, .ref kV, .ref kG, .ref kP, .ref kC, .ref kD, .ref kE, .ref kF, .ref kX, .ref kY, .int 0, .ref kT, .ref kU, .int 0, .int 0, .int 0])), (kN, .inl (cI, 2, .inl (fun _ => 0)))] := hD
      subst hw
      refine lv_if_ne (tgt := 72) hx hb dX7_setPort_45 (by decide) (fun h9 => absurd (by decide) h9) (fun _ => ?_)
      refine lv_aload_n hx hb dX7_setPort_48 rfl (lv_at hl 1 rfl) ?_
      refine lv_iload_n hx hb dX7_setPort_49 rfl (lv_at hl 2 rfl) ?_
      have hPc := hP.sub (ws' := []) [] rfl
      have hDc := hD.sub (ws' := []) [] (by decide) rfl
      have hKc := hK.sub (tys' := []) [] rfl
      have hFc := va_free (wc := []) hD hS hA [] rfl
      refine va_calli (va_runS (As := [.int 1]) (rest := [.ref k0]) ⟨hx, hb, hml, hown, hts⟩ (kX7_isCircuit l dC dI 1 H.size) (va_cwS 1 hts gX7_setPort_X7_isCircuit rfl rfl rfl (by decide +kernel) ⟨Nat.le_of_ble_eq_true rfl, Nat.le_of_ble_eq_true rfl⟩) (fPreS hN hZ hS (fun q h => hFc q h) hPc hKc hDc) rfl rfl hl.1 rfl (lv_room (Nat.le_of_ble_eq_true rfl)) dX7_setPort_50 ⟨Nat.le_of_ble_eq_true rfl, Nat.le_of_ble_eq_true rfl⟩) hS (fun q _ h => hFc q h) hFc (fun r u t H1 locs ht hvm hw hB hz1 hk1 hS => ?_)
      obtain ⟨hP1, hK1, hD1⟩ := hB
      rw [ht] at hP1
      have hK1 := va_K.moved hvm.symm hK1
      obtain ⟨hP, hD⟩ := va_join (wr := [(kA, .inl (cI, 2, .inl (fun _ => 0))), (k0, .inr (10, [.ref kN, .ref kA, .ref kO, .ref kK, .ref kV, .ref kG, .ref kP, .ref kC, .ref kD, .ref kE, .ref kF, .ref kX, .ref kY, .int 0, .ref kT, .ref kU, .int 0, .int 0, .int 0])), (kN, .inl (cI, 2, .inl (fun _ => 0)))]) (w1 := []) hP hD [] [0, 1, 2] rfl rfl (by decide) (by decide) hk1 hFc hP1 hD1
      generalize H1 = H at hP hS ⊢
      have hP : va_P (dC, dI) vwCl [(kA, .inl (cI, 2, .inl (fun _ => 0))), (k0, .inr (10, [.ref kN, .ref kA, .ref kO, .ref kK, .ref kV, .ref kG, .ref kP, .ref kC, .ref kD, .ref kE, .ref kF, .ref kX, .ref kY, .int 0, .ref kT, .ref kU, .int 0, .int 0, .int 0])), (kN, .inl (cI, 2, .inl (fun _ => 0)))] _ := hP
      have hD : va_D A [(kA, .inl (cI, 2, .inl (fun _ => 0))), (k0, .inr (10, [.ref kN, .ref kA, .ref kO, .ref kK, .ref kV, .ref kG, .ref kP, .ref kC, .ref kD, .ref kE, .ref kF, .ref kX, .ref kY, .int 0, .ref kT, .ref kU, .int 0, .int 0, .int 0])), (kN, .inl (cI, 2, .inl (fun _ => 0)))] := hD
      have hw : r = 1 := hw.elim (fun h => h.1) (fun h => absurd (by decide) h.2)
      subst hw
      refine lv_if_eq (tgt := 61) hx hb dX7_setPort_53 (by decide) (fun h9 => absurd h9 (by decide)) (fun _ => ?_)
      refine lv_iload hx hb dX7_setPort_56 (lv_at hl 0 rfl) ?_
      refine lv_if_ne (tgt := 65) hx hb dX7_setPort_58 (by decide) (fun _ => ?_) (fun h9 => absurd h9 (by decide))
      refine lv_iconst (v := 2) hx hb dX7_setPort_65 (by decide) ?_
      refine va_put (D := (dC, dI)) (ci := 10) (v := .int 2) (ty := .int) (C := RX7) (T := TX7) (N := 19) hx hb hts (fun w h => List.mem_cons_of_mem _ (List.mem_append_left _ (List.mem_append_right _ (h)))) tyX7 tyX7_ok nmX7 hown hK hP hD hS 1 rfl rfl 16 (by decide) (hts (.fieldLink RX7 57 "NetcompareModel" "thrown" "I") (List.mem_cons_of_mem _ (List.mem_append_left _ (List.mem_append_left _ (List.mem_of_getElem? (i := 2) rfl))))) (fun _ h9 => h9) rfl (by decide +kernel) rfl rfl (Nat.le_of_ble_eq_true rfl) dX7_setPort_66 (fun H locs hP hD hS => ?_)
      have hP : va_P (dC, dI) vwCl [(kA, .inl (cI, 2, .inl (fun _ => 0))), (k0, .inr (10, [.ref kN, .ref kA, .ref kO, .ref kK, .ref kV, .ref kG, .ref kP, .ref kC, .ref kD, .ref kE, .ref kF, .ref kX, .ref kY, .int 0, .ref kT, .ref kU, .int 2, .int 0, .int 0])), (kN, .inl (cI, 2, .inl (fun _ => 0)))] _ := hP
      have hD : va_D A [(kA, .inl (cI, 2, .inl (fun _ => 0))), (k0, .inr (10, [.ref kN, .ref kA, .ref kO, .ref kK, .ref kV, .ref kG, .ref kP, .ref kC, .ref kD, .ref kE, .ref kF, .ref kX, .ref kY, .int 0, .ref kT, .ref kU, .int 2, .int 0, .int 0])), (kN, .inl (cI, 2, .inl (fun _ => 0)))] := hD
      refine lv_bipush (v := 32) hx hb dX7_setPort_69 (by decide) ?_
      exact ret _ 2 _ _ _ _ _ _ (by decide) (Or.inr (⟨rfl, (fun h9 => h9.elim ((fun h9 => h9 (Or.inr (rfl)))) ((fun h9 => h9 (Or.inl (h1)))))⟩)) (hP.sub [1] rfl) (hK.sub [] rfl) (hD.sub [1] (by decide) rfl) hS (Nat.le_of_ble_eq_true rfl) (Nat.le_of_ble_eq_true rfl) dX7_setPort_71
    · skip
      have hc2 := hc
      refine lv_if_eq (tgt := 48) hx hb dX7_setPort_31 (by decide) (fun _ => ?_) (fun h9 => absurd (by decide) h9)
      refine lv_aload_n hx hb dX7_setPort_48 rfl (lv_at hl 1 rfl) ?_
      refine lv_iload_n hx hb dX7_setPort_49 rfl (lv_at hl 2 rfl) ?_
      have hPc := hP.sub (ws' := []) [] rfl
      have hDc := hD.sub (ws' := []) [] (by decide) rfl
      have hKc := hK.sub (tys' := []) [] rfl
      have hFc := va_free (wc := []) hD hS hA [] rfl
      refine va_calli (va_runS (As := [.int p0]) (rest := [.ref k0]) ⟨hx, hb, hml, hown, hts⟩ (kX7_isCircuit l dC dI p0 H.size) (va_cwS 1 hts gX7_setPort_X7_isCircuit rfl rfl rfl (by decide +kernel) ⟨Nat.le_of_ble_eq_true rfl, Nat.le_of_ble_eq_true rfl⟩) (fPreS hN hZ hS (fun q h => hFc q h) hPc hKc hDc) rfl rfl hl.1 rfl (lv_room (Nat.le_of_ble_eq_true rfl)) dX7_setPort_50 ⟨Nat.le_of_ble_eq_true rfl, Nat.le_of_ble_eq_true rfl⟩) hS (fun q _ h => hFc q h) hFc (fun r u t H1 locs ht hvm hw hB hz1 hk1 hS => ?_)
      obtain ⟨hP1, hK1, hD1⟩ := hB
      rw [ht] at hP1
      have hK1 := va_K.moved hvm.symm hK1
      obtain ⟨hP, hD⟩ := va_join (wr := [(k0, .inr (10, [.ref kN, .ref kA, .ref kO, .ref kK, .ref kV, .ref kG, .ref kP, .ref kC, .ref kD, .ref kE, .ref kF, .ref kX, .ref kY, .int 0, .ref kT, .ref kU, .int 0, .int 0, .int 0])), (kN, .inl (cI, 2, .inl (fun _ => 0))), (kA, .inl (cI, 2, .inl (fun _ => 0)))]) (w1 := []) hP hD [] [0, 1, 2] rfl rfl (by decide) (by decide) hk1 hFc hP1 hD1
      generalize H1 = H at hP hS ⊢
      have hP : va_P (dC, dI) vwCl [(k0, .inr (10, [.ref kN, .ref kA, .ref kO, .ref kK, .ref kV, .ref kG, .ref kP, .ref kC, .ref kD, .ref kE, .ref kF, .ref kX, .ref kY, .int 0, .ref kT, .ref kU, .int 0, .int 0, .int 0])), (kN, .inl (cI, 2, .inl (fun _ => 0))), (kA, .inl (cI, 2, .inl (fun _ => 0)))] _ := hP
      have hD : va_D A [(k0, .inr (10, [.ref kN, .ref kA, .ref kO, .ref kK, .ref kV, .ref kG, .ref kP, .ref kC, .ref kD, .ref kE, .ref kF, .ref kX, .ref kY, .int 0, .ref kT, .ref kU, .int 0, .int 0, .int 0])), (kN, .inl (cI, 2, .inl (fun _ => 0))), (kA, .inl (cI, 2, .inl (fun _ => 0)))] := hD
      have hw : r = 0 := hw.elim (fun h => absurd h.2 (hc2)) (fun h => h.1)
      subst hw
      refine lv_if_eq (tgt := 61) hx hb dX7_setPort_53 (by decide) (fun _ => ?_) (fun h9 => absurd (by decide) h9)
      refine lv_iconst (v := 1) hx hb dX7_setPort_61 (by decide) ?_
      refine lv_goto (tgt := 66) hx hb dX7_setPort_62 (by decide) ?_
      refine va_put (D := (dC, dI)) (ci := 10) (v := .int 1) (ty := .int) (C := RX7) (T := TX7) (N := 19) hx hb hts (fun w h => List.mem_cons_of_mem _ (List.mem_append_left _ (List.mem_append_right _ (h)))) tyX7 tyX7_ok nmX7 hown hK hP hD hS 0 rfl rfl 16 (by decide) (hts (.fieldLink RX7 57 "NetcompareModel" "thrown" "I") (List.mem_cons_of_mem _ (List.mem_append_left _ (List.mem_append_left _ (List.mem_of_getElem? (i := 2) rfl))))) (fun _ h9 => h9) rfl (by decide +kernel) rfl rfl (Nat.le_of_ble_eq_true rfl) dX7_setPort_66 (fun H locs hP hD hS => ?_)
      have hP : va_P (dC, dI) vwCl [(k0, .inr (10, [.ref kN, .ref kA, .ref kO, .ref kK, .ref kV, .ref kG, .ref kP, .ref kC, .ref kD, .ref kE, .ref kF, .ref kX, .ref kY, .int 0, .ref kT, .ref kU, .int 1, .int 0, .int 0])), (kN, .inl (cI, 2, .inl (fun _ => 0))), (kA, .inl (cI, 2, .inl (fun _ => 0)))] _ := hP
      have hD : va_D A [(k0, .inr (10, [.ref kN, .ref kA, .ref kO, .ref kK, .ref kV, .ref kG, .ref kP, .ref kC, .ref kD, .ref kE, .ref kF, .ref kX, .ref kY, .int 0, .ref kT, .ref kU, .int 1, .int 0, .int 0])), (kN, .inl (cI, 2, .inl (fun _ => 0))), (kA, .inl (cI, 2, .inl (fun _ => 0)))] := hD
      refine lv_bipush (v := 32) hx hb dX7_setPort_69 (by decide) ?_
      exact ret _ 1 _ _ _ _ _ _ (by decide) (Or.inl (⟨rfl, Or.inl (hc2)⟩)) (hP.sub [0] rfl) (hK.sub [] rfl) (hD.sub [0] (by decide) rfl) hS (Nat.le_of_ble_eq_true rfl) (Nat.le_of_ble_eq_true rfl) dX7_setPort_71
  · skip
    refine lv_iload_n hx hb dX7_setPort_6 rfl (lv_at hl 3 rfl) ?_
    refine lv_i2l (v := p2.toInt64) hx hb dX7_setPort_7 rfl ?_
    refine lv_ldc2 (v := 97) hx hb hown (hts (.constantLong RX7 85 (97)) (List.mem_cons_of_mem _ (List.mem_append_left _ (List.mem_append_left _ (List.mem_of_getElem? (i := 0) rfl))))) dX7_setPort_8 ?_
    refine lv_ldc2 (v := 102) hx hb hown (hts (.constantLong RX7 87 (102)) (List.mem_cons_of_mem _ (List.mem_append_left _ (List.mem_append_left _ (List.mem_of_getElem? (i := 1) rfl))))) dX7_setPort_11 ?_
    have hPc := hP.sub (ws' := []) [] rfl
    have hDc := hD.sub (ws' := []) [] (by decide) rfl
    have hKc := hK.sub (tys' := []) [] rfl
    have hFc := va_free (wc := []) hD hS hA [] rfl
    refine va_calli (va_runS (As := [.long p2.toInt64, .long 97, .long 102]) (rest := []) ⟨hx, hb, hml, hown, hts⟩ (kX7_in l dC dI p2.toInt64 97 102 s.heap.size) (va_cwS 3 hts gX7_setPort_X7_in rfl rfl rfl (by decide +kernel) ⟨Nat.le_of_ble_eq_true rfl, Nat.le_of_ble_eq_true rfl⟩) (fPreS hN hZ hS (fun q h => hFc q h) hPc hKc hDc) rfl rfl hl.1 rfl (lv_room (Nat.le_of_ble_eq_true rfl)) dX7_setPort_14 ⟨Nat.le_of_ble_eq_true rfl, Nat.le_of_ble_eq_true rfl⟩) hS (fun q _ h => hFc q h) hFc (fun r u t H1 locs ht hvm hw hB hz1 hk1 hS => ?_)
    obtain ⟨hP1, hK1, hD1⟩ := hB
    rw [ht] at hP1
    have hK1 := va_K.moved hvm.symm hK1
    obtain ⟨hP, hD⟩ := va_join (wr := [(k0, .inr (10, [.ref kN, .ref kA, .ref kO, .ref kK, .ref kV, .ref kG, .ref kP, .ref kC, .ref kD, .ref kE, .ref kF, .ref kX, .ref kY, .int 0, .ref kT, .ref kU, .int 0, .int 0, .int 0])), (kN, .inl (cI, 2, .inl (fun _ => 0))), (kA, .inl (cI, 2, .inl (fun _ => 0)))]) (w1 := []) hP hD [] [0, 1, 2] rfl rfl (by decide) (by decide) hk1 hFc hP1 hD1
    generalize H1 = H at hP hS ⊢
    have hP : va_P (dC, dI) vwCl [(k0, .inr (10, [.ref kN, .ref kA, .ref kO, .ref kK, .ref kV, .ref kG, .ref kP, .ref kC, .ref kD, .ref kE, .ref kF, .ref kX, .ref kY, .int 0, .ref kT, .ref kU, .int 0, .int 0, .int 0])), (kN, .inl (cI, 2, .inl (fun _ => 0))), (kA, .inl (cI, 2, .inl (fun _ => 0)))] _ := hP
    have hD : va_D A [(k0, .inr (10, [.ref kN, .ref kA, .ref kO, .ref kK, .ref kV, .ref kG, .ref kP, .ref kC, .ref kD, .ref kE, .ref kF, .ref kX, .ref kY, .int 0, .ref kT, .ref kU, .int 0, .int 0, .int 0])), (kN, .inl (cI, 2, .inl (fun _ => 0))), (kA, .inl (cI, 2, .inl (fun _ => 0)))] := hD
    rcases hw with ⟨rfl, hi9⟩ | ⟨rfl, hi9⟩
    · skip
      have hi3 : ((¬ (p2 < 97)) ∧ (¬ (102 < p2))) := (fIn p2 97 102 97 102 (by decide) (by decide)).mp hi9
      refine lv_if_eq (tgt := 24) hx hb dX7_setPort_17 (by decide) (fun h9 => absurd h9 (by decide)) (fun _ => ?_)
      refine lv_iconst (v := 1) hx hb dX7_setPort_20 (by decide) ?_
      refine lv_goto (tgt := 25) hx hb dX7_setPort_21 (by decide) ?_
      refine lv_istore (lv' := [(4, .int 1), (0, .ref k0), (1, .int p0), (2, .int p1), (3, .int p2)]) hx hb dX7_setPort_25 hl (Nat.le_of_ble_eq_true rfl) rfl (fun ls hl => ?_)
      refine lv_iload_n hx hb dX7_setPort_27 rfl (lv_at hl 2 rfl) ?_
      have hPc := hP.sub (ws' := []) [] rfl
      have hDc := hD.sub (ws' := []) [] (by decide) rfl
      have hKc := hK.sub (tys' := []) [] rfl
      have hFc := va_free (wc := []) hD hS hA [] rfl
      refine va_calli (va_runS (As := [.int p0]) (rest := []) ⟨hx, hb, hml, hown, hts⟩ (kX7_isCircuit l dC dI p0 H.size) (va_cwS 1 hts gX7_setPort_X7_isCircuit rfl rfl rfl (by decide +kernel) ⟨Nat.le_of_ble_eq_true rfl, Nat.le_of_ble_eq_true rfl⟩) (fPreS hN hZ hS (fun q h => hFc q h) hPc hKc hDc) rfl rfl hl.1 rfl (lv_room (Nat.le_of_ble_eq_true rfl)) dX7_setPort_28 ⟨Nat.le_of_ble_eq_true rfl, Nat.le_of_ble_eq_true rfl⟩) hS (fun q _ h => hFc q h) hFc (fun r u t H1 locs ht hvm hw hB hz1 hk1 hS => ?_)
      obtain ⟨hP1, hK1, hD1⟩ := hB
      rw [ht] at hP1
      have hK1 := va_K.moved hvm.symm hK1
      obtain ⟨hP, hD⟩ := va_join (wr := [(k0, .inr (10, [.ref kN, .ref kA, .ref kO, .ref kK, .ref kV, .ref kG, .ref kP, .ref kC, .ref kD, .ref kE, .ref kF, .ref kX, .ref kY, .int 0, .ref kT, .ref kU, .int 0, .int 0, .int 0])), (kN, .inl (cI, 2, .inl (fun _ => 0))), (kA, .inl (cI, 2, .inl (fun _ => 0)))]) (w1 := []) hP hD [] [0, 1, 2] rfl rfl (by decide) (by decide) hk1 hFc hP1 hD1
      generalize H1 = H at hP hS ⊢
      have hP : va_P (dC, dI) vwCl [(k0, .inr (10, [.ref kN, .ref kA, .ref kO, .ref kK, .ref kV, .ref kG, .ref kP, .ref kC, .ref kD, .ref kE, .ref kF, .ref kX, .ref kY, .int 0, .ref kT, .ref kU, .int 0, .int 0, .int 0])), (kN, .inl (cI, 2, .inl (fun _ => 0))), (kA, .inl (cI, 2, .inl (fun _ => 0)))] _ := hP
      have hD : va_D A [(k0, .inr (10, [.ref kN, .ref kA, .ref kO, .ref kK, .ref kV, .ref kG, .ref kP, .ref kC, .ref kD, .ref kE, .ref kF, .ref kX, .ref kY, .int 0, .ref kT, .ref kU, .int 0, .int 0, .int 0])), (kN, .inl (cI, 2, .inl (fun _ => 0))), (kA, .inl (cI, 2, .inl (fun _ => 0)))] := hD
      rcases hw with ⟨rfl, hc | hc⟩ | ⟨rfl, hc⟩
      · skip
        subst hc
        have hP : va_P (dC, dI) vwCl [(k0, .inr (10, [.ref kN, .ref kA, .ref kO, .ref kK, .ref kV, .ref kG, .ref kP, .ref kC, .ref kD, .ref kE, .ref kF, .ref kX, .ref kY, .int 0, .ref kT, .ref kU, .int 0, .int 0, .int 0])), (kN, .inl (cI, 2, .inl (fun _ => 0))), (kA, .inl (cI, 2, .inl (fun _ => 0)))] _ := hP
        have hD : va_D A [(k0, .inr (10, [.ref kN, .ref kA, .ref kO, .ref kK, .ref kV, .ref kG, .ref kP, .ref kC, .ref kD, .ref kE, .ref kF, .ref kX, .ref kY, .int 0, .ref kT, .ref kU, .int 0, .int 0, .int 0])), (kN, .inl (cI, 2, .inl (fun _ => 0))), (kA, .inl (cI, 2, .inl (fun _ => 0)))] := hD
        refine lv_if_eq (tgt := 48) hx hb dX7_setPort_31 (by decide) (fun h9 => absurd h9 (by decide)) (fun _ => ?_)
        refine lv_iload hx hb dX7_setPort_34 (lv_at hl 0 rfl) ?_
        refine lv_if_eq (tgt := 48) hx hb dX7_setPort_36 (by decide) (fun h9 => absurd h9 (by decide)) (fun _ => ?_)
        refine lv_aload_n hx hb dX7_setPort_39 rfl (lv_at hl 1 rfl) ?_
        refine lv_iload_n hx hb dX7_setPort_40 rfl (lv_at hl 2 rfl) ?_
        refine lv_iload_n hx hb dX7_setPort_41 rfl (lv_at hl 3 rfl) ?_
        have hPc := hP.sub (ws' := [(k0, .inr (10, [.ref kN, .ref kA, .ref kO, .ref kK, .ref kV, .ref kG, .ref kP, .ref kC, .ref kD, .ref kE, .ref kF, .ref kX, .ref kY, .int 0, .ref kT, .ref kU, .int 0, .int 0, .int 0])), (kN, .inl (cI, 2, .inl (fun _ => 0)))]) [0, 1] rfl
        have hDc := hD.sub (ws' := [(k0, .inr (10, [.ref kN, .ref kA, .ref kO, .ref kK, .ref kV, .ref kG, .ref kP, .ref kC, .ref kD, .ref kE, .ref kF, .ref kX, .ref kY, .int 0, .ref kT, .ref kU, .int 0, .int 0, .int 0])), (kN, .inl (cI, 2, .inl (fun _ => 0)))]) [0, 1] (by decide) rfl
        have hKc := hK.sub (tys' := [(cI, .int)]) [0] rfl
        have hFc := va_free (wc := [(k0, .inr (10, [.ref kN, .ref kA, .ref kO, .ref kK, .ref kV, .ref kG, .ref kP, .ref kC, .ref kD, .ref kE, .ref kF, .ref kX, .ref kY, .int 0, .ref kT, .ref kU, .int 0, .int 0, .int 0])), (kN, .inl (cI, 2, .inl (fun _ => 0)))]) hD hS hA [0, 1] rfl
        refine va_calli (va_runV (As := [.int 0, .int p1]) (rest := []) ⟨hx, hb, hml, hown, hts⟩ (kX7_isNet0 l dC dI k0 kN kA kO kK kV kG kP kC kD kE kF kX kY kT kU cI p1 H.size) (cwV 2 hts gX7_setPort_X7_isNet rfl rfl rfl (by decide +kernel) ⟨Nat.le_of_ble_eq_true rfl, Nat.le_of_ble_eq_true rfl⟩) (fPreV hN hZ hS (fun q h => hFc q h) hPc hKc hDc (ci := 10) (q0 := 0) rfl rfl) rfl rfl hl.1 rfl (lv_room (Nat.le_of_ble_eq_true rfl)) dX7_setPort_42 ⟨Nat.le_of_ble_eq_true rfl, Nat.le_of_ble_eq_true rfl⟩) hS (fun q _ h => hFc q h) hFc (fun r u t H1 locs ht hvm hw hB hz1 hk1 hS => ?_)
        obtain ⟨hP1, hK1, hD1⟩ := hB
        rw [ht] at hP1
        have hK1 := va_K.moved hvm.symm hK1
        obtain ⟨hP, hD⟩ := va_join (wr := [(kA, .inl (cI, 2, .inl (fun _ => 0)))]) (w1 := [(k0, .inr (10, [.ref kN, .ref kA, .ref kO, .ref kK, .ref kV, .ref kG, .ref kP, .ref kC, .ref kD, .ref kE, .ref kF, .ref kX, .ref kY, .int 0, .ref kT, .ref kU, .int 0, .int 0, .int 0])), (kN, .inl (cI, 2, .inl (fun _ => 0)))]) hP hD [0, 1] [2] rfl rfl (by decide) (by decide) hk1 hFc hP1 hD1
        generalize H1 = H at hP hS ⊢
        have hP : va_P (dC, dI) vwCl [(kA, .inl (cI, 2, .inl (fun _ => 0))), (k0, .inr (10, [.ref kN, .ref kA, .ref kO, .ref kK, .ref kV, .ref kG, .ref kP, .ref kC, .ref kD, .ref kE, .ref kF, .ref kX, .ref kY, .int 0, .ref kT, .ref kU, .int 0, .int 0, .int 0])), (kN, .inl (cI, 2, .inl (fun _ => 0)))] _ := hP
        have hD : va_D A [(kA, .inl (cI, 2, .inl (fun _ => 0))), (k0, .inr (10, [.ref kN, .ref kA, .ref kO, .ref kK, .ref kV, .ref kG, .ref kP, .ref kC, .ref kD, .ref kE, .ref kF, .ref kX, .ref kY, .int 0, .ref kT, .ref kU, .int 0, .int 0, .int 0])), (kN, .inl (cI, 2, .inl (fun _ => 0)))] := hD
        subst hw
        refine lv_if_ne (tgt := 72) hx hb dX7_setPort_45 (by decide) (fun h9 => absurd (by decide) h9) (fun _ => ?_)
        refine lv_aload_n hx hb dX7_setPort_48 rfl (lv_at hl 1 rfl) ?_
        refine lv_iload_n hx hb dX7_setPort_49 rfl (lv_at hl 2 rfl) ?_
        have hPc := hP.sub (ws' := []) [] rfl
        have hDc := hD.sub (ws' := []) [] (by decide) rfl
        have hKc := hK.sub (tys' := []) [] rfl
        have hFc := va_free (wc := []) hD hS hA [] rfl
        refine va_calli (va_runS (As := [.int 0]) (rest := [.ref k0]) ⟨hx, hb, hml, hown, hts⟩ (kX7_isCircuit l dC dI 0 H.size) (va_cwS 1 hts gX7_setPort_X7_isCircuit rfl rfl rfl (by decide +kernel) ⟨Nat.le_of_ble_eq_true rfl, Nat.le_of_ble_eq_true rfl⟩) (fPreS hN hZ hS (fun q h => hFc q h) hPc hKc hDc) rfl rfl hl.1 rfl (lv_room (Nat.le_of_ble_eq_true rfl)) dX7_setPort_50 ⟨Nat.le_of_ble_eq_true rfl, Nat.le_of_ble_eq_true rfl⟩) hS (fun q _ h => hFc q h) hFc (fun r u t H1 locs ht hvm hw hB hz1 hk1 hS => ?_)
        obtain ⟨hP1, hK1, hD1⟩ := hB
        rw [ht] at hP1
        have hK1 := va_K.moved hvm.symm hK1
        obtain ⟨hP, hD⟩ := va_join (wr := [(kA, .inl (cI, 2, .inl (fun _ => 0))), (k0, .inr (10, [.ref kN, .ref kA, .ref kO, .ref kK, .ref kV, .ref kG, .ref kP, .ref kC, .ref kD, .ref kE, .ref kF, .ref kX, .ref kY, .int 0, .ref kT, .ref kU, .int 0, .int 0, .int 0])), (kN, .inl (cI, 2, .inl (fun _ => 0)))]) (w1 := []) hP hD [] [0, 1, 2] rfl rfl (by decide) (by decide) hk1 hFc hP1 hD1
        generalize H1 = H at hP hS ⊢
        have hP : va_P (dC, dI) vwCl [(kA, .inl (cI, 2, .inl (fun _ => 0))), (k0, .inr (10, [.ref kN, .ref kA, .ref kO, .ref kK, .ref kV, .ref kG, .ref kP, .ref kC, .ref kD, .ref kE, .ref kF, .ref kX, .ref kY, .int 0, .ref kT, .ref kU, .int 0, .int 0, .int 0])), (kN, .inl (cI, 2, .inl (fun _ => 0)))] _ := hP
        have hD : va_D A [(kA, .inl (cI, 2, .inl (fun _ => 0))), (k0, .inr (10, [.ref kN, .ref kA, .ref kO, .ref kK, .ref kV, .ref kG, .ref kP, .ref kC, .ref kD, .ref kE, .ref kF, .ref kX, .ref kY, .int 0, .ref kT, .ref kU, .int 0, .int 0, .int 0])), (kN, .inl (cI, 2, .inl (fun _ => 0)))] := hD
        have hw : r = 1 := hw.elim (fun h => h.1) (fun h => absurd (by decide) h.2)
        subst hw
        refine lv_if_eq (tgt := 61) hx hb dX7_setPort_53 (by decide) (fun h9 => absurd h9 (by decide)) (fun _ => ?_)
        refine lv_iload hx hb dX7_setPort_56 (lv_at hl 0 rfl) ?_
        refine lv_if_ne (tgt := 65) hx hb dX7_setPort_58 (by decide) (fun _ => ?_) (fun h9 => absurd h9 (by decide))
        refine lv_iconst (v := 2) hx hb dX7_setPort_65 (by decide) ?_
        refine va_put (D := (dC, dI)) (ci := 10) (v := .int 2) (ty := .int) (C := RX7) (T := TX7) (N := 19) hx hb hts (fun w h => List.mem_cons_of_mem _ (List.mem_append_left _ (List.mem_append_right _ (h)))) tyX7 tyX7_ok nmX7 hown hK hP hD hS 1 rfl rfl 16 (by decide) (hts (.fieldLink RX7 57 "NetcompareModel" "thrown" "I") (List.mem_cons_of_mem _ (List.mem_append_left _ (List.mem_append_left _ (List.mem_of_getElem? (i := 2) rfl))))) (fun _ h9 => h9) rfl (by decide +kernel) rfl rfl (Nat.le_of_ble_eq_true rfl) dX7_setPort_66 (fun H locs hP hD hS => ?_)
        have hP : va_P (dC, dI) vwCl [(kA, .inl (cI, 2, .inl (fun _ => 0))), (k0, .inr (10, [.ref kN, .ref kA, .ref kO, .ref kK, .ref kV, .ref kG, .ref kP, .ref kC, .ref kD, .ref kE, .ref kF, .ref kX, .ref kY, .int 0, .ref kT, .ref kU, .int 2, .int 0, .int 0])), (kN, .inl (cI, 2, .inl (fun _ => 0)))] _ := hP
        have hD : va_D A [(kA, .inl (cI, 2, .inl (fun _ => 0))), (k0, .inr (10, [.ref kN, .ref kA, .ref kO, .ref kK, .ref kV, .ref kG, .ref kP, .ref kC, .ref kD, .ref kE, .ref kF, .ref kX, .ref kY, .int 0, .ref kT, .ref kU, .int 2, .int 0, .int 0])), (kN, .inl (cI, 2, .inl (fun _ => 0)))] := hD
        refine lv_bipush (v := 32) hx hb dX7_setPort_69 (by decide) ?_
        exact ret _ 2 _ _ _ _ _ _ (by decide) (Or.inr (⟨rfl, (fun h9 => h9.elim ((fun h9 => h9 (Or.inl (rfl)))) ((fun h9 => h9 (Or.inr (hi3)))))⟩)) (hP.sub [1] rfl) (hK.sub [] rfl) (hD.sub [1] (by decide) rfl) hS (Nat.le_of_ble_eq_true rfl) (Nat.le_of_ble_eq_true rfl) dX7_setPort_71
      · skip
        subst hc
        have hP : va_P (dC, dI) vwCl [(k0, .inr (10, [.ref kN, .ref kA, .ref kO, .ref kK, .ref kV, .ref kG, .ref kP, .ref kC, .ref kD, .ref kE, .ref kF, .ref kX, .ref kY, .int 0, .ref kT, .ref kU, .int 0, .int 0, .int 0])), (kN, .inl (cI, 2, .inl (fun _ => 0))), (kA, .inl (cI, 2, .inl (fun _ => 0)))] _ := hP
        have hD : va_D A [(k0, .inr (10, [.ref kN, .ref kA, .ref kO, .ref kK, .ref kV, .ref kG, .ref kP, .ref kC, .ref kD, .ref kE, .ref kF, .ref kX, .ref kY, .int 0, .ref kT, .ref kU, .int 0, .int 0, .int 0])), (kN, .inl (cI, 2, .inl (fun _ => 0))), (kA, .inl (cI, 2, .inl (fun _ => 0)))] := hD
        refine lv_if_eq (tgt := 48) hx hb dX7_setPort_31 (by decide) (fun h9 => absurd h9 (by decide)) (fun _ => ?_)
        refine lv_iload hx hb dX7_setPort_34 (lv_at hl 0 rfl) ?_
        refine lv_if_eq (tgt := 48) hx hb dX7_setPort_36 (by decide) (fun h9 => absurd h9 (by decide)) (fun _ => ?_)
        refine lv_aload_n hx hb dX7_setPort_39 rfl (lv_at hl 1 rfl) ?_
        refine lv_iload_n hx hb dX7_setPort_40 rfl (lv_at hl 2 rfl) ?_
        refine lv_iload_n hx hb dX7_setPort_41 rfl (lv_at hl 3 rfl) ?_
        have hPc := hP.sub (ws' := [(k0, .inr (10, [.ref kN, .ref kA, .ref kO, .ref kK, .ref kV, .ref kG, .ref kP, .ref kC, .ref kD, .ref kE, .ref kF, .ref kX, .ref kY, .int 0, .ref kT, .ref kU, .int 0, .int 0, .int 0])), (kN, .inl (cI, 2, .inl (fun _ => 0)))]) [0, 1] rfl
        have hDc := hD.sub (ws' := [(k0, .inr (10, [.ref kN, .ref kA, .ref kO, .ref kK, .ref kV, .ref kG, .ref kP, .ref kC, .ref kD, .ref kE, .ref kF, .ref kX, .ref kY, .int 0, .ref kT, .ref kU, .int 0, .int 0, .int 0])), (kN, .inl (cI, 2, .inl (fun _ => 0)))]) [0, 1] (by decide) rfl
        have hKc := hK.sub (tys' := [(cI, .int)]) [0] rfl
        have hFc := va_free (wc := [(k0, .inr (10, [.ref kN, .ref kA, .ref kO, .ref kK, .ref kV, .ref kG, .ref kP, .ref kC, .ref kD, .ref kE, .ref kF, .ref kX, .ref kY, .int 0, .ref kT, .ref kU, .int 0, .int 0, .int 0])), (kN, .inl (cI, 2, .inl (fun _ => 0)))]) hD hS hA [0, 1] rfl
        refine va_calli (va_runV (As := [.int 1, .int p1]) (rest := []) ⟨hx, hb, hml, hown, hts⟩ (kX7_isNet1 l dC dI k0 kN kA kO kK kV kG kP kC kD kE kF kX kY kT kU cI p1 H.size) (cwV 2 hts gX7_setPort_X7_isNet rfl rfl rfl (by decide +kernel) ⟨Nat.le_of_ble_eq_true rfl, Nat.le_of_ble_eq_true rfl⟩) (fPreV hN hZ hS (fun q h => hFc q h) hPc hKc hDc (ci := 10) (q0 := 0) rfl rfl) rfl rfl hl.1 rfl (lv_room (Nat.le_of_ble_eq_true rfl)) dX7_setPort_42 ⟨Nat.le_of_ble_eq_true rfl, Nat.le_of_ble_eq_true rfl⟩) hS (fun q _ h => hFc q h) hFc (fun r u t H1 locs ht hvm hw hB hz1 hk1 hS => ?_)
        obtain ⟨hP1, hK1, hD1⟩ := hB
        rw [ht] at hP1
        have hK1 := va_K.moved hvm.symm hK1
        obtain ⟨hP, hD⟩ := va_join (wr := [(kA, .inl (cI, 2, .inl (fun _ => 0)))]) (w1 := [(k0, .inr (10, [.ref kN, .ref kA, .ref kO, .ref kK, .ref kV, .ref kG, .ref kP, .ref kC, .ref kD, .ref kE, .ref kF, .ref kX, .ref kY, .int 0, .ref kT, .ref kU, .int 0, .int 0, .int 0])), (kN, .inl (cI, 2, .inl (fun _ => 0)))]) hP hD [0, 1] [2] rfl rfl (by decide) (by decide) hk1 hFc hP1 hD1
        generalize H1 = H at hP hS ⊢
        have hP : va_P (dC, dI) vwCl [(kA, .inl (cI, 2, .inl (fun _ => 0))), (k0, .inr (10, [.ref kN, .ref kA, .ref kO, .ref kK, .ref kV, .ref kG, .ref kP, .ref kC, .ref kD, .ref kE, .ref kF, .ref kX, .ref kY, .int 0, .ref kT, .ref kU, .int 0, .int 0, .int 0])), (kN, .inl (cI, 2, .inl (fun _ => 0)))] _ := hP
        have hD : va_D A [(kA, .inl (cI, 2, .inl (fun _ => 0))), (k0, .inr (10, [.ref kN, .ref kA, .ref kO, .ref kK, .ref kV, .ref kG, .ref kP, .ref kC, .ref kD, .ref kE, .ref kF, .ref kX, .ref kY, .int 0, .ref kT, .ref kU, .int 0, .int 0, .int 0])), (kN, .inl (cI, 2, .inl (fun _ => 0)))] := hD
        subst hw
        refine lv_if_ne (tgt := 72) hx hb dX7_setPort_45 (by decide) (fun h9 => absurd (by decide) h9) (fun _ => ?_)
        refine lv_aload_n hx hb dX7_setPort_48 rfl (lv_at hl 1 rfl) ?_
        refine lv_iload_n hx hb dX7_setPort_49 rfl (lv_at hl 2 rfl) ?_
        have hPc := hP.sub (ws' := []) [] rfl
        have hDc := hD.sub (ws' := []) [] (by decide) rfl
        have hKc := hK.sub (tys' := []) [] rfl
        have hFc := va_free (wc := []) hD hS hA [] rfl
        refine va_calli (va_runS (As := [.int 1]) (rest := [.ref k0]) ⟨hx, hb, hml, hown, hts⟩ (kX7_isCircuit l dC dI 1 H.size) (va_cwS 1 hts gX7_setPort_X7_isCircuit rfl rfl rfl (by decide +kernel) ⟨Nat.le_of_ble_eq_true rfl, Nat.le_of_ble_eq_true rfl⟩) (fPreS hN hZ hS (fun q h => hFc q h) hPc hKc hDc) rfl rfl hl.1 rfl (lv_room (Nat.le_of_ble_eq_true rfl)) dX7_setPort_50 ⟨Nat.le_of_ble_eq_true rfl, Nat.le_of_ble_eq_true rfl⟩) hS (fun q _ h => hFc q h) hFc (fun r u t H1 locs ht hvm hw hB hz1 hk1 hS => ?_)
        obtain ⟨hP1, hK1, hD1⟩ := hB
        rw [ht] at hP1
        have hK1 := va_K.moved hvm.symm hK1
        obtain ⟨hP, hD⟩ := va_join (wr := [(kA, .inl (cI, 2, .inl (fun _ => 0))), (k0, .inr (10, [.ref kN, .ref kA, .ref kO, .ref kK, .ref kV, .ref kG, .ref kP, .ref kC, .ref kD, .ref kE, .ref kF, .ref kX, .ref kY, .int 0, .ref kT, .ref kU, .int 0, .int 0, .int 0])), (kN, .inl (cI, 2, .inl (fun _ => 0)))]) (w1 := []) hP hD [] [0, 1, 2] rfl rfl (by decide) (by decide) hk1 hFc hP1 hD1
        generalize H1 = H at hP hS ⊢
        have hP : va_P (dC, dI) vwCl [(kA, .inl (cI, 2, .inl (fun _ => 0))), (k0, .inr (10, [.ref kN, .ref kA, .ref kO, .ref kK, .ref kV, .ref kG, .ref kP, .ref kC, .ref kD, .ref kE, .ref kF, .ref kX, .ref kY, .int 0, .ref kT, .ref kU, .int 0, .int 0, .int 0])), (kN, .inl (cI, 2, .inl (fun _ => 0)))] _ := hP
        have hD : va_D A [(kA, .inl (cI, 2, .inl (fun _ => 0))), (k0, .inr (10, [.ref kN, .ref kA, .ref kO, .ref kK, .ref kV, .ref kG, .ref kP, .ref kC, .ref kD, .ref kE, .ref kF, .ref kX, .ref kY, .int 0, .ref kT, .ref kU, .int 0, .int 0, .int 0])), (kN, .inl (cI, 2, .inl (fun _ => 0)))] := hD
        have hw : r = 1 := hw.elim (fun h => h.1) (fun h => absurd (by decide) h.2)
        subst hw
        refine lv_if_eq (tgt := 61) hx hb dX7_setPort_53 (by decide) (fun h9 => absurd h9 (by decide)) (fun _ => ?_)
        refine lv_iload hx hb dX7_setPort_56 (lv_at hl 0 rfl) ?_
        refine lv_if_ne (tgt := 65) hx hb dX7_setPort_58 (by decide) (fun _ => ?_) (fun h9 => absurd h9 (by decide))
        refine lv_iconst (v := 2) hx hb dX7_setPort_65 (by decide) ?_
        refine va_put (D := (dC, dI)) (ci := 10) (v := .int 2) (ty := .int) (C := RX7) (T := TX7) (N := 19) hx hb hts (fun w h => List.mem_cons_of_mem _ (List.mem_append_left _ (List.mem_append_right _ (h)))) tyX7 tyX7_ok nmX7 hown hK hP hD hS 1 rfl rfl 16 (by decide) (hts (.fieldLink RX7 57 "NetcompareModel" "thrown" "I") (List.mem_cons_of_mem _ (List.mem_append_left _ (List.mem_append_left _ (List.mem_of_getElem? (i := 2) rfl))))) (fun _ h9 => h9) rfl (by decide +kernel) rfl rfl (Nat.le_of_ble_eq_true rfl) dX7_setPort_66 (fun H locs hP hD hS => ?_)
        have hP : va_P (dC, dI) vwCl [(kA, .inl (cI, 2, .inl (fun _ => 0))), (k0, .inr (10, [.ref kN, .ref kA, .ref kO, .ref kK, .ref kV, .ref kG, .ref kP, .ref kC, .ref kD, .ref kE, .ref kF, .ref kX, .ref kY, .int 0, .ref kT, .ref kU, .int 2, .int 0, .int 0])), (kN, .inl (cI, 2, .inl (fun _ => 0)))] _ := hP
        have hD : va_D A [(kA, .inl (cI, 2, .inl (fun _ => 0))), (k0, .inr (10, [.ref kN, .ref kA, .ref kO, .ref kK, .ref kV, .ref kG, .ref kP, .ref kC, .ref kD, .ref kE, .ref kF, .ref kX, .ref kY, .int 0, .ref kT, .ref kU, .int 2, .int 0, .int 0])), (kN, .inl (cI, 2, .inl (fun _ => 0)))] := hD
        refine lv_bipush (v := 32) hx hb dX7_setPort_69 (by decide) ?_
        exact ret _ 2 _ _ _ _ _ _ (by decide) (Or.inr (⟨rfl, (fun h9 => h9.elim ((fun h9 => h9 (Or.inr (rfl)))) ((fun h9 => h9 (Or.inr (hi3)))))⟩)) (hP.sub [1] rfl) (hK.sub [] rfl) (hD.sub [1] (by decide) rfl) hS (Nat.le_of_ble_eq_true rfl) (Nat.le_of_ble_eq_true rfl) dX7_setPort_71
      · skip
        have hc4 := hc
        refine lv_if_eq (tgt := 48) hx hb dX7_setPort_31 (by decide) (fun _ => ?_) (fun h9 => absurd (by decide) h9)
        refine lv_aload_n hx hb dX7_setPort_48 rfl (lv_at hl 1 rfl) ?_
        refine lv_iload_n hx hb dX7_setPort_49 rfl (lv_at hl 2 rfl) ?_
        have hPc := hP.sub (ws' := []) [] rfl
        have hDc := hD.sub (ws' := []) [] (by decide) rfl
        have hKc := hK.sub (tys' := []) [] rfl
        have hFc := va_free (wc := []) hD hS hA [] rfl
        refine va_calli (va_runS (As := [.int p0]) (rest := [.ref k0]) ⟨hx, hb, hml, hown, hts⟩ (kX7_isCircuit l dC dI p0 H.size) (va_cwS 1 hts gX7_setPort_X7_isCircuit rfl rfl rfl (by decide +kernel) ⟨Nat.le_of_ble_eq_true rfl, Nat.le_of_ble_eq_true rfl⟩) (fPreS hN hZ hS (fun q h => hFc q h) hPc hKc hDc) rfl rfl hl.1 rfl (lv_room (Nat.le_of_ble_eq_true rfl)) dX7_setPort_50 ⟨Nat.le_of_ble_eq_true rfl, Nat.le_of_ble_eq_true rfl⟩) hS (fun q _ h => hFc q h) hFc (fun r u t H1 locs ht hvm hw hB hz1 hk1 hS => ?_)
        obtain ⟨hP1, hK1, hD1⟩ := hB
        rw [ht] at hP1
        have hK1 := va_K.moved hvm.symm hK1
        obtain ⟨hP, hD⟩ := va_join (wr := [(k0, .inr (10, [.ref kN, .ref kA, .ref kO, .ref kK, .ref kV, .ref kG, .ref kP, .ref kC, .ref kD, .ref kE, .ref kF, .ref kX, .ref kY, .int 0, .ref kT, .ref kU, .int 0, .int 0, .int 0])), (kN, .inl (cI, 2, .inl (fun _ => 0))), (kA, .inl (cI, 2, .inl (fun _ => 0)))]) (w1 := []) hP hD [] [0, 1, 2] rfl rfl (by decide) (by decide) hk1 hFc hP1 hD1
        generalize H1 = H at hP hS ⊢
        have hP : va_P (dC, dI) vwCl [(k0, .inr (10, [.ref kN, .ref kA, .ref kO, .ref kK, .ref kV, .ref kG, .ref kP, .ref kC, .ref kD, .ref kE, .ref kF, .ref kX, .ref kY, .int 0, .ref kT, .ref kU, .int 0, .int 0, .int 0])), (kN, .inl (cI, 2, .inl (fun _ => 0))), (kA, .inl (cI, 2, .inl (fun _ => 0)))] _ := hP
        have hD : va_D A [(k0, .inr (10, [.ref kN, .ref kA, .ref kO, .ref kK, .ref kV, .ref kG, .ref kP, .ref kC, .ref kD, .ref kE, .ref kF, .ref kX, .ref kY, .int 0, .ref kT, .ref kU, .int 0, .int 0, .int 0])), (kN, .inl (cI, 2, .inl (fun _ => 0))), (kA, .inl (cI, 2, .inl (fun _ => 0)))] := hD
        have hw : r = 0 := hw.elim (fun h => absurd h.2 (hc4)) (fun h => h.1)
        subst hw
        refine lv_if_eq (tgt := 61) hx hb dX7_setPort_53 (by decide) (fun _ => ?_) (fun h9 => absurd (by decide) h9)
        refine lv_iconst (v := 1) hx hb dX7_setPort_61 (by decide) ?_
        refine lv_goto (tgt := 66) hx hb dX7_setPort_62 (by decide) ?_
        refine va_put (D := (dC, dI)) (ci := 10) (v := .int 1) (ty := .int) (C := RX7) (T := TX7) (N := 19) hx hb hts (fun w h => List.mem_cons_of_mem _ (List.mem_append_left _ (List.mem_append_right _ (h)))) tyX7 tyX7_ok nmX7 hown hK hP hD hS 0 rfl rfl 16 (by decide) (hts (.fieldLink RX7 57 "NetcompareModel" "thrown" "I") (List.mem_cons_of_mem _ (List.mem_append_left _ (List.mem_append_left _ (List.mem_of_getElem? (i := 2) rfl))))) (fun _ h9 => h9) rfl (by decide +kernel) rfl rfl (Nat.le_of_ble_eq_true rfl) dX7_setPort_66 (fun H locs hP hD hS => ?_)
        have hP : va_P (dC, dI) vwCl [(k0, .inr (10, [.ref kN, .ref kA, .ref kO, .ref kK, .ref kV, .ref kG, .ref kP, .ref kC, .ref kD, .ref kE, .ref kF, .ref kX, .ref kY, .int 0, .ref kT, .ref kU, .int 1, .int 0, .int 0])), (kN, .inl (cI, 2, .inl (fun _ => 0))), (kA, .inl (cI, 2, .inl (fun _ => 0)))] _ := hP
        have hD : va_D A [(k0, .inr (10, [.ref kN, .ref kA, .ref kO, .ref kK, .ref kV, .ref kG, .ref kP, .ref kC, .ref kD, .ref kE, .ref kF, .ref kX, .ref kY, .int 0, .ref kT, .ref kU, .int 1, .int 0, .int 0])), (kN, .inl (cI, 2, .inl (fun _ => 0))), (kA, .inl (cI, 2, .inl (fun _ => 0)))] := hD
        refine lv_bipush (v := 32) hx hb dX7_setPort_69 (by decide) ?_
        exact ret _ 1 _ _ _ _ _ _ (by decide) (Or.inl (⟨rfl, Or.inl (hc4)⟩)) (hP.sub [0] rfl) (hK.sub [] rfl) (hD.sub [0] (by decide) rfl) hS (Nat.le_of_ble_eq_true rfl) (Nat.le_of_ble_eq_true rfl) dX7_setPort_71
    · skip
      have hi5 : ¬ ((¬ (p2 < 97)) ∧ (¬ (102 < p2))) := fun q => hi9 ((fIn p2 97 102 97 102 (by decide) (by decide)).mpr q)
      refine lv_if_eq (tgt := 24) hx hb dX7_setPort_17 (by decide) (fun _ => ?_) (fun h9 => absurd (by decide) h9)
      refine lv_iconst (v := 0) hx hb dX7_setPort_24 (by decide) ?_
      refine lv_istore (lv' := [(4, .int 0), (0, .ref k0), (1, .int p0), (2, .int p1), (3, .int p2)]) hx hb dX7_setPort_25 hl (Nat.le_of_ble_eq_true rfl) rfl (fun ls hl => ?_)
      refine lv_iload_n hx hb dX7_setPort_27 rfl (lv_at hl 2 rfl) ?_
      have hPc := hP.sub (ws' := []) [] rfl
      have hDc := hD.sub (ws' := []) [] (by decide) rfl
      have hKc := hK.sub (tys' := []) [] rfl
      have hFc := va_free (wc := []) hD hS hA [] rfl
      refine va_calli (va_runS (As := [.int p0]) (rest := []) ⟨hx, hb, hml, hown, hts⟩ (kX7_isCircuit l dC dI p0 H.size) (va_cwS 1 hts gX7_setPort_X7_isCircuit rfl rfl rfl (by decide +kernel) ⟨Nat.le_of_ble_eq_true rfl, Nat.le_of_ble_eq_true rfl⟩) (fPreS hN hZ hS (fun q h => hFc q h) hPc hKc hDc) rfl rfl hl.1 rfl (lv_room (Nat.le_of_ble_eq_true rfl)) dX7_setPort_28 ⟨Nat.le_of_ble_eq_true rfl, Nat.le_of_ble_eq_true rfl⟩) hS (fun q _ h => hFc q h) hFc (fun r u t H1 locs ht hvm hw hB hz1 hk1 hS => ?_)
      obtain ⟨hP1, hK1, hD1⟩ := hB
      rw [ht] at hP1
      have hK1 := va_K.moved hvm.symm hK1
      obtain ⟨hP, hD⟩ := va_join (wr := [(k0, .inr (10, [.ref kN, .ref kA, .ref kO, .ref kK, .ref kV, .ref kG, .ref kP, .ref kC, .ref kD, .ref kE, .ref kF, .ref kX, .ref kY, .int 0, .ref kT, .ref kU, .int 0, .int 0, .int 0])), (kN, .inl (cI, 2, .inl (fun _ => 0))), (kA, .inl (cI, 2, .inl (fun _ => 0)))]) (w1 := []) hP hD [] [0, 1, 2] rfl rfl (by decide) (by decide) hk1 hFc hP1 hD1
      generalize H1 = H at hP hS ⊢
      have hP : va_P (dC, dI) vwCl [(k0, .inr (10, [.ref kN, .ref kA, .ref kO, .ref kK, .ref kV, .ref kG, .ref kP, .ref kC, .ref kD, .ref kE, .ref kF, .ref kX, .ref kY, .int 0, .ref kT, .ref kU, .int 0, .int 0, .int 0])), (kN, .inl (cI, 2, .inl (fun _ => 0))), (kA, .inl (cI, 2, .inl (fun _ => 0)))] _ := hP
      have hD : va_D A [(k0, .inr (10, [.ref kN, .ref kA, .ref kO, .ref kK, .ref kV, .ref kG, .ref kP, .ref kC, .ref kD, .ref kE, .ref kF, .ref kX, .ref kY, .int 0, .ref kT, .ref kU, .int 0, .int 0, .int 0])), (kN, .inl (cI, 2, .inl (fun _ => 0))), (kA, .inl (cI, 2, .inl (fun _ => 0)))] := hD
      rcases hw with ⟨rfl, hc | hc⟩ | ⟨rfl, hc⟩
      · skip
        subst hc
        have hP : va_P (dC, dI) vwCl [(k0, .inr (10, [.ref kN, .ref kA, .ref kO, .ref kK, .ref kV, .ref kG, .ref kP, .ref kC, .ref kD, .ref kE, .ref kF, .ref kX, .ref kY, .int 0, .ref kT, .ref kU, .int 0, .int 0, .int 0])), (kN, .inl (cI, 2, .inl (fun _ => 0))), (kA, .inl (cI, 2, .inl (fun _ => 0)))] _ := hP
        have hD : va_D A [(k0, .inr (10, [.ref kN, .ref kA, .ref kO, .ref kK, .ref kV, .ref kG, .ref kP, .ref kC, .ref kD, .ref kE, .ref kF, .ref kX, .ref kY, .int 0, .ref kT, .ref kU, .int 0, .int 0, .int 0])), (kN, .inl (cI, 2, .inl (fun _ => 0))), (kA, .inl (cI, 2, .inl (fun _ => 0)))] := hD
        refine lv_if_eq (tgt := 48) hx hb dX7_setPort_31 (by decide) (fun h9 => absurd h9 (by decide)) (fun _ => ?_)
        refine lv_iload hx hb dX7_setPort_34 (lv_at hl 0 rfl) ?_
        refine lv_if_eq (tgt := 48) hx hb dX7_setPort_36 (by decide) (fun _ => ?_) (fun h9 => absurd (by decide) h9)
        refine lv_aload_n hx hb dX7_setPort_48 rfl (lv_at hl 1 rfl) ?_
        refine lv_iload_n hx hb dX7_setPort_49 rfl (lv_at hl 2 rfl) ?_
        have hPc := hP.sub (ws' := []) [] rfl
        have hDc := hD.sub (ws' := []) [] (by decide) rfl
        have hKc := hK.sub (tys' := []) [] rfl
        have hFc := va_free (wc := []) hD hS hA [] rfl
        refine va_calli (va_runS (As := [.int 0]) (rest := [.ref k0]) ⟨hx, hb, hml, hown, hts⟩ (kX7_isCircuit l dC dI 0 H.size) (va_cwS 1 hts gX7_setPort_X7_isCircuit rfl rfl rfl (by decide +kernel) ⟨Nat.le_of_ble_eq_true rfl, Nat.le_of_ble_eq_true rfl⟩) (fPreS hN hZ hS (fun q h => hFc q h) hPc hKc hDc) rfl rfl hl.1 rfl (lv_room (Nat.le_of_ble_eq_true rfl)) dX7_setPort_50 ⟨Nat.le_of_ble_eq_true rfl, Nat.le_of_ble_eq_true rfl⟩) hS (fun q _ h => hFc q h) hFc (fun r u t H1 locs ht hvm hw hB hz1 hk1 hS => ?_)
        obtain ⟨hP1, hK1, hD1⟩ := hB
        rw [ht] at hP1
        have hK1 := va_K.moved hvm.symm hK1
        obtain ⟨hP, hD⟩ := va_join (wr := [(k0, .inr (10, [.ref kN, .ref kA, .ref kO, .ref kK, .ref kV, .ref kG, .ref kP, .ref kC, .ref kD, .ref kE, .ref kF, .ref kX, .ref kY, .int 0, .ref kT, .ref kU, .int 0, .int 0, .int 0])), (kN, .inl (cI, 2, .inl (fun _ => 0))), (kA, .inl (cI, 2, .inl (fun _ => 0)))]) (w1 := []) hP hD [] [0, 1, 2] rfl rfl (by decide) (by decide) hk1 hFc hP1 hD1
        generalize H1 = H at hP hS ⊢
        have hP : va_P (dC, dI) vwCl [(k0, .inr (10, [.ref kN, .ref kA, .ref kO, .ref kK, .ref kV, .ref kG, .ref kP, .ref kC, .ref kD, .ref kE, .ref kF, .ref kX, .ref kY, .int 0, .ref kT, .ref kU, .int 0, .int 0, .int 0])), (kN, .inl (cI, 2, .inl (fun _ => 0))), (kA, .inl (cI, 2, .inl (fun _ => 0)))] _ := hP
        have hD : va_D A [(k0, .inr (10, [.ref kN, .ref kA, .ref kO, .ref kK, .ref kV, .ref kG, .ref kP, .ref kC, .ref kD, .ref kE, .ref kF, .ref kX, .ref kY, .int 0, .ref kT, .ref kU, .int 0, .int 0, .int 0])), (kN, .inl (cI, 2, .inl (fun _ => 0))), (kA, .inl (cI, 2, .inl (fun _ => 0)))] := hD
        have hw : r = 1 := hw.elim (fun h => h.1) (fun h => absurd (by decide) h.2)
        subst hw
        refine lv_if_eq (tgt := 61) hx hb dX7_setPort_53 (by decide) (fun h9 => absurd h9 (by decide)) (fun _ => ?_)
        refine lv_iload hx hb dX7_setPort_56 (lv_at hl 0 rfl) ?_
        refine lv_if_ne (tgt := 65) hx hb dX7_setPort_58 (by decide) (fun h9 => absurd (by decide) h9) (fun _ => ?_)
        refine lv_iconst (v := 1) hx hb dX7_setPort_61 (by decide) ?_
        refine lv_goto (tgt := 66) hx hb dX7_setPort_62 (by decide) ?_
        refine va_put (D := (dC, dI)) (ci := 10) (v := .int 1) (ty := .int) (C := RX7) (T := TX7) (N := 19) hx hb hts (fun w h => List.mem_cons_of_mem _ (List.mem_append_left _ (List.mem_append_right _ (h)))) tyX7 tyX7_ok nmX7 hown hK hP hD hS 0 rfl rfl 16 (by decide) (hts (.fieldLink RX7 57 "NetcompareModel" "thrown" "I") (List.mem_cons_of_mem _ (List.mem_append_left _ (List.mem_append_left _ (List.mem_of_getElem? (i := 2) rfl))))) (fun _ h9 => h9) rfl (by decide +kernel) rfl rfl (Nat.le_of_ble_eq_true rfl) dX7_setPort_66 (fun H locs hP hD hS => ?_)
        have hP : va_P (dC, dI) vwCl [(k0, .inr (10, [.ref kN, .ref kA, .ref kO, .ref kK, .ref kV, .ref kG, .ref kP, .ref kC, .ref kD, .ref kE, .ref kF, .ref kX, .ref kY, .int 0, .ref kT, .ref kU, .int 1, .int 0, .int 0])), (kN, .inl (cI, 2, .inl (fun _ => 0))), (kA, .inl (cI, 2, .inl (fun _ => 0)))] _ := hP
        have hD : va_D A [(k0, .inr (10, [.ref kN, .ref kA, .ref kO, .ref kK, .ref kV, .ref kG, .ref kP, .ref kC, .ref kD, .ref kE, .ref kF, .ref kX, .ref kY, .int 0, .ref kT, .ref kU, .int 1, .int 0, .int 0])), (kN, .inl (cI, 2, .inl (fun _ => 0))), (kA, .inl (cI, 2, .inl (fun _ => 0)))] := hD
        refine lv_bipush (v := 32) hx hb dX7_setPort_69 (by decide) ?_
        exact ret _ 1 _ _ _ _ _ _ (by decide) (Or.inl (⟨rfl, Or.inr ((fun h9 => h9.elim (h1) (hi5)))⟩)) (hP.sub [0] rfl) (hK.sub [] rfl) (hD.sub [0] (by decide) rfl) hS (Nat.le_of_ble_eq_true rfl) (Nat.le_of_ble_eq_true rfl) dX7_setPort_71
      · skip
        subst hc
        have hP : va_P (dC, dI) vwCl [(k0, .inr (10, [.ref kN, .ref kA, .ref kO, .ref kK, .ref kV, .ref kG, .ref kP, .ref kC, .ref kD, .ref kE, .ref kF, .ref kX, .ref kY, .int 0, .ref kT, .ref kU, .int 0, .int 0, .int 0])), (kN, .inl (cI, 2, .inl (fun _ => 0))), (kA, .inl (cI, 2, .inl (fun _ => 0)))] _ := hP
        have hD : va_D A [(k0, .inr (10, [.ref kN, .ref kA, .ref kO, .ref kK, .ref kV, .ref kG, .ref kP, .ref kC, .ref kD, .ref kE, .ref kF, .ref kX, .ref kY, .int 0, .ref kT, .ref kU, .int 0, .int 0, .int 0])), (kN, .inl (cI, 2, .inl (fun _ => 0))), (kA, .inl (cI, 2, .inl (fun _ => 0)))] := hD
        refine lv_if_eq (tgt := 48) hx hb dX7_setPort_31 (by decide) (fun h9 => absurd h9 (by decide)) (fun _ => ?_)
        refine lv_iload hx hb dX7_setPort_34 (lv_at hl 0 rfl) ?_
        refine lv_if_eq (tgt := 48) hx hb dX7_setPort_36 (by decide) (fun _ => ?_) (fun h9 => absurd (by decide) h9)
        refine lv_aload_n hx hb dX7_setPort_48 rfl (lv_at hl 1 rfl) ?_
        refine lv_iload_n hx hb dX7_setPort_49 rfl (lv_at hl 2 rfl) ?_
        have hPc := hP.sub (ws' := []) [] rfl
        have hDc := hD.sub (ws' := []) [] (by decide) rfl
        have hKc := hK.sub (tys' := []) [] rfl
        have hFc := va_free (wc := []) hD hS hA [] rfl
        refine va_calli (va_runS (As := [.int 1]) (rest := [.ref k0]) ⟨hx, hb, hml, hown, hts⟩ (kX7_isCircuit l dC dI 1 H.size) (va_cwS 1 hts gX7_setPort_X7_isCircuit rfl rfl rfl (by decide +kernel) ⟨Nat.le_of_ble_eq_true rfl, Nat.le_of_ble_eq_true rfl⟩) (fPreS hN hZ hS (fun q h => hFc q h) hPc hKc hDc) rfl rfl hl.1 rfl (lv_room (Nat.le_of_ble_eq_true rfl)) dX7_setPort_50 ⟨Nat.le_of_ble_eq_true rfl, Nat.le_of_ble_eq_true rfl⟩) hS (fun q _ h => hFc q h) hFc (fun r u t H1 locs ht hvm hw hB hz1 hk1 hS => ?_)
        obtain ⟨hP1, hK1, hD1⟩ := hB
        rw [ht] at hP1
        have hK1 := va_K.moved hvm.symm hK1
        obtain ⟨hP, hD⟩ := va_join (wr := [(k0, .inr (10, [.ref kN, .ref kA, .ref kO, .ref kK, .ref kV, .ref kG, .ref kP, .ref kC, .ref kD, .ref kE, .ref kF, .ref kX, .ref kY, .int 0, .ref kT, .ref kU, .int 0, .int 0, .int 0])), (kN, .inl (cI, 2, .inl (fun _ => 0))), (kA, .inl (cI, 2, .inl (fun _ => 0)))]) (w1 := []) hP hD [] [0, 1, 2] rfl rfl (by decide) (by decide) hk1 hFc hP1 hD1
        generalize H1 = H at hP hS ⊢
        have hP : va_P (dC, dI) vwCl [(k0, .inr (10, [.ref kN, .ref kA, .ref kO, .ref kK, .ref kV, .ref kG, .ref kP, .ref kC, .ref kD, .ref kE, .ref kF, .ref kX, .ref kY, .int 0, .ref kT, .ref kU, .int 0, .int 0, .int 0])), (kN, .inl (cI, 2, .inl (fun _ => 0))), (kA, .inl (cI, 2, .inl (fun _ => 0)))] _ := hP
        have hD : va_D A [(k0, .inr (10, [.ref kN, .ref kA, .ref kO, .ref kK, .ref kV, .ref kG, .ref kP, .ref kC, .ref kD, .ref kE, .ref kF, .ref kX, .ref kY, .int 0, .ref kT, .ref kU, .int 0, .int 0, .int 0])), (kN, .inl (cI, 2, .inl (fun _ => 0))), (kA, .inl (cI, 2, .inl (fun _ => 0)))] := hD
        have hw : r = 1 := hw.elim (fun h => h.1) (fun h => absurd (by decide) h.2)
        subst hw
        refine lv_if_eq (tgt := 61) hx hb dX7_setPort_53 (by decide) (fun h9 => absurd h9 (by decide)) (fun _ => ?_)
        refine lv_iload hx hb dX7_setPort_56 (lv_at hl 0 rfl) ?_
        refine lv_if_ne (tgt := 65) hx hb dX7_setPort_58 (by decide) (fun h9 => absurd (by decide) h9) (fun _ => ?_)
        refine lv_iconst (v := 1) hx hb dX7_setPort_61 (by decide) ?_
        refine lv_goto (tgt := 66) hx hb dX7_setPort_62 (by decide) ?_
        refine va_put (D := (dC, dI)) (ci := 10) (v := .int 1) (ty := .int) (C := RX7) (T := TX7) (N := 19) hx hb hts (fun w h => List.mem_cons_of_mem _ (List.mem_append_left _ (List.mem_append_right _ (h)))) tyX7 tyX7_ok nmX7 hown hK hP hD hS 0 rfl rfl 16 (by decide) (hts (.fieldLink RX7 57 "NetcompareModel" "thrown" "I") (List.mem_cons_of_mem _ (List.mem_append_left _ (List.mem_append_left _ (List.mem_of_getElem? (i := 2) rfl))))) (fun _ h9 => h9) rfl (by decide +kernel) rfl rfl (Nat.le_of_ble_eq_true rfl) dX7_setPort_66 (fun H locs hP hD hS => ?_)
        have hP : va_P (dC, dI) vwCl [(k0, .inr (10, [.ref kN, .ref kA, .ref kO, .ref kK, .ref kV, .ref kG, .ref kP, .ref kC, .ref kD, .ref kE, .ref kF, .ref kX, .ref kY, .int 0, .ref kT, .ref kU, .int 1, .int 0, .int 0])), (kN, .inl (cI, 2, .inl (fun _ => 0))), (kA, .inl (cI, 2, .inl (fun _ => 0)))] _ := hP
        have hD : va_D A [(k0, .inr (10, [.ref kN, .ref kA, .ref kO, .ref kK, .ref kV, .ref kG, .ref kP, .ref kC, .ref kD, .ref kE, .ref kF, .ref kX, .ref kY, .int 0, .ref kT, .ref kU, .int 1, .int 0, .int 0])), (kN, .inl (cI, 2, .inl (fun _ => 0))), (kA, .inl (cI, 2, .inl (fun _ => 0)))] := hD
        refine lv_bipush (v := 32) hx hb dX7_setPort_69 (by decide) ?_
        exact ret _ 1 _ _ _ _ _ _ (by decide) (Or.inl (⟨rfl, Or.inr ((fun h9 => h9.elim (h1) (hi5)))⟩)) (hP.sub [0] rfl) (hK.sub [] rfl) (hD.sub [0] (by decide) rfl) hS (Nat.le_of_ble_eq_true rfl) (Nat.le_of_ble_eq_true rfl) dX7_setPort_71
      · skip
        have hc6 := hc
        refine lv_if_eq (tgt := 48) hx hb dX7_setPort_31 (by decide) (fun _ => ?_) (fun h9 => absurd (by decide) h9)
        refine lv_aload_n hx hb dX7_setPort_48 rfl (lv_at hl 1 rfl) ?_
        refine lv_iload_n hx hb dX7_setPort_49 rfl (lv_at hl 2 rfl) ?_
        have hPc := hP.sub (ws' := []) [] rfl
        have hDc := hD.sub (ws' := []) [] (by decide) rfl
        have hKc := hK.sub (tys' := []) [] rfl
        have hFc := va_free (wc := []) hD hS hA [] rfl
        refine va_calli (va_runS (As := [.int p0]) (rest := [.ref k0]) ⟨hx, hb, hml, hown, hts⟩ (kX7_isCircuit l dC dI p0 H.size) (va_cwS 1 hts gX7_setPort_X7_isCircuit rfl rfl rfl (by decide +kernel) ⟨Nat.le_of_ble_eq_true rfl, Nat.le_of_ble_eq_true rfl⟩) (fPreS hN hZ hS (fun q h => hFc q h) hPc hKc hDc) rfl rfl hl.1 rfl (lv_room (Nat.le_of_ble_eq_true rfl)) dX7_setPort_50 ⟨Nat.le_of_ble_eq_true rfl, Nat.le_of_ble_eq_true rfl⟩) hS (fun q _ h => hFc q h) hFc (fun r u t H1 locs ht hvm hw hB hz1 hk1 hS => ?_)
        obtain ⟨hP1, hK1, hD1⟩ := hB
        rw [ht] at hP1
        have hK1 := va_K.moved hvm.symm hK1
        obtain ⟨hP, hD⟩ := va_join (wr := [(k0, .inr (10, [.ref kN, .ref kA, .ref kO, .ref kK, .ref kV, .ref kG, .ref kP, .ref kC, .ref kD, .ref kE, .ref kF, .ref kX, .ref kY, .int 0, .ref kT, .ref kU, .int 0, .int 0, .int 0])), (kN, .inl (cI, 2, .inl (fun _ => 0))), (kA, .inl (cI, 2, .inl (fun _ => 0)))]) (w1 := []) hP hD [] [0, 1, 2] rfl rfl (by decide) (by decide) hk1 hFc hP1 hD1
        generalize H1 = H at hP hS ⊢
        have hP : va_P (dC, dI) vwCl [(k0, .inr (10, [.ref kN, .ref kA, .ref kO, .ref kK, .ref kV, .ref kG, .ref kP, .ref kC, .ref kD, .ref kE, .ref kF, .ref kX, .ref kY, .int 0, .ref kT, .ref kU, .int 0, .int 0, .int 0])), (kN, .inl (cI, 2, .inl (fun _ => 0))), (kA, .inl (cI, 2, .inl (fun _ => 0)))] _ := hP
        have hD : va_D A [(k0, .inr (10, [.ref kN, .ref kA, .ref kO, .ref kK, .ref kV, .ref kG, .ref kP, .ref kC, .ref kD, .ref kE, .ref kF, .ref kX, .ref kY, .int 0, .ref kT, .ref kU, .int 0, .int 0, .int 0])), (kN, .inl (cI, 2, .inl (fun _ => 0))), (kA, .inl (cI, 2, .inl (fun _ => 0)))] := hD
        have hw : r = 0 := hw.elim (fun h => absurd h.2 (hc6)) (fun h => h.1)
        subst hw
        refine lv_if_eq (tgt := 61) hx hb dX7_setPort_53 (by decide) (fun _ => ?_) (fun h9 => absurd (by decide) h9)
        refine lv_iconst (v := 1) hx hb dX7_setPort_61 (by decide) ?_
        refine lv_goto (tgt := 66) hx hb dX7_setPort_62 (by decide) ?_
        refine va_put (D := (dC, dI)) (ci := 10) (v := .int 1) (ty := .int) (C := RX7) (T := TX7) (N := 19) hx hb hts (fun w h => List.mem_cons_of_mem _ (List.mem_append_left _ (List.mem_append_right _ (h)))) tyX7 tyX7_ok nmX7 hown hK hP hD hS 0 rfl rfl 16 (by decide) (hts (.fieldLink RX7 57 "NetcompareModel" "thrown" "I") (List.mem_cons_of_mem _ (List.mem_append_left _ (List.mem_append_left _ (List.mem_of_getElem? (i := 2) rfl))))) (fun _ h9 => h9) rfl (by decide +kernel) rfl rfl (Nat.le_of_ble_eq_true rfl) dX7_setPort_66 (fun H locs hP hD hS => ?_)
        have hP : va_P (dC, dI) vwCl [(k0, .inr (10, [.ref kN, .ref kA, .ref kO, .ref kK, .ref kV, .ref kG, .ref kP, .ref kC, .ref kD, .ref kE, .ref kF, .ref kX, .ref kY, .int 0, .ref kT, .ref kU, .int 1, .int 0, .int 0])), (kN, .inl (cI, 2, .inl (fun _ => 0))), (kA, .inl (cI, 2, .inl (fun _ => 0)))] _ := hP
        have hD : va_D A [(k0, .inr (10, [.ref kN, .ref kA, .ref kO, .ref kK, .ref kV, .ref kG, .ref kP, .ref kC, .ref kD, .ref kE, .ref kF, .ref kX, .ref kY, .int 0, .ref kT, .ref kU, .int 1, .int 0, .int 0])), (kN, .inl (cI, 2, .inl (fun _ => 0))), (kA, .inl (cI, 2, .inl (fun _ => 0)))] := hD
        refine lv_bipush (v := 32) hx hb dX7_setPort_69 (by decide) ?_
        exact ret _ 1 _ _ _ _ _ _ (by decide) (Or.inl (⟨rfl, Or.inl (hc6)⟩)) (hP.sub [0] rfl) (hK.sub [] rfl) (hD.sub [0] (by decide) rfl) hS (Nat.le_of_ble_eq_true rfl) (Nat.le_of_ble_eq_true rfl) dX7_setPort_71

set_option maxHeartbeats 4000000 in
set_option maxRecDepth 100000 in
/-- the model: addPart on a fresh one -/
theorem kX7_addPart (l : Launch) (dC : Nat → ClassId) (dI : Nat → Nat → Nat) (k0 kN kA kO kK kV kG kP kC kD kE kF kX kY kT kU : Nat) (cI : ClassId) (p0 p1 p2 p3 p4 p5 : Int32) (sz : Nat) : fMi l yX7_addPart wsX7_addPart ({ frames := 2, cells := 0, slots := 0, locals := 47 } : Room) dC dI [.ref k0, .int p0, .int p1, .int p2, .int p3, .int p4, .int p5] [(k0, .inr (10, [.ref kN, .ref kA, .ref kO, .ref kK, .ref kV, .ref kG, .ref kP, .ref kC, .ref kD, .ref kE, .ref kF, .ref kX, .ref kY, .int 0, .ref kT, .ref kU, .int 0, .int 0, .int 0])), (kN, .inl (cI, 2, .inl (fun _ => 0))), (kA, .inl (cI, 2, .inl (fun _ => 0)))] [(cI, .int)] sz (fun (r : Int32) (u : Int32) => u = 1 ∧ ((¬ ((p0 = 0) ∨ (p0 = 1))) ∨ ((¬ ((p1 = 114) ∨ ((p1 = 99) ∨ ((p1 = 100) ∨ (p1 = 116))))) ∨ ((¬ ((¬ (p2 < 1)) ∧ (¬ (999 < p2)))) ∨ ((¬ (p1 = 116)) ∧ (¬ (p5 = (-1))))))) ∨ u = 2 ∧ (¬ ((¬ ((p0 = 0) ∨ (p0 = 1))) ∨ ((¬ ((p1 = 114) ∨ ((p1 = 99) ∨ ((p1 = 100) ∨ (p1 = 116))))) ∨ ((¬ ((¬ (p2 < 1)) ∧ (¬ (999 < p2)))) ∨ ((¬ (p1 = 116)) ∧ (¬ (p5 = (-1))))))))) (fun u => [(k0, .inr (10, [.ref kN, .ref kA, .ref kO, .ref kK, .ref kV, .ref kG, .ref kP, .ref kC, .ref kD, .ref kE, .ref kF, .ref kX, .ref kY, .int 0, .ref kT, .ref kU, .int u, .int 0, .int 0]))]) (fun u => []) := by
  refine oP_i (y := yX7_addPart) (cc := cX7_addPart) (maxL := 9) (by decide) rfl (Nat.le_of_ble_eq_true rfl) ?_
  intro p e s m args below meth c ls A Q hx hb hr hml hown hts hN hZ hA hin hlk hP hK hD hl ret
  have hS : va_S A s.heap s.heap [] := va_S.rf
  have hl : lv_has ls 9 [(0, .ref k0), (1, .int p0), (2, .int p1), (3, .int p2), (4, .int p3), (5, .int p4), (6, .int p5)] := hl
  have hP : va_P (dC, dI) vwCl [(k0, .inr (10, [.ref kN, .ref kA, .ref kO, .ref kK, .ref kV, .ref kG, .ref kP, .ref kC, .ref kD, .ref kE, .ref kF, .ref kX, .ref kY, .int 0, .ref kT, .ref kU, .int 0, .int 0, .int 0])), (kN, .inl (cI, 2, .inl (fun _ => 0))), (kA, .inl (cI, 2, .inl (fun _ => 0)))] _ := hP
  have hD : va_D A [(k0, .inr (10, [.ref kN, .ref kA, .ref kO, .ref kK, .ref kV, .ref kG, .ref kP, .ref kC, .ref kD, .ref kE, .ref kF, .ref kX, .ref kY, .int 0, .ref kT, .ref kU, .int 0, .int 0, .int 0])), (kN, .inl (cI, 2, .inl (fun _ => 0))), (kA, .inl (cI, 2, .inl (fun _ => 0)))] := hD
  refine lv_iload_n hx hb dX7_addPart_0 rfl (lv_at hl 2 rfl) ?_
  refine lv_bipush (v := 114) hx hb dX7_addPart_1 (by decide) ?_
  refine lv_icmp_eq (tgt := 24) hx hb dX7_addPart_3 (by decide) (fun h1 => ?_) (fun h1 => ?_)
  · skip
    refine lv_iconst (v := 1) hx hb dX7_addPart_24 (by decide) ?_
    refine lv_goto (tgt := 29) hx hb dX7_addPart_25 (by decide) ?_
    refine lv_istore (lv' := [(7, .int 1), (0, .ref k0), (1, .int p0), (2, .int p1), (3, .int p2), (4, .int p3), (5, .int p4), (6, .int p5)]) hx hb dX7_addPart_29 hl (Nat.le_of_ble_eq_true rfl) rfl (fun ls hl => ?_)
    refine lv_iload_n hx hb dX7_addPart_31 rfl (lv_at hl 2 rfl) ?_
    have hPc := hP.sub (ws' := []) [] rfl
    have hDc := hD.sub (ws' := []) [] (by decide) rfl
    have hKc := hK.sub (tys' := []) [] rfl
    have hFc := va_free (wc := []) hD hS hA [] rfl
    refine va_calli (va_runS (As := [.int p0]) (rest := []) ⟨hx, hb, hml, hown, hts⟩ (kX7_isCircuit l dC dI p0 s.heap.size) (va_cwS 1 hts gX7_addPart_X7_isCircuit rfl rfl rfl (by decide +kernel) ⟨Nat.le_of_ble_eq_true rfl, Nat.le_of_ble_eq_true rfl⟩) (fPreS hN hZ hS (fun q h => hFc q h) hPc hKc hDc) rfl rfl hl.1 rfl (lv_room (Nat.le_of_ble_eq_true rfl)) dX7_addPart_32 ⟨Nat.le_of_ble_eq_true rfl, Nat.le_of_ble_eq_true rfl⟩) hS (fun q _ h => hFc q h) hFc (fun r u t H1 locs ht hvm hw hB hz1 hk1 hS => ?_)
    obtain ⟨hP1, hK1, hD1⟩ := hB
    rw [ht] at hP1
    have hK1 := va_K.moved hvm.symm hK1
    obtain ⟨hP, hD⟩ := va_join (wr := [(k0, .inr (10, [.ref kN, .ref kA, .ref kO, .ref kK, .ref kV, .ref kG, .ref kP, .ref kC, .ref kD, .ref kE, .ref kF, .ref kX, .ref kY, .int 0, .ref kT, .ref kU, .int 0, .int 0, .int 0])), (kN, .inl (cI, 2, .inl (fun _ => 0))), (kA, .inl (cI, 2, .inl (fun _ => 0)))]) (w1 := []) hP hD [] [0, 1, 2] rfl rfl (by decide) (by decide) hk1 hFc hP1 hD1
    generalize H1 = H at hP hS ⊢
    have hP : va_P (dC, dI) vwCl [(k0, .inr (10, [.ref kN, .ref kA, .ref kO, .ref kK, .ref kV, .ref kG, .ref kP, .ref kC, .ref kD, .ref kE, .ref kF, .ref kX, .ref kY, .int 0, .ref kT, .ref kU, .int 0, .int 0, .int 0])), (kN, .inl (cI, 2, .inl (fun _ => 0))), (kA, .inl (cI, 2, .inl (fun _ => 0)))] _ := hP
    have hD : va_D A [(k0, .inr (10, [.ref kN, .ref kA, .ref kO, .ref kK, .ref kV, .ref kG, .ref kP, .ref kC, .ref kD, .ref kE, .ref kF, .ref kX, .ref kY, .int 0, .ref kT, .ref kU, .int 0, .int 0, .int 0])), (kN, .inl (cI, 2, .inl (fun _ => 0))), (kA, .inl (cI, 2, .inl (fun _ => 0)))] := hD
    rcases hw with ⟨rfl, hc | hc⟩ | ⟨rfl, hc⟩
    · skip
      subst hc
      have hP : va_P (dC, dI) vwCl [(k0, .inr (10, [.ref kN, .ref kA, .ref kO, .ref kK, .ref kV, .ref kG, .ref kP, .ref kC, .ref kD, .ref kE, .ref kF, .ref kX, .ref kY, .int 0, .ref kT, .ref kU, .int 0, .int 0, .int 0])), (kN, .inl (cI, 2, .inl (fun _ => 0))), (kA, .inl (cI, 2, .inl (fun _ => 0)))] _ := hP
      have hD : va_D A [(k0, .inr (10, [.ref kN, .ref kA, .ref kO, .ref kK, .ref kV, .ref kG, .ref kP, .ref kC, .ref kD, .ref kE, .ref kF, .ref kX, .ref kY, .int 0, .ref kT, .ref kU, .int 0, .int 0, .int 0])), (kN, .inl (cI, 2, .inl (fun _ => 0))), (kA, .inl (cI, 2, .inl (fun _ => 0)))] := hD
      refine lv_if_eq (tgt := 67) hx hb dX7_addPart_35 (by decide) (fun h9 => absurd h9 (by decide)) (fun _ => ?_)
      refine lv_iload hx hb dX7_addPart_38 (lv_at hl 0 rfl) ?_
      refine lv_if_eq (tgt := 67) hx hb dX7_addPart_40 (by decide) (fun h9 => absurd h9 (by decide)) (fun _ => ?_)
      refine lv_iload_n hx hb dX7_addPart_43 rfl (lv_at hl 4 rfl) ?_
      refine lv_i2l (v := p2.toInt64) hx hb dX7_addPart_44 rfl ?_
      refine lv_lconst (v := 1) hx hb dX7_addPart_45 (by decide) ?_
      refine lv_ldc2 (v := 999) hx hb hown (hts (.constantLong RX7 92 (999)) (List.mem_cons_of_mem _ (List.mem_append_left _ (List.mem_append_left _ (List.mem_of_getElem? (i := 0) rfl))))) dX7_addPart_46 ?_
      have hPc := hP.sub (ws' := []) [] rfl
      have hDc := hD.sub (ws' := []) [] (by decide) rfl
      have hKc := hK.sub (tys' := []) [] rfl
      have hFc := va_free (wc := []) hD hS hA [] rfl
      refine va_calli (va_runS (As := [.long p2.toInt64, .long 1, .long 999]) (rest := []) ⟨hx, hb, hml, hown, hts⟩ (kX7_in l dC dI p2.toInt64 1 999 H.size) (va_cwS 3 hts gX7_addPart_X7_in rfl rfl rfl (by decide +kernel) ⟨Nat.le_of_ble_eq_true rfl, Nat.le_of_ble_eq_true rfl⟩) (fPreS hN hZ hS (fun q h => hFc q h) hPc hKc hDc) rfl rfl hl.1 rfl (lv_room (Nat.le_of_ble_eq_true rfl)) dX7_addPart_49 ⟨Nat.le_of_ble_eq_true rfl, Nat.le_of_ble_eq_true rfl⟩) hS (fun q _ h => hFc q h) hFc (fun r u t H1 locs ht hvm hw hB hz1 hk1 hS => ?_)
      obtain ⟨hP1, hK1, hD1⟩ := hB
      rw [ht] at hP1
      have hK1 := va_K.moved hvm.symm hK1
      obtain ⟨hP, hD⟩ := va_join (wr := [(k0, .inr (10, [.ref kN, .ref kA, .ref kO, .ref kK, .ref kV, .ref kG, .ref kP, .ref kC, .ref kD, .ref kE, .ref kF, .ref kX, .ref kY, .int 0, .ref kT, .ref kU, .int 0, .int 0, .int 0])), (kN, .inl (cI, 2, .inl (fun _ => 0))), (kA, .inl (cI, 2, .inl (fun _ => 0)))]) (w1 := []) hP hD [] [0, 1, 2] rfl rfl (by decide) (by decide) hk1 hFc hP1 hD1
      generalize H1 = H at hP hS ⊢
      have hP : va_P (dC, dI) vwCl [(k0, .inr (10, [.ref kN, .ref kA, .ref kO, .ref kK, .ref kV, .ref kG, .ref kP, .ref kC, .ref kD, .ref kE, .ref kF, .ref kX, .ref kY, .int 0, .ref kT, .ref kU, .int 0, .int 0, .int 0])), (kN, .inl (cI, 2, .inl (fun _ => 0))), (kA, .inl (cI, 2, .inl (fun _ => 0)))] _ := hP
      have hD : va_D A [(k0, .inr (10, [.ref kN, .ref kA, .ref kO, .ref kK, .ref kV, .ref kG, .ref kP, .ref kC, .ref kD, .ref kE, .ref kF, .ref kX, .ref kY, .int 0, .ref kT, .ref kU, .int 0, .int 0, .int 0])), (kN, .inl (cI, 2, .inl (fun _ => 0))), (kA, .inl (cI, 2, .inl (fun _ => 0)))] := hD
      rcases hw with ⟨rfl, hi9⟩ | ⟨rfl, hi9⟩
      · skip
        have hi2 : ((¬ (p2 < 1)) ∧ (¬ (999 < p2))) := (fIn p2 1 999 1 999 (by decide) (by decide)).mp hi9
        refine lv_if_eq (tgt := 67) hx hb dX7_addPart_52 (by decide) (fun h9 => absurd h9 (by decide)) (fun _ => ?_)
        refine lv_iload_n hx hb dX7_addPart_55 rfl (lv_at hl 3 rfl) ?_
        refine lv_bipush (v := 116) hx hb dX7_addPart_56 (by decide) ?_
        refine lv_icmp_eq (tgt := 75) hx hb dX7_addPart_58 (by decide) (fun h3 => ?_) (fun h3 => ?_)
        · skip
          refine lv_aload_n hx hb dX7_addPart_75 rfl (lv_at hl 1 rfl) ?_
          refine lv_iload_n hx hb dX7_addPart_76 rfl (lv_at hl 2 rfl) ?_
          refine lv_iload hx hb dX7_addPart_77 (lv_at hl 5 rfl) ?_
          have hPc := hP.sub (ws' := [(k0, .inr (10, [.ref kN, .ref kA, .ref kO, .ref kK, .ref kV, .ref kG, .ref kP, .ref kC, .ref kD, .ref kE, .ref kF, .ref kX, .ref kY, .int 0, .ref kT, .ref kU, .int 0, .int 0, .int 0])), (kN, .inl (cI, 2, .inl (fun _ => 0)))]) [0, 1] rfl
          have hDc := hD.sub (ws' := [(k0, .inr (10, [.ref kN, .ref kA, .ref kO, .ref kK, .ref kV, .ref kG, .ref kP, .ref kC, .ref kD, .ref kE, .ref kF, .ref kX, .ref kY, .int 0, .ref kT, .ref kU, .int 0, .int 0, .int 0])), (kN, .inl (cI, 2, .inl (fun _ => 0)))]) [0, 1] (by decide) rfl
          have hKc := hK.sub (tys' := [(cI, .int)]) [0] rfl
          have hFc := va_free (wc := [(k0, .inr (10, [.ref kN, .ref kA, .ref kO, .ref kK, .ref kV, .ref kG, .ref kP, .ref kC, .ref kD, .ref kE, .ref kF, .ref kX, .ref kY, .int 0, .ref kT, .ref kU, .int 0, .int 0, .int 0])), (kN, .inl (cI, 2, .inl (fun _ => 0)))]) hD hS hA [0, 1] rfl
          refine va_calli (va_runV (As := [.int 0, .int p3]) (rest := []) ⟨hx, hb, hml, hown, hts⟩ (kX7_isNet0 l dC dI k0 kN kA kO kK kV kG kP kC kD kE kF kX kY kT kU cI p3 H.size) (cwV 2 hts gX7_addPart_X7_isNet rfl rfl rfl (by decide +kernel) ⟨Nat.le_of_ble_eq_true rfl, Nat.le_of_ble_eq_true rfl⟩) (fPreV hN hZ hS (fun q h => hFc q h) hPc hKc hDc (ci := 10) (q0 := 0) rfl rfl) rfl rfl hl.1 rfl (lv_room (Nat.le_of_ble_eq_true rfl)) dX7_addPart_79 ⟨Nat.le_of_ble_eq_true rfl, Nat.le_of_ble_eq_true rfl⟩) hS (fun q _ h => hFc q h) hFc (fun r u t H1 locs ht hvm hw hB hz1 hk1 hS => ?_)
          obtain ⟨hP1, hK1, hD1⟩ := hB
          rw [ht] at hP1
          have hK1 := va_K.moved hvm.symm hK1
          obtain ⟨hP, hD⟩ := va_join (wr := [(kA, .inl (cI, 2, .inl (fun _ => 0)))]) (w1 := [(k0, .inr (10, [.ref kN, .ref kA, .ref kO, .ref kK, .ref kV, .ref kG, .ref kP, .ref kC, .ref kD, .ref kE, .ref kF, .ref kX, .ref kY, .int 0, .ref kT, .ref kU, .int 0, .int 0, .int 0])), (kN, .inl (cI, 2, .inl (fun _ => 0)))]) hP hD [0, 1] [2] rfl rfl (by decide) (by decide) hk1 hFc hP1 hD1
          generalize H1 = H at hP hS ⊢
          have hP : va_P (dC, dI) vwCl [(kA, .inl (cI, 2, .inl (fun _ => 0))), (k0, .inr (10, [.ref kN, .ref kA, .ref kO, .ref kK, .ref kV, .ref kG, .ref kP, .ref kC, .ref kD, .ref kE, .ref kF, .ref kX, .ref kY, .int 0, .ref kT, .ref kU, .int 0, .int 0, .int 0])), (kN, .inl (cI, 2, .inl (fun _ => 0)))] _ := hP
          have hD : va_D A [(kA, .inl (cI, 2, .inl (fun _ => 0))), (k0, .inr (10, [.ref kN, .ref kA, .ref kO, .ref kK, .ref kV, .ref kG, .ref kP, .ref kC, .ref kD, .ref kE, .ref kF, .ref kX, .ref kY, .int 0, .ref kT, .ref kU, .int 0, .int 0, .int 0])), (kN, .inl (cI, 2, .inl (fun _ => 0)))] := hD
          subst hw
          refine lv_if_eq (tgt := 111) hx hb dX7_addPart_82 (by decide) (fun _ => ?_) (fun h9 => absurd (by decide) h9)
          refine lv_aload_n hx hb dX7_addPart_111 rfl (lv_at hl 1 rfl) ?_
          refine lv_iconst (v := 2) hx hb dX7_addPart_112 (by decide) ?_
          refine va_put (D := (dC, dI)) (ci := 10) (v := .int 2) (ty := .int) (C := RX7) (T := TX7) (N := 19) hx hb hts (fun w h => List.mem_cons_of_mem _ (List.mem_append_left _ (List.mem_append_right _ (h)))) tyX7 tyX7_ok nmX7 hown hK hP hD hS 1 rfl rfl 16 (by decide) (hts (.fieldLink RX7 57 "NetcompareModel" "thrown" "I") (List.mem_cons_of_mem _ (List.mem_append_left _ (List.mem_append_left _ (List.mem_of_getElem? (i := 1) rfl))))) (fun _ h9 => h9) rfl (by decide +kernel) rfl rfl (Nat.le_of_ble_eq_true rfl) dX7_addPart_113 (fun H locs hP hD hS => ?_)
          have hP : va_P (dC, dI) vwCl [(kA, .inl (cI, 2, .inl (fun _ => 0))), (k0, .inr (10, [.ref kN, .ref kA, .ref kO, .ref kK, .ref kV, .ref kG, .ref kP, .ref kC, .ref kD, .ref kE, .ref kF, .ref kX, .ref kY, .int 0, .ref kT, .ref kU, .int 2, .int 0, .int 0])), (kN, .inl (cI, 2, .inl (fun _ => 0)))] _ := hP
          have hD : va_D A [(kA, .inl (cI, 2, .inl (fun _ => 0))), (k0, .inr (10, [.ref kN, .ref kA, .ref kO, .ref kK, .ref kV, .ref kG, .ref kP, .ref kC, .ref kD, .ref kE, .ref kF, .ref kX, .ref kY, .int 0, .ref kT, .ref kU, .int 2, .int 0, .int 0])), (kN, .inl (cI, 2, .inl (fun _ => 0)))] := hD
          refine lv_goto (tgt := 139) hx hb dX7_addPart_116 (by decide) ?_
          refine lv_aload_n hx hb dX7_addPart_139 rfl (lv_at hl 1 rfl) ?_
          refine va_get (D := (dC, dI)) (ci := 10) (v := .int 2) (C := RX7) (T := TX7) (N := 19) hx hb hts (fun w h => List.mem_cons_of_mem _ (List.mem_append_left _ (List.mem_append_right _ (h)))) hown hK hP 1 rfl rfl 16 (by decide) (hts (.fieldLink RX7 57 "NetcompareModel" "thrown" "I") (List.mem_cons_of_mem _ (List.mem_append_left _ (List.mem_append_left _ (List.mem_of_getElem? (i := 1) rfl))))) (fun _ h9 => h9) rfl dX7_addPart_140 ?_
          refine lv_if_le (tgt := 148) hx hb dX7_addPart_143 (by decide) (fun h9 => absurd h9 (by decide)) (fun _ => ?_)
          refine lv_iconst (v := (-1)) hx hb dX7_addPart_146 (by decide) ?_
          exact ret _ 2 _ _ _ _ _ _ (Or.inr (⟨rfl, (fun h9 => h9.elim ((fun h9 => h9 (Or.inl (rfl)))) ((fun h9 => h9.elim ((fun h9 => h9 (Or.inl (h1)))) ((fun h9 => h9.elim ((fun h9 => h9 (hi2))) ((fun h9 => ((fun h9 => h9 (h3))) h9.1)))))))⟩)) (hP.sub [1] rfl) (hK.sub [] rfl) (hD.sub [1] (by decide) rfl) hS (Nat.le_of_ble_eq_true rfl) (Nat.le_of_ble_eq_true rfl) dX7_addPart_147
        · skip
          refine lv_iload hx hb dX7_addPart_61 (lv_at hl 7 rfl) ?_
          refine lv_iconst (v := (-1)) hx hb dX7_addPart_63 (by decide) ?_
          refine lv_icmp_eq (tgt := 75) hx hb dX7_addPart_64 (by decide) (fun h4 => ?_) (fun h4 => ?_)
          · skip
            refine lv_aload_n hx hb dX7_addPart_75 rfl (lv_at hl 1 rfl) ?_
            refine lv_iload_n hx hb dX7_addPart_76 rfl (lv_at hl 2 rfl) ?_
            refine lv_iload hx hb dX7_addPart_77 (lv_at hl 5 rfl) ?_
            have hPc := hP.sub (ws' := [(k0, .inr (10, [.ref kN, .ref kA, .ref kO, .ref kK, .ref kV, .ref kG, .ref kP, .ref kC, .ref kD, .ref kE, .ref kF, .ref kX, .ref kY, .int 0, .ref kT, .ref kU, .int 0, .int 0, .int 0])), (kN, .inl (cI, 2, .inl (fun _ => 0)))]) [0, 1] rfl
            have hDc := hD.sub (ws' := [(k0, .inr (10, [.ref kN, .ref kA, .ref kO, .ref kK, .ref kV, .ref kG, .ref kP, .ref kC, .ref kD, .ref kE, .ref kF, .ref kX, .ref kY, .int 0, .ref kT, .ref kU, .int 0, .int 0, .int 0])), (kN, .inl (cI, 2, .inl (fun _ => 0)))]) [0, 1] (by decide) rfl
            have hKc := hK.sub (tys' := [(cI, .int)]) [0] rfl
            have hFc := va_free (wc := [(k0, .inr (10, [.ref kN, .ref kA, .ref kO, .ref kK, .ref kV, .ref kG, .ref kP, .ref kC, .ref kD, .ref kE, .ref kF, .ref kX, .ref kY, .int 0, .ref kT, .ref kU, .int 0, .int 0, .int 0])), (kN, .inl (cI, 2, .inl (fun _ => 0)))]) hD hS hA [0, 1] rfl
            refine va_calli (va_runV (As := [.int 0, .int p3]) (rest := []) ⟨hx, hb, hml, hown, hts⟩ (kX7_isNet0 l dC dI k0 kN kA kO kK kV kG kP kC kD kE kF kX kY kT kU cI p3 H.size) (cwV 2 hts gX7_addPart_X7_isNet rfl rfl rfl (by decide +kernel) ⟨Nat.le_of_ble_eq_true rfl, Nat.le_of_ble_eq_true rfl⟩) (fPreV hN hZ hS (fun q h => hFc q h) hPc hKc hDc (ci := 10) (q0 := 0) rfl rfl) rfl rfl hl.1 rfl (lv_room (Nat.le_of_ble_eq_true rfl)) dX7_addPart_79 ⟨Nat.le_of_ble_eq_true rfl, Nat.le_of_ble_eq_true rfl⟩) hS (fun q _ h => hFc q h) hFc (fun r u t H1 locs ht hvm hw hB hz1 hk1 hS => ?_)
            obtain ⟨hP1, hK1, hD1⟩ := hB
            rw [ht] at hP1
            have hK1 := va_K.moved hvm.symm hK1
            obtain ⟨hP, hD⟩ := va_join (wr := [(kA, .inl (cI, 2, .inl (fun _ => 0)))]) (w1 := [(k0, .inr (10, [.ref kN, .ref kA, .ref kO, .ref kK, .ref kV, .ref kG, .ref kP, .ref kC, .ref kD, .ref kE, .ref kF, .ref kX, .ref kY, .int 0, .ref kT, .ref kU, .int 0, .int 0, .int 0])), (kN, .inl (cI, 2, .inl (fun _ => 0)))]) hP hD [0, 1] [2] rfl rfl (by decide) (by decide) hk1 hFc hP1 hD1
            generalize H1 = H at hP hS ⊢
            have hP : va_P (dC, dI) vwCl [(kA, .inl (cI, 2, .inl (fun _ => 0))), (k0, .inr (10, [.ref kN, .ref kA, .ref kO, .ref kK, .ref kV, .ref kG, .ref kP, .ref kC, .ref kD, .ref kE, .ref kF, .ref kX, .ref kY, .int 0, .ref kT, .ref kU, .int 0, .int 0, .int 0])), (kN, .inl (cI, 2, .inl (fun _ => 0)))] _ := hP
            have hD : va_D A [(kA, .inl (cI, 2, .inl (fun _ => 0))), (k0, .inr (10, [.ref kN, .ref kA, .ref kO, .ref kK, .ref kV, .ref kG, .ref kP, .ref kC, .ref kD, .ref kE, .ref kF, .ref kX, .ref kY, .int 0, .ref kT, .ref kU, .int 0, .int 0, .int 0])), (kN, .inl (cI, 2, .inl (fun _ => 0)))] := hD
            subst hw
            refine lv_if_eq (tgt := 111) hx hb dX7_addPart_82 (by decide) (fun _ => ?_) (fun h9 => absurd (by decide) h9)
            refine lv_aload_n hx hb dX7_addPart_111 rfl (lv_at hl 1 rfl) ?_
            refine lv_iconst (v := 2) hx hb dX7_addPart_112 (by decide) ?_
            refine va_put (D := (dC, dI)) (ci := 10) (v := .int 2) (ty := .int) (C := RX7) (T := TX7) (N := 19) hx hb hts (fun w h => List.mem_cons_of_mem _ (List.mem_append_left _ (List.mem_append_right _ (h)))) tyX7 tyX7_ok nmX7 hown hK hP hD hS 1 rfl rfl 16 (by decide) (hts (.fieldLink RX7 57 "NetcompareModel" "thrown" "I") (List.mem_cons_of_mem _ (List.mem_append_left _ (List.mem_append_left _ (List.mem_of_getElem? (i := 1) rfl))))) (fun _ h9 => h9) rfl (by decide +kernel) rfl rfl (Nat.le_of_ble_eq_true rfl) dX7_addPart_113 (fun H locs hP hD hS => ?_)
            have hP : va_P (dC, dI) vwCl [(kA, .inl (cI, 2, .inl (fun _ => 0))), (k0, .inr (10, [.ref kN, .ref kA, .ref kO, .ref kK, .ref kV, .ref kG, .ref kP, .ref kC, .ref kD, .ref kE, .ref kF, .ref kX, .ref kY, .int 0, .ref kT, .ref kU, .int 2, .int 0, .int 0])), (kN, .inl (cI, 2, .inl (fun _ => 0)))] _ := hP
            have hD : va_D A [(kA, .inl (cI, 2, .inl (fun _ => 0))), (k0, .inr (10, [.ref kN, .ref kA, .ref kO, .ref kK, .ref kV, .ref kG, .ref kP, .ref kC, .ref kD, .ref kE, .ref kF, .ref kX, .ref kY, .int 0, .ref kT, .ref kU, .int 2, .int 0, .int 0])), (kN, .inl (cI, 2, .inl (fun _ => 0)))] := hD
            refine lv_goto (tgt := 139) hx hb dX7_addPart_116 (by decide) ?_
            refine lv_aload_n hx hb dX7_addPart_139 rfl (lv_at hl 1 rfl) ?_
            refine va_get (D := (dC, dI)) (ci := 10) (v := .int 2) (C := RX7) (T := TX7) (N := 19) hx hb hts (fun w h => List.mem_cons_of_mem _ (List.mem_append_left _ (List.mem_append_right _ (h)))) hown hK hP 1 rfl rfl 16 (by decide) (hts (.fieldLink RX7 57 "NetcompareModel" "thrown" "I") (List.mem_cons_of_mem _ (List.mem_append_left _ (List.mem_append_left _ (List.mem_of_getElem? (i := 1) rfl))))) (fun _ h9 => h9) rfl dX7_addPart_140 ?_
            refine lv_if_le (tgt := 148) hx hb dX7_addPart_143 (by decide) (fun h9 => absurd h9 (by decide)) (fun _ => ?_)
            refine lv_iconst (v := (-1)) hx hb dX7_addPart_146 (by decide) ?_
            exact ret _ 2 _ _ _ _ _ _ (Or.inr (⟨rfl, (fun h9 => h9.elim ((fun h9 => h9 (Or.inl (rfl)))) ((fun h9 => h9.elim ((fun h9 => h9 (Or.inl (h1)))) ((fun h9 => h9.elim ((fun h9 => h9 (hi2))) ((fun h9 => ((fun h9 => h9 (h4))) h9.2)))))))⟩)) (hP.sub [1] rfl) (hK.sub [] rfl) (hD.sub [1] (by decide) rfl) hS (Nat.le_of_ble_eq_true rfl) (Nat.le_of_ble_eq_true rfl) dX7_addPart_147
          · skip
            refine lv_aload_n hx hb dX7_addPart_67 rfl (lv_at hl 1 rfl) ?_
            refine lv_iconst (v := 1) hx hb dX7_addPart_68 (by decide) ?_
            refine va_put (D := (dC, dI)) (ci := 10) (v := .int 1) (ty := .int) (C := RX7) (T := TX7) (N := 19) hx hb hts (fun w h => List.mem_cons_of_mem _ (List.mem_append_left _ (List.mem_append_right _ (h)))) tyX7 tyX7_ok nmX7 hown hK hP hD hS 0 rfl rfl 16 (by decide) (hts (.fieldLink RX7 57 "NetcompareModel" "thrown" "I") (List.mem_cons_of_mem _ (List.mem_append_left _ (List.mem_append_left _ (List.mem_of_getElem? (i := 1) rfl))))) (fun _ h9 => h9) rfl (by decide +kernel) rfl rfl (Nat.le_of_ble_eq_true rfl) dX7_addPart_69 (fun H locs hP hD hS => ?_)
            have hP : va_P (dC, dI) vwCl [(k0, .inr (10, [.ref kN, .ref kA, .ref kO, .ref kK, .ref kV, .ref kG, .ref kP, .ref kC, .ref kD, .ref kE, .ref kF, .ref kX, .ref kY, .int 0, .ref kT, .ref kU, .int 1, .int 0, .int 0])), (kN, .inl (cI, 2, .inl (fun _ => 0))), (kA, .inl (cI, 2, .inl (fun _ => 0)))] _ := hP
            have hD : va_D A [(k0, .inr (10, [.ref kN, .ref kA, .ref kO, .ref kK, .ref kV, .ref kG, .ref kP, .ref kC, .ref kD, .ref kE, .ref kF, .ref kX, .ref kY, .int 0, .ref kT, .ref kU, .int 1, .int 0, .int 0])), (kN, .inl (cI, 2, .inl (fun _ => 0))), (kA, .inl (cI, 2, .inl (fun _ => 0)))] := hD
            refine lv_goto (tgt := 139) hx hb dX7_addPart_72 (by decide) ?_
            refine lv_aload_n hx hb dX7_addPart_139 rfl (lv_at hl 1 rfl) ?_
            refine va_get (D := (dC, dI)) (ci := 10) (v := .int 1) (C := RX7) (T := TX7) (N := 19) hx hb hts (fun w h => List.mem_cons_of_mem _ (List.mem_append_left _ (List.mem_append_right _ (h)))) hown hK hP 0 rfl rfl 16 (by decide) (hts (.fieldLink RX7 57 "NetcompareModel" "thrown" "I") (List.mem_cons_of_mem _ (List.mem_append_left _ (List.mem_append_left _ (List.mem_of_getElem? (i := 1) rfl))))) (fun _ h9 => h9) rfl dX7_addPart_140 ?_
            refine lv_if_le (tgt := 148) hx hb dX7_addPart_143 (by decide) (fun h9 => absurd h9 (by decide)) (fun _ => ?_)
            refine lv_iconst (v := (-1)) hx hb dX7_addPart_146 (by decide) ?_
            exact ret _ 1 _ _ _ _ _ _ (Or.inl (⟨rfl, Or.inr (Or.inr (Or.inr (⟨h3, h4⟩)))⟩)) (hP.sub [0] rfl) (hK.sub [] rfl) (hD.sub [0] (by decide) rfl) hS (Nat.le_of_ble_eq_true rfl) (Nat.le_of_ble_eq_true rfl) dX7_addPart_147
      · skip
        have hi5 : ¬ ((¬ (p2 < 1)) ∧ (¬ (999 < p2))) := fun q => hi9 ((fIn p2 1 999 1 999 (by decide) (by decide)).mpr q)
        refine lv_if_eq (tgt := 67) hx hb dX7_addPart_52 (by decide) (fun _ => ?_) (fun h9 => absurd (by decide) h9)
        refine lv_aload_n hx hb dX7_addPart_67 rfl (lv_at hl 1 rfl) ?_
        refine lv_iconst (v := 1) hx hb dX7_addPart_68 (by decide) ?_
        refine va_put (D := (dC, dI)) (ci := 10) (v := .int 1) (ty := .int) (C := RX7) (T := TX7) (N := 19) hx hb hts (fun w h => List.mem_cons_of_mem _ (List.mem_append_left _ (List.mem_append_right _ (h)))) tyX7 tyX7_ok nmX7 hown hK hP hD hS 0 rfl rfl 16 (by decide) (hts (.fieldLink RX7 57 "NetcompareModel" "thrown" "I") (List.mem_cons_of_mem _ (List.mem_append_left _ (List.mem_append_left _ (List.mem_of_getElem? (i := 1) rfl))))) (fun _ h9 => h9) rfl (by decide +kernel) rfl rfl (Nat.le_of_ble_eq_true rfl) dX7_addPart_69 (fun H locs hP hD hS => ?_)
        have hP : va_P (dC, dI) vwCl [(k0, .inr (10, [.ref kN, .ref kA, .ref kO, .ref kK, .ref kV, .ref kG, .ref kP, .ref kC, .ref kD, .ref kE, .ref kF, .ref kX, .ref kY, .int 0, .ref kT, .ref kU, .int 1, .int 0, .int 0])), (kN, .inl (cI, 2, .inl (fun _ => 0))), (kA, .inl (cI, 2, .inl (fun _ => 0)))] _ := hP
        have hD : va_D A [(k0, .inr (10, [.ref kN, .ref kA, .ref kO, .ref kK, .ref kV, .ref kG, .ref kP, .ref kC, .ref kD, .ref kE, .ref kF, .ref kX, .ref kY, .int 0, .ref kT, .ref kU, .int 1, .int 0, .int 0])), (kN, .inl (cI, 2, .inl (fun _ => 0))), (kA, .inl (cI, 2, .inl (fun _ => 0)))] := hD
        refine lv_goto (tgt := 139) hx hb dX7_addPart_72 (by decide) ?_
        refine lv_aload_n hx hb dX7_addPart_139 rfl (lv_at hl 1 rfl) ?_
        refine va_get (D := (dC, dI)) (ci := 10) (v := .int 1) (C := RX7) (T := TX7) (N := 19) hx hb hts (fun w h => List.mem_cons_of_mem _ (List.mem_append_left _ (List.mem_append_right _ (h)))) hown hK hP 0 rfl rfl 16 (by decide) (hts (.fieldLink RX7 57 "NetcompareModel" "thrown" "I") (List.mem_cons_of_mem _ (List.mem_append_left _ (List.mem_append_left _ (List.mem_of_getElem? (i := 1) rfl))))) (fun _ h9 => h9) rfl dX7_addPart_140 ?_
        refine lv_if_le (tgt := 148) hx hb dX7_addPart_143 (by decide) (fun h9 => absurd h9 (by decide)) (fun _ => ?_)
        refine lv_iconst (v := (-1)) hx hb dX7_addPart_146 (by decide) ?_
        exact ret _ 1 _ _ _ _ _ _ (Or.inl (⟨rfl, Or.inr (Or.inr (Or.inl (hi5)))⟩)) (hP.sub [0] rfl) (hK.sub [] rfl) (hD.sub [0] (by decide) rfl) hS (Nat.le_of_ble_eq_true rfl) (Nat.le_of_ble_eq_true rfl) dX7_addPart_147
    · skip
      subst hc
      have hP : va_P (dC, dI) vwCl [(k0, .inr (10, [.ref kN, .ref kA, .ref kO, .ref kK, .ref kV, .ref kG, .ref kP, .ref kC, .ref kD, .ref kE, .ref kF, .ref kX, .ref kY, .int 0, .ref kT, .ref kU, .int 0, .int 0, .int 0])), (kN, .inl (cI, 2, .inl (fun _ => 0))), (kA, .inl (cI, 2, .inl (fun _ => 0)))] _ := hP
      have hD : va_D A [(k0, .inr (10, [.ref kN, .ref kA, .ref kO, .ref kK, .ref kV, .ref kG, .ref kP, .ref kC, .ref kD, .ref kE, .ref kF, .ref kX, .ref kY, .int 0, .ref kT, .ref kU, .int 0, .int 0, .int 0])), (kN, .inl (cI, 2, .inl (fun _ => 0))), (kA, .inl (cI, 2, .inl (fun _ => 0)))] := hD
      refine lv_if_eq (tgt := 67) hx hb dX7_addPart_35 (by decide) (fun h9 => absurd h9 (by decide)) (fun _ => ?_)
      refine lv_iload hx hb dX7_addPart_38 (lv_at hl 0 rfl) ?_
      refine lv_if_eq (tgt := 67) hx hb dX7_addPart_40 (by decide) (fun h9 => absurd h9 (by decide)) (fun _ => ?_)
      refine lv_iload_n hx hb dX7_addPart_43 rfl (lv_at hl 4 rfl) ?_
      refine lv_i2l (v := p2.toInt64) hx hb dX7_addPart_44 rfl ?_
      refine lv_lconst (v := 1) hx hb dX7_addPart_45 (by decide) ?_
      refine lv_ldc2 (v := 999) hx hb hown (hts (.constantLong RX7 92 (999)) (List.mem_cons_of_mem _ (List.mem_append_left _ (List.mem_append_left _ (List.mem_of_getElem? (i := 0) rfl))))) dX7_addPart_46 ?_
      have hPc := hP.sub (ws' := []) [] rfl
      have hDc := hD.sub (ws' := []) [] (by decide) rfl
      have hKc := hK.sub (tys' := []) [] rfl
      have hFc := va_free (wc := []) hD hS hA [] rfl
      refine va_calli (va_runS (As := [.long p2.toInt64, .long 1, .long 999]) (rest := []) ⟨hx, hb, hml, hown, hts⟩ (kX7_in l dC dI p2.toInt64 1 999 H.size) (va_cwS 3 hts gX7_addPart_X7_in rfl rfl rfl (by decide +kernel) ⟨Nat.le_of_ble_eq_true rfl, Nat.le_of_ble_eq_true rfl⟩) (fPreS hN hZ hS (fun q h => hFc q h) hPc hKc hDc) rfl rfl hl.1 rfl (lv_room (Nat.le_of_ble_eq_true rfl)) dX7_addPart_49 ⟨Nat.le_of_ble_eq_true rfl, Nat.le_of_ble_eq_true rfl⟩) hS (fun q _ h => hFc q h) hFc (fun r u t H1 locs ht hvm hw hB hz1 hk1 hS => ?_)
      obtain ⟨hP1, hK1, hD1⟩ := hB
      rw [ht] at hP1
      have hK1 := va_K.moved hvm.symm hK1
      obtain ⟨hP, hD⟩ := va_join (wr := [(k0, .inr (10, [.ref kN, .ref kA, .ref kO, .ref kK, .ref kV, .ref kG, .ref kP, .ref kC, .ref kD, .ref kE, .ref kF, .ref kX, .ref kY, .int 0, .ref kT, .ref kU, .int 0, .int 0, .int 0])), (kN, .inl (cI, 2, .inl (fun _ => 0))), (kA, .inl (cI, 2, .inl (fun _ => 0)))]) (w1 := []) hP hD [] [0, 1, 2] rfl rfl (by decide) (by decide) hk1 hFc hP1 hD1
      generalize H1 = H at hP hS ⊢
      have hP : va_P (dC, dI) vwCl [(k0, .inr (10, [.ref kN, .ref kA, .ref kO, .ref kK, .ref kV, .ref kG, .ref kP, .ref kC, .ref kD, .ref kE, .ref kF, .ref kX, .ref kY, .int 0, .ref kT, .ref kU, .int 0, .int 0, .int 0])), (kN, .inl (cI, 2, .inl (fun _ => 0))), (kA, .inl (cI, 2, .inl (fun _ => 0)))] _ := hP
      have hD : va_D A [(k0, .inr (10, [.ref kN, .ref kA, .ref kO, .ref kK, .ref kV, .ref kG, .ref kP, .ref kC, .ref kD, .ref kE, .ref kF, .ref kX, .ref kY, .int 0, .ref kT, .ref kU, .int 0, .int 0, .int 0])), (kN, .inl (cI, 2, .inl (fun _ => 0))), (kA, .inl (cI, 2, .inl (fun _ => 0)))] := hD
      rcases hw with ⟨rfl, hi9⟩ | ⟨rfl, hi9⟩
      · skip
        have hi6 : ((¬ (p2 < 1)) ∧ (¬ (999 < p2))) := (fIn p2 1 999 1 999 (by decide) (by decide)).mp hi9
        refine lv_if_eq (tgt := 67) hx hb dX7_addPart_52 (by decide) (fun h9 => absurd h9 (by decide)) (fun _ => ?_)
        refine lv_iload_n hx hb dX7_addPart_55 rfl (lv_at hl 3 rfl) ?_
        refine lv_bipush (v := 116) hx hb dX7_addPart_56 (by decide) ?_
        refine lv_icmp_eq (tgt := 75) hx hb dX7_addPart_58 (by decide) (fun h7 => ?_) (fun h7 => ?_)
        · skip
          refine lv_aload_n hx hb dX7_addPart_75 rfl (lv_at hl 1 rfl) ?_
          refine lv_iload_n hx hb dX7_addPart_76 rfl (lv_at hl 2 rfl) ?_
          refine lv_iload hx hb dX7_addPart_77 (lv_at hl 5 rfl) ?_
          have hPc := hP.sub (ws' := [(k0, .inr (10, [.ref kN, .ref kA, .ref kO, .ref kK, .ref kV, .ref kG, .ref kP, .ref kC, .ref kD, .ref kE, .ref kF, .ref kX, .ref kY, .int 0, .ref kT, .ref kU, .int 0, .int 0, .int 0])), (kN, .inl (cI, 2, .inl (fun _ => 0)))]) [0, 1] rfl
          have hDc := hD.sub (ws' := [(k0, .inr (10, [.ref kN, .ref kA, .ref kO, .ref kK, .ref kV, .ref kG, .ref kP, .ref kC, .ref kD, .ref kE, .ref kF, .ref kX, .ref kY, .int 0, .ref kT, .ref kU, .int 0, .int 0, .int 0])), (kN, .inl (cI, 2, .inl (fun _ => 0)))]) [0, 1] (by decide) rfl
          have hKc := hK.sub (tys' := [(cI, .int)]) [0] rfl
          have hFc := va_free (wc := [(k0, .inr (10, [.ref kN, .ref kA, .ref kO, .ref kK, .ref kV, .ref kG, .ref kP, .ref kC, .ref kD, .ref kE, .ref kF, .ref kX, .ref kY, .int 0, .ref kT, .ref kU, .int 0, .int 0, .int 0])), (kN, .inl (cI, 2, .inl (fun _ => 0)))]) hD hS hA [0, 1] rfl
          refine va_calli (va_runV (As := [.int 1, .int p3]) (rest := []) ⟨hx, hb, hml, hown, hts⟩ (kX7_isNet1 l dC dI k0 kN kA kO kK kV kG kP kC kD kE kF kX kY kT kU cI p3 H.size) (cwV 2 hts gX7_addPart_X7_isNet rfl rfl rfl (by decide +kernel) ⟨Nat.le_of_ble_eq_true rfl, Nat.le_of_ble_eq_true rfl⟩) (fPreV hN hZ hS (fun q h => hFc q h) hPc hKc hDc (ci := 10) (q0 := 0) rfl rfl) rfl rfl hl.1 rfl (lv_room (Nat.le_of_ble_eq_true rfl)) dX7_addPart_79 ⟨Nat.le_of_ble_eq_true rfl, Nat.le_of_ble_eq_true rfl⟩) hS (fun q _ h => hFc q h) hFc (fun r u t H1 locs ht hvm hw hB hz1 hk1 hS => ?_)
          obtain ⟨hP1, hK1, hD1⟩ := hB
          rw [ht] at hP1
          have hK1 := va_K.moved hvm.symm hK1
          obtain ⟨hP, hD⟩ := va_join (wr := [(kA, .inl (cI, 2, .inl (fun _ => 0)))]) (w1 := [(k0, .inr (10, [.ref kN, .ref kA, .ref kO, .ref kK, .ref kV, .ref kG, .ref kP, .ref kC, .ref kD, .ref kE, .ref kF, .ref kX, .ref kY, .int 0, .ref kT, .ref kU, .int 0, .int 0, .int 0])), (kN, .inl (cI, 2, .inl (fun _ => 0)))]) hP hD [0, 1] [2] rfl rfl (by decide) (by decide) hk1 hFc hP1 hD1
          generalize H1 = H at hP hS ⊢
          have hP : va_P (dC, dI) vwCl [(kA, .inl (cI, 2, .inl (fun _ => 0))), (k0, .inr (10, [.ref kN, .ref kA, .ref kO, .ref kK, .ref kV, .ref kG, .ref kP, .ref kC, .ref kD, .ref kE, .ref kF, .ref kX, .ref kY, .int 0, .ref kT, .ref kU, .int 0, .int 0, .int 0])), (kN, .inl (cI, 2, .inl (fun _ => 0)))] _ := hP
          have hD : va_D A [(kA, .inl (cI, 2, .inl (fun _ => 0))), (k0, .inr (10, [.ref kN, .ref kA, .ref kO, .ref kK, .ref kV, .ref kG, .ref kP, .ref kC, .ref kD, .ref kE, .ref kF, .ref kX, .ref kY, .int 0, .ref kT, .ref kU, .int 0, .int 0, .int 0])), (kN, .inl (cI, 2, .inl (fun _ => 0)))] := hD
          subst hw
          refine lv_if_eq (tgt := 111) hx hb dX7_addPart_82 (by decide) (fun _ => ?_) (fun h9 => absurd (by decide) h9)
          refine lv_aload_n hx hb dX7_addPart_111 rfl (lv_at hl 1 rfl) ?_
          refine lv_iconst (v := 2) hx hb dX7_addPart_112 (by decide) ?_
          refine va_put (D := (dC, dI)) (ci := 10) (v := .int 2) (ty := .int) (C := RX7) (T := TX7) (N := 19) hx hb hts (fun w h => List.mem_cons_of_mem _ (List.mem_append_left _ (List.mem_append_right _ (h)))) tyX7 tyX7_ok nmX7 hown hK hP hD hS 1 rfl rfl 16 (by decide) (hts (.fieldLink RX7 57 "NetcompareModel" "thrown" "I") (List.mem_cons_of_mem _ (List.mem_append_left _ (List.mem_append_left _ (List.mem_of_getElem? (i := 1) rfl))))) (fun _ h9 => h9) rfl (by decide +kernel) rfl rfl (Nat.le_of_ble_eq_true rfl) dX7_addPart_113 (fun H locs hP hD hS => ?_)
          have hP : va_P (dC, dI) vwCl [(kA, .inl (cI, 2, .inl (fun _ => 0))), (k0, .inr (10, [.ref kN, .ref kA, .ref kO, .ref kK, .ref kV, .ref kG, .ref kP, .ref kC, .ref kD, .ref kE, .ref kF, .ref kX, .ref kY, .int 0, .ref kT, .ref kU, .int 2, .int 0, .int 0])), (kN, .inl (cI, 2, .inl (fun _ => 0)))] _ := hP
          have hD : va_D A [(kA, .inl (cI, 2, .inl (fun _ => 0))), (k0, .inr (10, [.ref kN, .ref kA, .ref kO, .ref kK, .ref kV, .ref kG, .ref kP, .ref kC, .ref kD, .ref kE, .ref kF, .ref kX, .ref kY, .int 0, .ref kT, .ref kU, .int 2, .int 0, .int 0])), (kN, .inl (cI, 2, .inl (fun _ => 0)))] := hD
          refine lv_goto (tgt := 139) hx hb dX7_addPart_116 (by decide) ?_
          refine lv_aload_n hx hb dX7_addPart_139 rfl (lv_at hl 1 rfl) ?_
          refine va_get (D := (dC, dI)) (ci := 10) (v := .int 2) (C := RX7) (T := TX7) (N := 19) hx hb hts (fun w h => List.mem_cons_of_mem _ (List.mem_append_left _ (List.mem_append_right _ (h)))) hown hK hP 1 rfl rfl 16 (by decide) (hts (.fieldLink RX7 57 "NetcompareModel" "thrown" "I") (List.mem_cons_of_mem _ (List.mem_append_left _ (List.mem_append_left _ (List.mem_of_getElem? (i := 1) rfl))))) (fun _ h9 => h9) rfl dX7_addPart_140 ?_
          refine lv_if_le (tgt := 148) hx hb dX7_addPart_143 (by decide) (fun h9 => absurd h9 (by decide)) (fun _ => ?_)
          refine lv_iconst (v := (-1)) hx hb dX7_addPart_146 (by decide) ?_
          exact ret _ 2 _ _ _ _ _ _ (Or.inr (⟨rfl, (fun h9 => h9.elim ((fun h9 => h9 (Or.inr (rfl)))) ((fun h9 => h9.elim ((fun h9 => h9 (Or.inl (h1)))) ((fun h9 => h9.elim ((fun h9 => h9 (hi6))) ((fun h9 => ((fun h9 => h9 (h7))) h9.1)))))))⟩)) (hP.sub [1] rfl) (hK.sub [] rfl) (hD.sub [1] (by decide) rfl) hS (Nat.le_of_ble_eq_true rfl) (Nat.le_of_ble_eq_true rfl) dX7_addPart_147
        · skip
          refine lv_iload hx hb dX7_addPart_61 (lv_at hl 7 rfl) ?_
          refine lv_iconst (v := (-1)) hx hb dX7_addPart_63 (by decide) ?_
          refine lv_icmp_eq (tgt := 75) hx hb dX7_addPart_64 (by decide) (fun h8 => ?_) (fun h8 => ?_)
          · skip
            refine lv_aload_n hx hb dX7_addPart_75 rfl (lv_at hl 1 rfl) ?_
            refine lv_iload_n hx hb dX7_addPart_76 rfl (lv_at hl 2 rfl) ?_
            refine lv_iload hx hb dX7_addPart_77 (lv_at hl 5 rfl) ?_
            have hPc := hP.sub (ws' := [(k0, .inr (10, [.ref kN, .ref kA, .ref kO, .ref kK, .ref kV, .ref kG, .ref kP, .ref kC, .ref kD, .ref kE, .ref kF, .ref kX, .ref kY, .int 0, .ref kT, .ref kU, .int 0, .int 0, .int 0])), (kN, .inl (cI, 2, .inl (fun _ => 0)))]) [0, 1] rfl
            have hDc := hD.sub (ws' := [(k0, .inr (10, [.ref kN, .ref kA, .ref kO, .ref kK, .ref kV, .ref kG, .ref kP, .ref kC, .ref kD, .ref kE, .ref kF, .ref kX, .ref kY, .int 0, .ref kT, .ref kU, .int 0, .int 0, .int 0])), (kN, .inl (cI, 2, .inl (fun _ => 0)))]) [0, 1] (by decide) rfl
            have hKc := hK.sub (tys' := [(cI, .int)]) [0] rfl
            have hFc := va_free (wc := [(k0, .inr (10, [.ref kN, .ref kA, .ref kO, .ref kK, .ref kV, .ref kG, .ref kP, .ref kC, .ref kD, .ref kE, .ref kF, .ref kX, .ref kY, .int 0, .ref kT, .ref kU, .int 0, .int 0, .int 0])), (kN, .inl (cI, 2, .inl (fun _ => 0)))]) hD hS hA [0, 1] rfl
            refine va_calli (va_runV (As := [.int 1, .int p3]) (rest := []) ⟨hx, hb, hml, hown, hts⟩ (kX7_isNet1 l dC dI k0 kN kA kO kK kV kG kP kC kD kE kF kX kY kT kU cI p3 H.size) (cwV 2 hts gX7_addPart_X7_isNet rfl rfl rfl (by decide +kernel) ⟨Nat.le_of_ble_eq_true rfl, Nat.le_of_ble_eq_true rfl⟩) (fPreV hN hZ hS (fun q h => hFc q h) hPc hKc hDc (ci := 10) (q0 := 0) rfl rfl) rfl rfl hl.1 rfl (lv_room (Nat.le_of_ble_eq_true rfl)) dX7_addPart_79 ⟨Nat.le_of_ble_eq_true rfl, Nat.le_of_ble_eq_true rfl⟩) hS (fun q _ h => hFc q h) hFc (fun r u t H1 locs ht hvm hw hB hz1 hk1 hS => ?_)
            obtain ⟨hP1, hK1, hD1⟩ := hB
            rw [ht] at hP1
            have hK1 := va_K.moved hvm.symm hK1
            obtain ⟨hP, hD⟩ := va_join (wr := [(kA, .inl (cI, 2, .inl (fun _ => 0)))]) (w1 := [(k0, .inr (10, [.ref kN, .ref kA, .ref kO, .ref kK, .ref kV, .ref kG, .ref kP, .ref kC, .ref kD, .ref kE, .ref kF, .ref kX, .ref kY, .int 0, .ref kT, .ref kU, .int 0, .int 0, .int 0])), (kN, .inl (cI, 2, .inl (fun _ => 0)))]) hP hD [0, 1] [2] rfl rfl (by decide) (by decide) hk1 hFc hP1 hD1
            generalize H1 = H at hP hS ⊢
            have hP : va_P (dC, dI) vwCl [(kA, .inl (cI, 2, .inl (fun _ => 0))), (k0, .inr (10, [.ref kN, .ref kA, .ref kO, .ref kK, .ref kV, .ref kG, .ref kP, .ref kC, .ref kD, .ref kE, .ref kF, .ref kX, .ref kY, .int 0, .ref kT, .ref kU, .int 0, .int 0, .int 0])), (kN, .inl (cI, 2, .inl (fun _ => 0)))] _ := hP
            have hD : va_D A [(kA, .inl (cI, 2, .inl (fun _ => 0))), (k0, .inr (10, [.ref kN, .ref kA, .ref kO, .ref kK, .ref kV, .ref kG, .ref kP, .ref kC, .ref kD, .ref kE, .ref kF, .ref kX, .ref kY, .int 0, .ref kT, .ref kU, .int 0, .int 0, .int 0])), (kN, .inl (cI, 2, .inl (fun _ => 0)))] := hD
            subst hw
            refine lv_if_eq (tgt := 111) hx hb dX7_addPart_82 (by decide) (fun _ => ?_) (fun h9 => absurd (by decide) h9)
            refine lv_aload_n hx hb dX7_addPart_111 rfl (lv_at hl 1 rfl) ?_
            refine lv_iconst (v := 2) hx hb dX7_addPart_112 (by decide) ?_
            refine va_put (D := (dC, dI)) (ci := 10) (v := .int 2) (ty := .int) (C := RX7) (T := TX7) (N := 19) hx hb hts (fun w h => List.mem_cons_of_mem _ (List.mem_append_left _ (List.mem_append_right _ (h)))) tyX7 tyX7_ok nmX7 hown hK hP hD hS 1 rfl rfl 16 (by decide) (hts (.fieldLink RX7 57 "NetcompareModel" "thrown" "I") (List.mem_cons_of_mem _ (List.mem_append_left _ (List.mem_append_left _ (List.mem_of_getElem? (i := 1) rfl))))) (fun _ h9 => h9) rfl (by decide +kernel) rfl rfl (Nat.le_of_ble_eq_true rfl) dX7_addPart_113 (fun H locs hP hD hS => ?_)
            have hP : va_P (dC, dI) vwCl [(kA, .inl (cI, 2, .inl (fun _ => 0))), (k0, .inr (10, [.ref kN, .ref kA, .ref kO, .ref kK, .ref kV, .ref kG, .ref kP, .ref kC, .ref kD, .ref kE, .ref kF, .ref kX, .ref kY, .int 0, .ref kT, .ref kU, .int 2, .int 0, .int 0])), (kN, .inl (cI, 2, .inl (fun _ => 0)))] _ := hP
            have hD : va_D A [(kA, .inl (cI, 2, .inl (fun _ => 0))), (k0, .inr (10, [.ref kN, .ref kA, .ref kO, .ref kK, .ref kV, .ref kG, .ref kP, .ref kC, .ref kD, .ref kE, .ref kF, .ref kX, .ref kY, .int 0, .ref kT, .ref kU, .int 2, .int 0, .int 0])), (kN, .inl (cI, 2, .inl (fun _ => 0)))] := hD
            refine lv_goto (tgt := 139) hx hb dX7_addPart_116 (by decide) ?_
            refine lv_aload_n hx hb dX7_addPart_139 rfl (lv_at hl 1 rfl) ?_
            refine va_get (D := (dC, dI)) (ci := 10) (v := .int 2) (C := RX7) (T := TX7) (N := 19) hx hb hts (fun w h => List.mem_cons_of_mem _ (List.mem_append_left _ (List.mem_append_right _ (h)))) hown hK hP 1 rfl rfl 16 (by decide) (hts (.fieldLink RX7 57 "NetcompareModel" "thrown" "I") (List.mem_cons_of_mem _ (List.mem_append_left _ (List.mem_append_left _ (List.mem_of_getElem? (i := 1) rfl))))) (fun _ h9 => h9) rfl dX7_addPart_140 ?_
            refine lv_if_le (tgt := 148) hx hb dX7_addPart_143 (by decide) (fun h9 => absurd h9 (by decide)) (fun _ => ?_)
            refine lv_iconst (v := (-1)) hx hb dX7_addPart_146 (by decide) ?_
            exact ret _ 2 _ _ _ _ _ _ (Or.inr (⟨rfl, (fun h9 => h9.elim ((fun h9 => h9 (Or.inr (rfl)))) ((fun h9 => h9.elim ((fun h9 => h9 (Or.inl (h1)))) ((fun h9 => h9.elim ((fun h9 => h9 (hi6))) ((fun h9 => ((fun h9 => h9 (h8))) h9.2)))))))⟩)) (hP.sub [1] rfl) (hK.sub [] rfl) (hD.sub [1] (by decide) rfl) hS (Nat.le_of_ble_eq_true rfl) (Nat.le_of_ble_eq_true rfl) dX7_addPart_147
          · skip
            refine lv_aload_n hx hb dX7_addPart_67 rfl (lv_at hl 1 rfl) ?_
            refine lv_iconst (v := 1) hx hb dX7_addPart_68 (by decide) ?_
            refine va_put (D := (dC, dI)) (ci := 10) (v := .int 1) (ty := .int) (C := RX7) (T := TX7) (N := 19) hx hb hts (fun w h => List.mem_cons_of_mem _ (List.mem_append_left _ (List.mem_append_right _ (h)))) tyX7 tyX7_ok nmX7 hown hK hP hD hS 0 rfl rfl 16 (by decide) (hts (.fieldLink RX7 57 "NetcompareModel" "thrown" "I") (List.mem_cons_of_mem _ (List.mem_append_left _ (List.mem_append_left _ (List.mem_of_getElem? (i := 1) rfl))))) (fun _ h9 => h9) rfl (by decide +kernel) rfl rfl (Nat.le_of_ble_eq_true rfl) dX7_addPart_69 (fun H locs hP hD hS => ?_)
            have hP : va_P (dC, dI) vwCl [(k0, .inr (10, [.ref kN, .ref kA, .ref kO, .ref kK, .ref kV, .ref kG, .ref kP, .ref kC, .ref kD, .ref kE, .ref kF, .ref kX, .ref kY, .int 0, .ref kT, .ref kU, .int 1, .int 0, .int 0])), (kN, .inl (cI, 2, .inl (fun _ => 0))), (kA, .inl (cI, 2, .inl (fun _ => 0)))] _ := hP
            have hD : va_D A [(k0, .inr (10, [.ref kN, .ref kA, .ref kO, .ref kK, .ref kV, .ref kG, .ref kP, .ref kC, .ref kD, .ref kE, .ref kF, .ref kX, .ref kY, .int 0, .ref kT, .ref kU, .int 1, .int 0, .int 0])), (kN, .inl (cI, 2, .inl (fun _ => 0))), (kA, .inl (cI, 2, .inl (fun _ => 0)))] := hD
            refine lv_goto (tgt := 139) hx hb dX7_addPart_72 (by decide) ?_
            refine lv_aload_n hx hb dX7_addPart_139 rfl (lv_at hl 1 rfl) ?_
            refine va_get (D := (dC, dI)) (ci := 10) (v := .int 1) (C := RX7) (T := TX7) (N := 19) hx hb hts (fun w h => List.mem_cons_of_mem _ (List.mem_append_left _ (List.mem_append_right _ (h)))) hown hK hP 0 rfl rfl 16 (by decide) (hts (.fieldLink RX7 57 "NetcompareModel" "thrown" "I") (List.mem_cons_of_mem _ (List.mem_append_left _ (List.mem_append_left _ (List.mem_of_getElem? (i := 1) rfl))))) (fun _ h9 => h9) rfl dX7_addPart_140 ?_
            refine lv_if_le (tgt := 148) hx hb dX7_addPart_143 (by decide) (fun h9 => absurd h9 (by decide)) (fun _ => ?_)
            refine lv_iconst (v := (-1)) hx hb dX7_addPart_146 (by decide) ?_
            exact ret _ 1 _ _ _ _ _ _ (Or.inl (⟨rfl, Or.inr (Or.inr (Or.inr (⟨h7, h8⟩)))⟩)) (hP.sub [0] rfl) (hK.sub [] rfl) (hD.sub [0] (by decide) rfl) hS (Nat.le_of_ble_eq_true rfl) (Nat.le_of_ble_eq_true rfl) dX7_addPart_147
      · skip
        have hi9 : ¬ ((¬ (p2 < 1)) ∧ (¬ (999 < p2))) := fun q => hi9 ((fIn p2 1 999 1 999 (by decide) (by decide)).mpr q)
        refine lv_if_eq (tgt := 67) hx hb dX7_addPart_52 (by decide) (fun _ => ?_) (fun h9 => absurd (by decide) h9)
        refine lv_aload_n hx hb dX7_addPart_67 rfl (lv_at hl 1 rfl) ?_
        refine lv_iconst (v := 1) hx hb dX7_addPart_68 (by decide) ?_
        refine va_put (D := (dC, dI)) (ci := 10) (v := .int 1) (ty := .int) (C := RX7) (T := TX7) (N := 19) hx hb hts (fun w h => List.mem_cons_of_mem _ (List.mem_append_left _ (List.mem_append_right _ (h)))) tyX7 tyX7_ok nmX7 hown hK hP hD hS 0 rfl rfl 16 (by decide) (hts (.fieldLink RX7 57 "NetcompareModel" "thrown" "I") (List.mem_cons_of_mem _ (List.mem_append_left _ (List.mem_append_left _ (List.mem_of_getElem? (i := 1) rfl))))) (fun _ h9 => h9) rfl (by decide +kernel) rfl rfl (Nat.le_of_ble_eq_true rfl) dX7_addPart_69 (fun H locs hP hD hS => ?_)
        have hP : va_P (dC, dI) vwCl [(k0, .inr (10, [.ref kN, .ref kA, .ref kO, .ref kK, .ref kV, .ref kG, .ref kP, .ref kC, .ref kD, .ref kE, .ref kF, .ref kX, .ref kY, .int 0, .ref kT, .ref kU, .int 1, .int 0, .int 0])), (kN, .inl (cI, 2, .inl (fun _ => 0))), (kA, .inl (cI, 2, .inl (fun _ => 0)))] _ := hP
        have hD : va_D A [(k0, .inr (10, [.ref kN, .ref kA, .ref kO, .ref kK, .ref kV, .ref kG, .ref kP, .ref kC, .ref kD, .ref kE, .ref kF, .ref kX, .ref kY, .int 0, .ref kT, .ref kU, .int 1, .int 0, .int 0])), (kN, .inl (cI, 2, .inl (fun _ => 0))), (kA, .inl (cI, 2, .inl (fun _ => 0)))] := hD
        refine lv_goto (tgt := 139) hx hb dX7_addPart_72 (by decide) ?_
        refine lv_aload_n hx hb dX7_addPart_139 rfl (lv_at hl 1 rfl) ?_
        refine va_get (D := (dC, dI)) (ci := 10) (v := .int 1) (C := RX7) (T := TX7) (N := 19) hx hb hts (fun w h => List.mem_cons_of_mem _ (List.mem_append_left _ (List.mem_append_right _ (h)))) hown hK hP 0 rfl rfl 16 (by decide) (hts (.fieldLink RX7 57 "NetcompareModel" "thrown" "I") (List.mem_cons_of_mem _ (List.mem_append_left _ (List.mem_append_left _ (List.mem_of_getElem? (i := 1) rfl))))) (fun _ h9 => h9) rfl dX7_addPart_140 ?_
        refine lv_if_le (tgt := 148) hx hb dX7_addPart_143 (by decide) (fun h9 => absurd h9 (by decide)) (fun _ => ?_)
        refine lv_iconst (v := (-1)) hx hb dX7_addPart_146 (by decide) ?_
        exact ret _ 1 _ _ _ _ _ _ (Or.inl (⟨rfl, Or.inr (Or.inr (Or.inl (hi9)))⟩)) (hP.sub [0] rfl) (hK.sub [] rfl) (hD.sub [0] (by decide) rfl) hS (Nat.le_of_ble_eq_true rfl) (Nat.le_of_ble_eq_true rfl) dX7_addPart_147
    · skip
      have hc10 := hc
      refine lv_if_eq (tgt := 67) hx hb dX7_addPart_35 (by decide) (fun _ => ?_) (fun h9 => absurd (by decide) h9)
      refine lv_aload_n hx hb dX7_addPart_67 rfl (lv_at hl 1 rfl) ?_
      refine lv_iconst (v := 1) hx hb dX7_addPart_68 (by decide) ?_
      refine va_put (D := (dC, dI)) (ci := 10) (v := .int 1) (ty := .int) (C := RX7) (T := TX7) (N := 19) hx hb hts (fun w h => List.mem_cons_of_mem _ (List.mem_append_left _ (List.mem_append_right _ (h)))) tyX7 tyX7_ok nmX7 hown hK hP hD hS 0 rfl rfl 16 (by decide) (hts (.fieldLink RX7 57 "NetcompareModel" "thrown" "I") (List.mem_cons_of_mem _ (List.mem_append_left _ (List.mem_append_left _ (List.mem_of_getElem? (i := 1) rfl))))) (fun _ h9 => h9) rfl (by decide +kernel) rfl rfl (Nat.le_of_ble_eq_true rfl) dX7_addPart_69 (fun H locs hP hD hS => ?_)
      have hP : va_P (dC, dI) vwCl [(k0, .inr (10, [.ref kN, .ref kA, .ref kO, .ref kK, .ref kV, .ref kG, .ref kP, .ref kC, .ref kD, .ref kE, .ref kF, .ref kX, .ref kY, .int 0, .ref kT, .ref kU, .int 1, .int 0, .int 0])), (kN, .inl (cI, 2, .inl (fun _ => 0))), (kA, .inl (cI, 2, .inl (fun _ => 0)))] _ := hP
      have hD : va_D A [(k0, .inr (10, [.ref kN, .ref kA, .ref kO, .ref kK, .ref kV, .ref kG, .ref kP, .ref kC, .ref kD, .ref kE, .ref kF, .ref kX, .ref kY, .int 0, .ref kT, .ref kU, .int 1, .int 0, .int 0])), (kN, .inl (cI, 2, .inl (fun _ => 0))), (kA, .inl (cI, 2, .inl (fun _ => 0)))] := hD
      refine lv_goto (tgt := 139) hx hb dX7_addPart_72 (by decide) ?_
      refine lv_aload_n hx hb dX7_addPart_139 rfl (lv_at hl 1 rfl) ?_
      refine va_get (D := (dC, dI)) (ci := 10) (v := .int 1) (C := RX7) (T := TX7) (N := 19) hx hb hts (fun w h => List.mem_cons_of_mem _ (List.mem_append_left _ (List.mem_append_right _ (h)))) hown hK hP 0 rfl rfl 16 (by decide) (hts (.fieldLink RX7 57 "NetcompareModel" "thrown" "I") (List.mem_cons_of_mem _ (List.mem_append_left _ (List.mem_append_left _ (List.mem_of_getElem? (i := 1) rfl))))) (fun _ h9 => h9) rfl dX7_addPart_140 ?_
      refine lv_if_le (tgt := 148) hx hb dX7_addPart_143 (by decide) (fun h9 => absurd h9 (by decide)) (fun _ => ?_)
      refine lv_iconst (v := (-1)) hx hb dX7_addPart_146 (by decide) ?_
      exact ret _ 1 _ _ _ _ _ _ (Or.inl (⟨rfl, Or.inl (hc10)⟩)) (hP.sub [0] rfl) (hK.sub [] rfl) (hD.sub [0] (by decide) rfl) hS (Nat.le_of_ble_eq_true rfl) (Nat.le_of_ble_eq_true rfl) dX7_addPart_147
  · skip
    refine lv_iload_n hx hb dX7_addPart_6 rfl (lv_at hl 2 rfl) ?_
    refine lv_bipush (v := 99) hx hb dX7_addPart_7 (by decide) ?_
    refine lv_icmp_eq (tgt := 24) hx hb dX7_addPart_9 (by decide) (fun h11 => ?_) (fun h11 => ?_)
    · skip
      refine lv_iconst (v := 1) hx hb dX7_addPart_24 (by decide) ?_
      refine lv_goto (tgt := 29) hx hb dX7_addPart_25 (by decide) ?_
      refine lv_istore (lv' := [(7, .int 1), (0, .ref k0), (1, .int p0), (2, .int p1), (3, .int p2), (4, .int p3), (5, .int p4), (6, .int p5)]) hx hb dX7_addPart_29 hl (Nat.le_of_ble_eq_true rfl) rfl (fun ls hl => ?_)
      refine lv_iload_n hx hb dX7_addPart_31 rfl (lv_at hl 2 rfl) ?_
      have hPc := hP.sub (ws' := []) [] rfl
      have hDc := hD.sub (ws' := []) [] (by decide) rfl
      have hKc := hK.sub (tys' := []) [] rfl
      have hFc := va_free (wc := []) hD hS hA [] rfl
      refine va_calli (va_runS (As := [.int p0]) (rest := []) ⟨hx, hb, hml, hown, hts⟩ (kX7_isCircuit l dC dI p0 s.heap.size) (va_cwS 1 hts gX7_addPart_X7_isCircuit rfl rfl rfl (by decide +kernel) ⟨Nat.le_of_ble_eq_true rfl, Nat.le_of_ble_eq_true rfl⟩) (fPreS hN hZ hS (fun q h => hFc q h) hPc hKc hDc) rfl rfl hl.1 rfl (lv_room (Nat.le_of_ble_eq_true rfl)) dX7_addPart_32 ⟨Nat.le_of_ble_eq_true rfl, Nat.le_of_ble_eq_true rfl⟩) hS (fun q _ h => hFc q h) hFc (fun r u t H1 locs ht hvm hw hB hz1 hk1 hS => ?_)
      obtain ⟨hP1, hK1, hD1⟩ := hB
      rw [ht] at hP1
      have hK1 := va_K.moved hvm.symm hK1
      obtain ⟨hP, hD⟩ := va_join (wr := [(k0, .inr (10, [.ref kN, .ref kA, .ref kO, .ref kK, .ref kV, .ref kG, .ref kP, .ref kC, .ref kD, .ref kE, .ref kF, .ref kX, .ref kY, .int 0, .ref kT, .ref kU, .int 0, .int 0, .int 0])), (kN, .inl (cI, 2, .inl (fun _ => 0))), (kA, .inl (cI, 2, .inl (fun _ => 0)))]) (w1 := []) hP hD [] [0, 1, 2] rfl rfl (by decide) (by decide) hk1 hFc hP1 hD1
      generalize H1 = H at hP hS ⊢
      have hP : va_P (dC, dI) vwCl [(k0, .inr (10, [.ref kN, .ref kA, .ref kO, .ref kK, .ref kV, .ref kG, .ref kP, .ref kC, .ref kD, .ref kE, .ref kF, .ref kX, .ref kY, .int 0, .ref kT, .ref kU, .int 0, .int 0, .int 0])), (kN, .inl (cI, 2, .inl (fun _ => 0))), (kA, .inl (cI, 2, .inl (fun _ => 0)))] _ := hP
      have hD : va_D A [(k0, .inr (10, [.ref kN, .ref kA, .ref kO, .ref kK, .ref kV, .ref kG, .ref kP, .ref kC, .ref kD, .ref kE, .ref kF, .ref kX, .ref kY, .int 0, .ref kT, .ref kU, .int 0, .int 0, .int 0])), (kN, .inl (cI, 2, .inl (fun _ => 0))), (kA, .inl (cI, 2, .inl (fun _ => 0)))] := hD
      rcases hw with ⟨rfl, hc | hc⟩ | ⟨rfl, hc⟩
      · skip
        subst hc
        have hP : va_P (dC, dI) vwCl [(k0, .inr (10, [.ref kN, .ref kA, .ref kO, .ref kK, .ref kV, .ref kG, .ref kP, .ref kC, .ref kD, .ref kE, .ref kF, .ref kX, .ref kY, .int 0, .ref kT, .ref kU, .int 0, .int 0, .int 0])), (kN, .inl (cI, 2, .inl (fun _ => 0))), (kA, .inl (cI, 2, .inl (fun _ => 0)))] _ := hP
        have hD : va_D A [(k0, .inr (10, [.ref kN, .ref kA, .ref kO, .ref kK, .ref kV, .ref kG, .ref kP, .ref kC, .ref kD, .ref kE, .ref kF, .ref kX, .ref kY, .int 0, .ref kT, .ref kU, .int 0, .int 0, .int 0])), (kN, .inl (cI, 2, .inl (fun _ => 0))), (kA, .inl (cI, 2, .inl (fun _ => 0)))] := hD
        refine lv_if_eq (tgt := 67) hx hb dX7_addPart_35 (by decide) (fun h9 => absurd h9 (by decide)) (fun _ => ?_)
        refine lv_iload hx hb dX7_addPart_38 (lv_at hl 0 rfl) ?_
        refine lv_if_eq (tgt := 67) hx hb dX7_addPart_40 (by decide) (fun h9 => absurd h9 (by decide)) (fun _ => ?_)
        refine lv_iload_n hx hb dX7_addPart_43 rfl (lv_at hl 4 rfl) ?_
        refine lv_i2l (v := p2.toInt64) hx hb dX7_addPart_44 rfl ?_
        refine lv_lconst (v := 1) hx hb dX7_addPart_45 (by decide) ?_
        refine lv_ldc2 (v := 999) hx hb hown (hts (.constantLong RX7 92 (999)) (List.mem_cons_of_mem _ (List.mem_append_left _ (List.mem_append_left _ (List.mem_of_getElem? (i := 0) rfl))))) dX7_addPart_46 ?_
        have hPc := hP.sub (ws' := []) [] rfl
        have hDc := hD.sub (ws' := []) [] (by decide) rfl
        have hKc := hK.sub (tys' := []) [] rfl
        have hFc := va_free (wc := []) hD hS hA [] rfl
        refine va_calli (va_runS (As := [.long p2.toInt64, .long 1, .long 999]) (rest := []) ⟨hx, hb, hml, hown, hts⟩ (kX7_in l dC dI p2.toInt64 1 999 H.size) (va_cwS 3 hts gX7_addPart_X7_in rfl rfl rfl (by decide +kernel) ⟨Nat.le_of_ble_eq_true rfl, Nat.le_of_ble_eq_true rfl⟩) (fPreS hN hZ hS (fun q h => hFc q h) hPc hKc hDc) rfl rfl hl.1 rfl (lv_room (Nat.le_of_ble_eq_true rfl)) dX7_addPart_49 ⟨Nat.le_of_ble_eq_true rfl, Nat.le_of_ble_eq_true rfl⟩) hS (fun q _ h => hFc q h) hFc (fun r u t H1 locs ht hvm hw hB hz1 hk1 hS => ?_)
        obtain ⟨hP1, hK1, hD1⟩ := hB
        rw [ht] at hP1
        have hK1 := va_K.moved hvm.symm hK1
        obtain ⟨hP, hD⟩ := va_join (wr := [(k0, .inr (10, [.ref kN, .ref kA, .ref kO, .ref kK, .ref kV, .ref kG, .ref kP, .ref kC, .ref kD, .ref kE, .ref kF, .ref kX, .ref kY, .int 0, .ref kT, .ref kU, .int 0, .int 0, .int 0])), (kN, .inl (cI, 2, .inl (fun _ => 0))), (kA, .inl (cI, 2, .inl (fun _ => 0)))]) (w1 := []) hP hD [] [0, 1, 2] rfl rfl (by decide) (by decide) hk1 hFc hP1 hD1
        generalize H1 = H at hP hS ⊢
        have hP : va_P (dC, dI) vwCl [(k0, .inr (10, [.ref kN, .ref kA, .ref kO, .ref kK, .ref kV, .ref kG, .ref kP, .ref kC, .ref kD, .ref kE, .ref kF, .ref kX, .ref kY, .int 0, .ref kT, .ref kU, .int 0, .int 0, .int 0])), (kN, .inl (cI, 2, .inl (fun _ => 0))), (kA, .inl (cI, 2, .inl (fun _ => 0)))] _ := hP
        have hD : va_D A [(k0, .inr (10, [.ref kN, .ref kA, .ref kO, .ref kK, .ref kV, .ref kG, .ref kP, .ref kC, .ref kD, .ref kE, .ref kF, .ref kX, .ref kY, .int 0, .ref kT, .ref kU, .int 0, .int 0, .int 0])), (kN, .inl (cI, 2, .inl (fun _ => 0))), (kA, .inl (cI, 2, .inl (fun _ => 0)))] := hD
        rcases hw with ⟨rfl, hi9⟩ | ⟨rfl, hi9⟩
        · skip
          have hi12 : ((¬ (p2 < 1)) ∧ (¬ (999 < p2))) := (fIn p2 1 999 1 999 (by decide) (by decide)).mp hi9
          refine lv_if_eq (tgt := 67) hx hb dX7_addPart_52 (by decide) (fun h9 => absurd h9 (by decide)) (fun _ => ?_)
          refine lv_iload_n hx hb dX7_addPart_55 rfl (lv_at hl 3 rfl) ?_
          refine lv_bipush (v := 116) hx hb dX7_addPart_56 (by decide) ?_
          refine lv_icmp_eq (tgt := 75) hx hb dX7_addPart_58 (by decide) (fun h13 => ?_) (fun h13 => ?_)
          · skip
            refine lv_aload_n hx hb dX7_addPart_75 rfl (lv_at hl 1 rfl) ?_
            refine lv_iload_n hx hb dX7_addPart_76 rfl (lv_at hl 2 rfl) ?_
            refine lv_iload hx hb dX7_addPart_77 (lv_at hl 5 rfl) ?_
            have hPc := hP.sub (ws' := [(k0, .inr (10, [.ref kN, .ref kA, .ref kO, .ref kK, .ref kV, .ref kG, .ref kP, .ref kC, .ref kD, .ref kE, .ref kF, .ref kX, .ref kY, .int 0, .ref kT, .ref kU, .int 0, .int 0, .int 0])), (kN, .inl (cI, 2, .inl (fun _ => 0)))]) [0, 1] rfl
            have hDc := hD.sub (ws' := [(k0, .inr (10, [.ref kN, .ref kA, .ref kO, .ref kK, .ref kV, .ref kG, .ref kP, .ref kC, .ref kD, .ref kE, .ref kF, .ref kX, .ref kY, .int 0, .ref kT, .ref kU, .int 0, .int 0, .int 0])), (kN, .inl (cI, 2, .inl (fun _ => 0)))]) [0, 1] (by decide) rfl
            have hKc := hK.sub (tys' := [(cI, .int)]) [0] rfl
            have hFc := va_free (wc := [(k0, .inr (10, [.ref kN, .ref kA, .ref kO, .ref kK, .ref kV, .ref kG, .ref kP, .ref kC, .ref kD, .ref kE, .ref kF, .ref kX, .ref kY, .int 0, .ref kT, .ref kU, .int 0, .int 0, .int 0])), (kN, .inl (cI, 2, .inl (fun _ => 0)))]) hD hS hA [0, 1] rfl
            refine va_calli (va_runV (As := [.int 0, .int p3]) (rest := []) ⟨hx, hb, hml, hown, hts⟩ (kX7_isNet0 l dC dI k0 kN kA kO kK kV kG kP kC kD kE kF kX kY kT kU cI p3 H.size) (cwV 2 hts gX7_addPart_X7_isNet rfl rfl rfl (by decide +kernel) ⟨Nat.le_of_ble_eq_true rfl, Nat.le_of_ble_eq_true rfl⟩) (fPreV hN hZ hS (fun q h => hFc q h) hPc hKc hDc (ci := 10) (q0 := 0) rfl rfl) rfl rfl hl.1 rfl (lv_room (Nat.le_of_ble_eq_true rfl)) dX7_addPart_79 ⟨Nat.le_of_ble_eq_true rfl, Nat.le_of_ble_eq_true rfl⟩) hS (fun q _ h => hFc q h) hFc (fun r u t H1 locs ht hvm hw hB hz1 hk1 hS => ?_)
            obtain ⟨hP1, hK1, hD1⟩ := hB
            rw [ht] at hP1
            have hK1 := va_K.moved hvm.symm hK1
            obtain ⟨hP, hD⟩ := va_join (wr := [(kA, .inl (cI, 2, .inl (fun _ => 0)))]) (w1 := [(k0, .inr (10, [.ref kN, .ref kA, .ref kO, .ref kK, .ref kV, .ref kG, .ref kP, .ref kC, .ref kD, .ref kE, .ref kF, .ref kX, .ref kY, .int 0, .ref kT, .ref kU, .int 0, .int 0, .int 0])), (kN, .inl (cI, 2, .inl (fun _ => 0)))]) hP hD [0, 1] [2] rfl rfl (by decide) (by decide) hk1 hFc hP1 hD1
            generalize H1 = H at hP hS ⊢
            have hP : va_P (dC, dI) vwCl [(kA, .inl (cI, 2, .inl (fun _ => 0))), (k0, .inr (10, [.ref kN, .ref kA, .ref kO, .ref kK, .ref kV, .ref kG, .ref kP, .ref kC, .ref kD, .ref kE, .ref kF, .ref kX, .ref kY, .int 0, .ref kT, .ref kU, .int 0, .int 0, .int 0])), (kN, .inl (cI, 2, .inl (fun _ => 0)))] _ := hP
            have hD : va_D A [(kA, .inl (cI, 2, .inl (fun _ => 0))), (k0, .inr (10, [.ref kN, .ref kA, .ref kO, .ref kK, .ref kV, .ref kG, .ref kP, .ref kC, .ref kD, .ref kE, .ref kF, .ref kX, .ref kY, .int 0, .ref kT, .ref kU, .int 0, .int 0, .int 0])), (kN, .inl (cI, 2, .inl (fun _ => 0)))] := hD
            subst hw
            refine lv_if_eq (tgt := 111) hx hb dX7_addPart_82 (by decide) (fun _ => ?_) (fun h9 => absurd (by decide) h9)
            refine lv_aload_n hx hb dX7_addPart_111 rfl (lv_at hl 1 rfl) ?_
            refine lv_iconst (v := 2) hx hb dX7_addPart_112 (by decide) ?_
            refine va_put (D := (dC, dI)) (ci := 10) (v := .int 2) (ty := .int) (C := RX7) (T := TX7) (N := 19) hx hb hts (fun w h => List.mem_cons_of_mem _ (List.mem_append_left _ (List.mem_append_right _ (h)))) tyX7 tyX7_ok nmX7 hown hK hP hD hS 1 rfl rfl 16 (by decide) (hts (.fieldLink RX7 57 "NetcompareModel" "thrown" "I") (List.mem_cons_of_mem _ (List.mem_append_left _ (List.mem_append_left _ (List.mem_of_getElem? (i := 1) rfl))))) (fun _ h9 => h9) rfl (by decide +kernel) rfl rfl (Nat.le_of_ble_eq_true rfl) dX7_addPart_113 (fun H locs hP hD hS => ?_)
            have hP : va_P (dC, dI) vwCl [(kA, .inl (cI, 2, .inl (fun _ => 0))), (k0, .inr (10, [.ref kN, .ref kA, .ref kO, .ref kK, .ref kV, .ref kG, .ref kP, .ref kC, .ref kD, .ref kE, .ref kF, .ref kX, .ref kY, .int 0, .ref kT, .ref kU, .int 2, .int 0, .int 0])), (kN, .inl (cI, 2, .inl (fun _ => 0)))] _ := hP
            have hD : va_D A [(kA, .inl (cI, 2, .inl (fun _ => 0))), (k0, .inr (10, [.ref kN, .ref kA, .ref kO, .ref kK, .ref kV, .ref kG, .ref kP, .ref kC, .ref kD, .ref kE, .ref kF, .ref kX, .ref kY, .int 0, .ref kT, .ref kU, .int 2, .int 0, .int 0])), (kN, .inl (cI, 2, .inl (fun _ => 0)))] := hD
            refine lv_goto (tgt := 139) hx hb dX7_addPart_116 (by decide) ?_
            refine lv_aload_n hx hb dX7_addPart_139 rfl (lv_at hl 1 rfl) ?_
            refine va_get (D := (dC, dI)) (ci := 10) (v := .int 2) (C := RX7) (T := TX7) (N := 19) hx hb hts (fun w h => List.mem_cons_of_mem _ (List.mem_append_left _ (List.mem_append_right _ (h)))) hown hK hP 1 rfl rfl 16 (by decide) (hts (.fieldLink RX7 57 "NetcompareModel" "thrown" "I") (List.mem_cons_of_mem _ (List.mem_append_left _ (List.mem_append_left _ (List.mem_of_getElem? (i := 1) rfl))))) (fun _ h9 => h9) rfl dX7_addPart_140 ?_
            refine lv_if_le (tgt := 148) hx hb dX7_addPart_143 (by decide) (fun h9 => absurd h9 (by decide)) (fun _ => ?_)
            refine lv_iconst (v := (-1)) hx hb dX7_addPart_146 (by decide) ?_
            exact ret _ 2 _ _ _ _ _ _ (Or.inr (⟨rfl, (fun h9 => h9.elim ((fun h9 => h9 (Or.inl (rfl)))) ((fun h9 => h9.elim ((fun h9 => h9 (Or.inr (Or.inl (h11))))) ((fun h9 => h9.elim ((fun h9 => h9 (hi12))) ((fun h9 => ((fun h9 => h9 (h13))) h9.1)))))))⟩)) (hP.sub [1] rfl) (hK.sub [] rfl) (hD.sub [1] (by decide) rfl) hS (Nat.le_of_ble_eq_true rfl) (Nat.le_of_ble_eq_true rfl) dX7_addPart_147
          · skip
            refine lv_iload hx hb dX7_addPart_61 (lv_at hl 7 rfl) ?_
            refine lv_iconst (v := (-1)) hx hb dX7_addPart_63 (by decide) ?_
            refine lv_icmp_eq (tgt := 75) hx hb dX7_addPart_64 (by decide) (fun h14 => ?_) (fun h14 => ?_)
            · skip
              refine lv_aload_n hx hb dX7_addPart_75 rfl (lv_at hl 1 rfl) ?_
              refine lv_iload_n hx hb dX7_addPart_76 rfl (lv_at hl 2 rfl) ?_
              refine lv_iload hx hb dX7_addPart_77 (lv_at hl 5 rfl) ?_
              have hPc := hP.sub (ws' := [(k0, .inr (10, [.ref kN, .ref kA, .ref kO, .ref kK, .ref kV, .ref kG, .ref kP, .ref kC, .ref kD, .ref kE, .ref kF, .ref kX, .ref kY, .int 0, .ref kT, .ref kU, .int 0, .int 0, .int 0])), (kN, .inl (cI, 2, .inl (fun _ => 0)))]) [0, 1] rfl
              have hDc := hD.sub (ws' := [(k0, .inr (10, [.ref kN, .ref kA, .ref kO, .ref kK, .ref kV, .ref kG, .ref kP, .ref kC, .ref kD, .ref kE, .ref kF, .ref kX, .ref kY, .int 0, .ref kT, .ref kU, .int 0, .int 0, .int 0])), (kN, .inl (cI, 2, .inl (fun _ => 0)))]) [0, 1] (by decide) rfl
              have hKc := hK.sub (tys' := [(cI, .int)]) [0] rfl
              have hFc := va_free (wc := [(k0, .inr (10, [.ref kN, .ref kA, .ref kO, .ref kK, .ref kV, .ref kG, .ref kP, .ref kC, .ref kD, .ref kE, .ref kF, .ref kX, .ref kY, .int 0, .ref kT, .ref kU, .int 0, .int 0, .int 0])), (kN, .inl (cI, 2, .inl (fun _ => 0)))]) hD hS hA [0, 1] rfl
              refine va_calli (va_runV (As := [.int 0, .int p3]) (rest := []) ⟨hx, hb, hml, hown, hts⟩ (kX7_isNet0 l dC dI k0 kN kA kO kK kV kG kP kC kD kE kF kX kY kT kU cI p3 H.size) (cwV 2 hts gX7_addPart_X7_isNet rfl rfl rfl (by decide +kernel) ⟨Nat.le_of_ble_eq_true rfl, Nat.le_of_ble_eq_true rfl⟩) (fPreV hN hZ hS (fun q h => hFc q h) hPc hKc hDc (ci := 10) (q0 := 0) rfl rfl) rfl rfl hl.1 rfl (lv_room (Nat.le_of_ble_eq_true rfl)) dX7_addPart_79 ⟨Nat.le_of_ble_eq_true rfl, Nat.le_of_ble_eq_true rfl⟩) hS (fun q _ h => hFc q h) hFc (fun r u t H1 locs ht hvm hw hB hz1 hk1 hS => ?_)
              obtain ⟨hP1, hK1, hD1⟩ := hB
              rw [ht] at hP1
              have hK1 := va_K.moved hvm.symm hK1
              obtain ⟨hP, hD⟩ := va_join (wr := [(kA, .inl (cI, 2, .inl (fun _ => 0)))]) (w1 := [(k0, .inr (10, [.ref kN, .ref kA, .ref kO, .ref kK, .ref kV, .ref kG, .ref kP, .ref kC, .ref kD, .ref kE, .ref kF, .ref kX, .ref kY, .int 0, .ref kT, .ref kU, .int 0, .int 0, .int 0])), (kN, .inl (cI, 2, .inl (fun _ => 0)))]) hP hD [0, 1] [2] rfl rfl (by decide) (by decide) hk1 hFc hP1 hD1
              generalize H1 = H at hP hS ⊢
              have hP : va_P (dC, dI) vwCl [(kA, .inl (cI, 2, .inl (fun _ => 0))), (k0, .inr (10, [.ref kN, .ref kA, .ref kO, .ref kK, .ref kV, .ref kG, .ref kP, .ref kC, .ref kD, .ref kE, .ref kF, .ref kX, .ref kY, .int 0, .ref kT, .ref kU, .int 0, .int 0, .int 0])), (kN, .inl (cI, 2, .inl (fun _ => 0)))] _ := hP
              have hD : va_D A [(kA, .inl (cI, 2, .inl (fun _ => 0))), (k0, .inr (10, [.ref kN, .ref kA, .ref kO, .ref kK, .ref kV, .ref kG, .ref kP, .ref kC, .ref kD, .ref kE, .ref kF, .ref kX, .ref kY, .int 0, .ref kT, .ref kU, .int 0, .int 0, .int 0])), (kN, .inl (cI, 2, .inl (fun _ => 0)))] := hD
              subst hw
              refine lv_if_eq (tgt := 111) hx hb dX7_addPart_82 (by decide) (fun _ => ?_) (fun h9 => absurd (by decide) h9)
              refine lv_aload_n hx hb dX7_addPart_111 rfl (lv_at hl 1 rfl) ?_
              refine lv_iconst (v := 2) hx hb dX7_addPart_112 (by decide) ?_
              refine va_put (D := (dC, dI)) (ci := 10) (v := .int 2) (ty := .int) (C := RX7) (T := TX7) (N := 19) hx hb hts (fun w h => List.mem_cons_of_mem _ (List.mem_append_left _ (List.mem_append_right _ (h)))) tyX7 tyX7_ok nmX7 hown hK hP hD hS 1 rfl rfl 16 (by decide) (hts (.fieldLink RX7 57 "NetcompareModel" "thrown" "I") (List.mem_cons_of_mem _ (List.mem_append_left _ (List.mem_append_left _ (List.mem_of_getElem? (i := 1) rfl))))) (fun _ h9 => h9) rfl (by decide +kernel) rfl rfl (Nat.le_of_ble_eq_true rfl) dX7_addPart_113 (fun H locs hP hD hS => ?_)
              have hP : va_P (dC, dI) vwCl [(kA, .inl (cI, 2, .inl (fun _ => 0))), (k0, .inr (10, [.ref kN, .ref kA, .ref kO, .ref kK, .ref kV, .ref kG, .ref kP, .ref kC, .ref kD, .ref kE, .ref kF, .ref kX, .ref kY, .int 0, .ref kT, .ref kU, .int 2, .int 0, .int 0])), (kN, .inl (cI, 2, .inl (fun _ => 0)))] _ := hP
              have hD : va_D A [(kA, .inl (cI, 2, .inl (fun _ => 0))), (k0, .inr (10, [.ref kN, .ref kA, .ref kO, .ref kK, .ref kV, .ref kG, .ref kP, .ref kC, .ref kD, .ref kE, .ref kF, .ref kX, .ref kY, .int 0, .ref kT, .ref kU, .int 2, .int 0, .int 0])), (kN, .inl (cI, 2, .inl (fun _ => 0)))] := hD
              refine lv_goto (tgt := 139) hx hb dX7_addPart_116 (by decide) ?_
              refine lv_aload_n hx hb dX7_addPart_139 rfl (lv_at hl 1 rfl) ?_
              refine va_get (D := (dC, dI)) (ci := 10) (v := .int 2) (C := RX7) (T := TX7) (N := 19) hx hb hts (fun w h => List.mem_cons_of_mem _ (List.mem_append_left _ (List.mem_append_right _ (h)))) hown hK hP 1 rfl rfl 16 (by decide) (hts (.fieldLink RX7 57 "NetcompareModel" "thrown" "I") (List.mem_cons_of_mem _ (List.mem_append_left _ (List.mem_append_left _ (List.mem_of_getElem? (i := 1) rfl))))) (fun _ h9 => h9) rfl dX7_addPart_140 ?_
              refine lv_if_le (tgt := 148) hx hb dX7_addPart_143 (by decide) (fun h9 => absurd h9 (by decide)) (fun _ => ?_)
              refine lv_iconst (v := (-1)) hx hb dX7_addPart_146 (by decide) ?_
              exact ret _ 2 _ _ _ _ _ _ (Or.inr (⟨rfl, (fun h9 => h9.elim ((fun h9 => h9 (Or.inl (rfl)))) ((fun h9 => h9.elim ((fun h9 => h9 (Or.inr (Or.inl (h11))))) ((fun h9 => h9.elim ((fun h9 => h9 (hi12))) ((fun h9 => ((fun h9 => h9 (h14))) h9.2)))))))⟩)) (hP.sub [1] rfl) (hK.sub [] rfl) (hD.sub [1] (by decide) rfl) hS (Nat.le_of_ble_eq_true rfl) (Nat.le_of_ble_eq_true rfl) dX7_addPart_147
            · skip
              refine lv_aload_n hx hb dX7_addPart_67 rfl (lv_at hl 1 rfl) ?_
              refine lv_iconst (v := 1) hx hb dX7_addPart_68 (by decide) ?_
              refine va_put (D := (dC, dI)) (ci := 10) (v := .int 1) (ty := .int) (C := RX7) (T := TX7) (N := 19) hx hb hts (fun w h => List.mem_cons_of_mem _ (List.mem_append_left _ (List.mem_append_right _ (h)))) tyX7 tyX7_ok nmX7 hown hK hP hD hS 0 rfl rfl 16 (by decide) (hts (.fieldLink RX7 57 "NetcompareModel" "thrown" "I") (List.mem_cons_of_mem _ (List.mem_append_left _ (List.mem_append_left _ (List.mem_of_getElem? (i := 1) rfl))))) (fun _ h9 => h9) rfl (by decide +kernel) rfl rfl (Nat.le_of_ble_eq_true rfl) dX7_addPart_69 (fun H locs hP hD hS => ?_)
              have hP : va_P (dC, dI) vwCl [(k0, .inr (10, [.ref kN, .ref kA, .ref kO, .ref kK, .ref kV, .ref kG, .ref kP, .ref kC, .ref kD, .ref kE, .ref kF, .ref kX, .ref kY, .int 0, .ref kT, .ref kU, .int 1, .int 0, .int 0])), (kN, .inl (cI, 2, .inl (fun _ => 0))), (kA, .inl (cI, 2, .inl (fun _ => 0)))] _ := hP
              have hD : va_D A [(k0, .inr (10, [.ref kN, .ref kA, .ref kO, .ref kK, .ref kV, .ref kG, .ref kP, .ref kC, .ref kD, .ref kE, .ref kF, .ref kX, .ref kY, .int 0, .ref kT, .ref kU, .int 1, .int 0, .int 0])), (kN, .inl (cI, 2, .inl (fun _ => 0))), (kA, .inl (cI, 2, .inl (fun _ => 0)))] := hD
              refine lv_goto (tgt := 139) hx hb dX7_addPart_72 (by decide) ?_
              refine lv_aload_n hx hb dX7_addPart_139 rfl (lv_at hl 1 rfl) ?_
              refine va_get (D := (dC, dI)) (ci := 10) (v := .int 1) (C := RX7) (T := TX7) (N := 19) hx hb hts (fun w h => List.mem_cons_of_mem _ (List.mem_append_left _ (List.mem_append_right _ (h)))) hown hK hP 0 rfl rfl 16 (by decide) (hts (.fieldLink RX7 57 "NetcompareModel" "thrown" "I") (List.mem_cons_of_mem _ (List.mem_append_left _ (List.mem_append_left _ (List.mem_of_getElem? (i := 1) rfl))))) (fun _ h9 => h9) rfl dX7_addPart_140 ?_
              refine lv_if_le (tgt := 148) hx hb dX7_addPart_143 (by decide) (fun h9 => absurd h9 (by decide)) (fun _ => ?_)
              refine lv_iconst (v := (-1)) hx hb dX7_addPart_146 (by decide) ?_
              exact ret _ 1 _ _ _ _ _ _ (Or.inl (⟨rfl, Or.inr (Or.inr (Or.inr (⟨h13, h14⟩)))⟩)) (hP.sub [0] rfl) (hK.sub [] rfl) (hD.sub [0] (by decide) rfl) hS (Nat.le_of_ble_eq_true rfl) (Nat.le_of_ble_eq_true rfl) dX7_addPart_147
        · skip
          have hi15 : ¬ ((¬ (p2 < 1)) ∧ (¬ (999 < p2))) := fun q => hi9 ((fIn p2 1 999 1 999 (by decide) (by decide)).mpr q)
          refine lv_if_eq (tgt := 67) hx hb dX7_addPart_52 (by decide) (fun _ => ?_) (fun h9 => absurd (by decide) h9)
          refine lv_aload_n hx hb dX7_addPart_67 rfl (lv_at hl 1 rfl) ?_
          refine lv_iconst (v := 1) hx hb dX7_addPart_68 (by decide) ?_
          refine va_put (D := (dC, dI)) (ci := 10) (v := .int 1) (ty := .int) (C := RX7) (T := TX7) (N := 19) hx hb hts (fun w h => List.mem_cons_of_mem _ (List.mem_append_left _ (List.mem_append_right _ (h)))) tyX7 tyX7_ok nmX7 hown hK hP hD hS 0 rfl rfl 16 (by decide) (hts (.fieldLink RX7 57 "NetcompareModel" "thrown" "I") (List.mem_cons_of_mem _ (List.mem_append_left _ (List.mem_append_left _ (List.mem_of_getElem? (i := 1) rfl))))) (fun _ h9 => h9) rfl (by decide +kernel) rfl rfl (Nat.le_of_ble_eq_true rfl) dX7_addPart_69 (fun H locs hP hD hS => ?_)
          have hP : va_P (dC, dI) vwCl [(k0, .inr (10, [.ref kN, .ref kA, .ref kO, .ref kK, .ref kV, .ref kG, .ref kP, .ref kC, .ref kD, .ref kE, .ref kF, .ref kX, .ref kY, .int 0, .ref kT, .ref kU, .int 1, .int 0, .int 0])), (kN, .inl (cI, 2, .inl (fun _ => 0))), (kA, .inl (cI, 2, .inl (fun _ => 0)))] _ := hP
          have hD : va_D A [(k0, .inr (10, [.ref kN, .ref kA, .ref kO, .ref kK, .ref kV, .ref kG, .ref kP, .ref kC, .ref kD, .ref kE, .ref kF, .ref kX, .ref kY, .int 0, .ref kT, .ref kU, .int 1, .int 0, .int 0])), (kN, .inl (cI, 2, .inl (fun _ => 0))), (kA, .inl (cI, 2, .inl (fun _ => 0)))] := hD
          refine lv_goto (tgt := 139) hx hb dX7_addPart_72 (by decide) ?_
          refine lv_aload_n hx hb dX7_addPart_139 rfl (lv_at hl 1 rfl) ?_
          refine va_get (D := (dC, dI)) (ci := 10) (v := .int 1) (C := RX7) (T := TX7) (N := 19) hx hb hts (fun w h => List.mem_cons_of_mem _ (List.mem_append_left _ (List.mem_append_right _ (h)))) hown hK hP 0 rfl rfl 16 (by decide) (hts (.fieldLink RX7 57 "NetcompareModel" "thrown" "I") (List.mem_cons_of_mem _ (List.mem_append_left _ (List.mem_append_left _ (List.mem_of_getElem? (i := 1) rfl))))) (fun _ h9 => h9) rfl dX7_addPart_140 ?_
          refine lv_if_le (tgt := 148) hx hb dX7_addPart_143 (by decide) (fun h9 => absurd h9 (by decide)) (fun _ => ?_)
          refine lv_iconst (v := (-1)) hx hb dX7_addPart_146 (by decide) ?_
          exact ret _ 1 _ _ _ _ _ _ (Or.inl (⟨rfl, Or.inr (Or.inr (Or.inl (hi15)))⟩)) (hP.sub [0] rfl) (hK.sub [] rfl) (hD.sub [0] (by decide) rfl) hS (Nat.le_of_ble_eq_true rfl) (Nat.le_of_ble_eq_true rfl) dX7_addPart_147
      · skip
        subst hc
        have hP : va_P (dC, dI) vwCl [(k0, .inr (10, [.ref kN, .ref kA, .ref kO, .ref kK, .ref kV, .ref kG, .ref kP, .ref kC, .ref kD, .ref kE, .ref kF, .ref kX, .ref kY, .int 0, .ref kT, .ref kU, .int 0, .int 0, .int 0])), (kN, .inl (cI, 2, .inl (fun _ => 0))), (kA, .inl (cI, 2, .inl (fun _ => 0)))] _ := hP
        have hD : va_D A [(k0, .inr (10, [.ref kN, .ref kA, .ref kO, .ref kK, .ref kV, .ref kG, .ref kP, .ref kC, .ref kD, .ref kE, .ref kF, .ref kX, .ref kY, .int 0, .ref kT, .ref kU, .int 0, .int 0, .int 0])), (kN, .inl (cI, 2, .inl (fun _ => 0))), (kA, .inl (cI, 2, .inl (fun _ => 0)))] := hD
        refine lv_if_eq (tgt := 67) hx hb dX7_addPart_35 (by decide) (fun h9 => absurd h9 (by decide)) (fun _ => ?_)
        refine lv_iload hx hb dX7_addPart_38 (lv_at hl 0 rfl) ?_
        refine lv_if_eq (tgt := 67) hx hb dX7_addPart_40 (by decide) (fun h9 => absurd h9 (by decide)) (fun _ => ?_)
        refine lv_iload_n hx hb dX7_addPart_43 rfl (lv_at hl 4 rfl) ?_
        refine lv_i2l (v := p2.toInt64) hx hb dX7_addPart_44 rfl ?_
        refine lv_lconst (v := 1) hx hb dX7_addPart_45 (by decide) ?_
        refine lv_ldc2 (v := 999) hx hb hown (hts (.constantLong RX7 92 (999)) (List.mem_cons_of_mem _ (List.mem_append_left _ (List.mem_append_left _ (List.mem_of_getElem? (i := 0) rfl))))) dX7_addPart_46 ?_
        have hPc := hP.sub (ws' := []) [] rfl
        have hDc := hD.sub (ws' := []) [] (by decide) rfl
        have hKc := hK.sub (tys' := []) [] rfl
        have hFc := va_free (wc := []) hD hS hA [] rfl
        refine va_calli (va_runS (As := [.long p2.toInt64, .long 1, .long 999]) (rest := []) ⟨hx, hb, hml, hown, hts⟩ (kX7_in l dC dI p2.toInt64 1 999 H.size) (va_cwS 3 hts gX7_addPart_X7_in rfl rfl rfl (by decide +kernel) ⟨Nat.le_of_ble_eq_true rfl, Nat.le_of_ble_eq_true rfl⟩) (fPreS hN hZ hS (fun q h => hFc q h) hPc hKc hDc) rfl rfl hl.1 rfl (lv_room (Nat.le_of_ble_eq_true rfl)) dX7_addPart_49 ⟨Nat.le_of_ble_eq_true rfl, Nat.le_of_ble_eq_true rfl⟩) hS (fun q _ h => hFc q h) hFc (fun r u t H1 locs ht hvm hw hB hz1 hk1 hS => ?_)
        obtain ⟨hP1, hK1, hD1⟩ := hB
        rw [ht] at hP1
        have hK1 := va_K.moved hvm.symm hK1
        obtain ⟨hP, hD⟩ := va_join (wr := [(k0, .inr (10, [.ref kN, .ref kA, .ref kO, .ref kK, .ref kV, .ref kG, .ref kP, .ref kC, .ref kD, .ref kE, .ref kF, .ref kX, .ref kY, .int 0, .ref kT, .ref kU, .int 0, .int 0, .int 0])), (kN, .inl (cI, 2, .inl (fun _ => 0))), (kA, .inl (cI, 2, .inl (fun _ => 0)))]) (w1 := []) hP hD [] [0, 1, 2] rfl rfl (by decide) (by decide) hk1 hFc hP1 hD1
        generalize H1 = H at hP hS ⊢
        have hP : va_P (dC, dI) vwCl [(k0, .inr (10, [.ref kN, .ref kA, .ref kO, .ref kK, .ref kV, .ref kG, .ref kP, .ref kC, .ref kD, .ref kE, .ref kF, .ref kX, .ref kY, .int 0, .ref kT, .ref kU, .int 0, .int 0, .int 0])), (kN, .inl (cI, 2, .inl (fun _ => 0))), (kA, .inl (cI, 2, .inl (fun _ => 0)))] _ := hP
        have hD : va_D A [(k0, .inr (10, [.ref kN, .ref kA, .ref kO, .ref kK, .ref kV, .ref kG, .ref kP, .ref kC, .ref kD, .ref kE, .ref kF, .ref kX, .ref kY, .int 0, .ref kT, .ref kU, .int 0, .int 0, .int 0])), (kN, .inl (cI, 2, .inl (fun _ => 0))), (kA, .inl (cI, 2, .inl (fun _ => 0)))] := hD
        rcases hw with ⟨rfl, hi9⟩ | ⟨rfl, hi9⟩
        · skip
          have hi16 : ((¬ (p2 < 1)) ∧ (¬ (999 < p2))) := (fIn p2 1 999 1 999 (by decide) (by decide)).mp hi9
          refine lv_if_eq (tgt := 67) hx hb dX7_addPart_52 (by decide) (fun h9 => absurd h9 (by decide)) (fun _ => ?_)
          refine lv_iload_n hx hb dX7_addPart_55 rfl (lv_at hl 3 rfl) ?_
          refine lv_bipush (v := 116) hx hb dX7_addPart_56 (by decide) ?_
          refine lv_icmp_eq (tgt := 75) hx hb dX7_addPart_58 (by decide) (fun h17 => ?_) (fun h17 => ?_)
          · skip
            refine lv_aload_n hx hb dX7_addPart_75 rfl (lv_at hl 1 rfl) ?_
            refine lv_iload_n hx hb dX7_addPart_76 rfl (lv_at hl 2 rfl) ?_
            refine lv_iload hx hb dX7_addPart_77 (lv_at hl 5 rfl) ?_
            have hPc := hP.sub (ws' := [(k0, .inr (10, [.ref kN, .ref kA, .ref kO, .ref kK, .ref kV, .ref kG, .ref kP, .ref kC, .ref kD, .ref kE, .ref kF, .ref kX, .ref kY, .int 0, .ref kT, .ref kU, .int 0, .int 0, .int 0])), (kN, .inl (cI, 2, .inl (fun _ => 0)))]) [0, 1] rfl
            have hDc := hD.sub (ws' := [(k0, .inr (10, [.ref kN, .ref kA, .ref kO, .ref kK, .ref kV, .ref kG, .ref kP, .ref kC, .ref kD, .ref kE, .ref kF, .ref kX, .ref kY, .int 0, .ref kT, .ref kU, .int 0, .int 0, .int 0])), (kN, .inl (cI, 2, .inl (fun _ => 0)))]) [0, 1] (by decide) rfl
            have hKc := hK.sub (tys' := [(cI, .int)]) [0] rfl
            have hFc := va_free (wc := [(k0, .inr (10, [.ref kN, .ref kA, .ref kO, .ref kK, .ref kV, .ref kG, .ref kP, .ref kC, .ref kD, .ref kE, .ref kF, .ref kX, .ref kY, .int 0, .ref kT, .ref kU, .int 0, .int 0, .int 0])), (kN, .inl (cI, 2, .inl (fun _ => 0)))]) hD hS hA [0, 1] rfl
            refine va_calli (va_runV (As := [.int 1, .int p3]) (rest := []) ⟨hx, hb, hml, hown, hts⟩ (kX7_isNet1 l dC dI k0 kN kA kO kK kV kG kP kC kD kE kF kX kY kT kU cI p3 H.size) (cwV 2 hts gX7_addPart_X7_isNet rfl rfl rfl (by decide +kernel) ⟨Nat.le_of_ble_eq_true rfl, Nat.le_of_ble_eq_true rfl⟩) (fPreV hN hZ hS (fun q h => hFc q h) hPc hKc hDc (ci := 10) (q0 := 0) rfl rfl) rfl rfl hl.1 rfl (lv_room (Nat.le_of_ble_eq_true rfl)) dX7_addPart_79 ⟨Nat.le_of_ble_eq_true rfl, Nat.le_of_ble_eq_true rfl⟩) hS (fun q _ h => hFc q h) hFc (fun r u t H1 locs ht hvm hw hB hz1 hk1 hS => ?_)
            obtain ⟨hP1, hK1, hD1⟩ := hB
            rw [ht] at hP1
            have hK1 := va_K.moved hvm.symm hK1
            obtain ⟨hP, hD⟩ := va_join (wr := [(kA, .inl (cI, 2, .inl (fun _ => 0)))]) (w1 := [(k0, .inr (10, [.ref kN, .ref kA, .ref kO, .ref kK, .ref kV, .ref kG, .ref kP, .ref kC, .ref kD, .ref kE, .ref kF, .ref kX, .ref kY, .int 0, .ref kT, .ref kU, .int 0, .int 0, .int 0])), (kN, .inl (cI, 2, .inl (fun _ => 0)))]) hP hD [0, 1] [2] rfl rfl (by decide) (by decide) hk1 hFc hP1 hD1
            generalize H1 = H at hP hS ⊢
            have hP : va_P (dC, dI) vwCl [(kA, .inl (cI, 2, .inl (fun _ => 0))), (k0, .inr (10, [.ref kN, .ref kA, .ref kO, .ref kK, .ref kV, .ref kG, .ref kP, .ref kC, .ref kD, .ref kE, .ref kF, .ref kX, .ref kY, .int 0, .ref kT, .ref kU, .int 0, .int 0, .int 0])), (kN, .inl (cI, 2, .inl (fun _ => 0)))] _ := hP
            have hD : va_D A [(kA, .inl (cI, 2, .inl (fun _ => 0))), (k0, .inr (10, [.ref kN, .ref kA, .ref kO, .ref kK, .ref kV, .ref kG, .ref kP, .ref kC, .ref kD, .ref kE, .ref kF, .ref kX, .ref kY, .int 0, .ref kT, .ref kU, .int 0, .int 0, .int 0])), (kN, .inl (cI, 2, .inl (fun _ => 0)))] := hD
            subst hw
            refine lv_if_eq (tgt := 111) hx hb dX7_addPart_82 (by decide) (fun _ => ?_) (fun h9 => absurd (by decide) h9)
            refine lv_aload_n hx hb dX7_addPart_111 rfl (lv_at hl 1 rfl) ?_
            refine lv_iconst (v := 2) hx hb dX7_addPart_112 (by decide) ?_
            refine va_put (D := (dC, dI)) (ci := 10) (v := .int 2) (ty := .int) (C := RX7) (T := TX7) (N := 19) hx hb hts (fun w h => List.mem_cons_of_mem _ (List.mem_append_left _ (List.mem_append_right _ (h)))) tyX7 tyX7_ok nmX7 hown hK hP hD hS 1 rfl rfl 16 (by decide) (hts (.fieldLink RX7 57 "NetcompareModel" "thrown" "I") (List.mem_cons_of_mem _ (List.mem_append_left _ (List.mem_append_left _ (List.mem_of_getElem? (i := 1) rfl))))) (fun _ h9 => h9) rfl (by decide +kernel) rfl rfl (Nat.le_of_ble_eq_true rfl) dX7_addPart_113 (fun H locs hP hD hS => ?_)
            have hP : va_P (dC, dI) vwCl [(kA, .inl (cI, 2, .inl (fun _ => 0))), (k0, .inr (10, [.ref kN, .ref kA, .ref kO, .ref kK, .ref kV, .ref kG, .ref kP, .ref kC, .ref kD, .ref kE, .ref kF, .ref kX, .ref kY, .int 0, .ref kT, .ref kU, .int 2, .int 0, .int 0])), (kN, .inl (cI, 2, .inl (fun _ => 0)))] _ := hP
            have hD : va_D A [(kA, .inl (cI, 2, .inl (fun _ => 0))), (k0, .inr (10, [.ref kN, .ref kA, .ref kO, .ref kK, .ref kV, .ref kG, .ref kP, .ref kC, .ref kD, .ref kE, .ref kF, .ref kX, .ref kY, .int 0, .ref kT, .ref kU, .int 2, .int 0, .int 0])), (kN, .inl (cI, 2, .inl (fun _ => 0)))] := hD
            refine lv_goto (tgt := 139) hx hb dX7_addPart_116 (by decide) ?_
            refine lv_aload_n hx hb dX7_addPart_139 rfl (lv_at hl 1 rfl) ?_
            refine va_get (D := (dC, dI)) (ci := 10) (v := .int 2) (C := RX7) (T := TX7) (N := 19) hx hb hts (fun w h => List.mem_cons_of_mem _ (List.mem_append_left _ (List.mem_append_right _ (h)))) hown hK hP 1 rfl rfl 16 (by decide) (hts (.fieldLink RX7 57 "NetcompareModel" "thrown" "I") (List.mem_cons_of_mem _ (List.mem_append_left _ (List.mem_append_left _ (List.mem_of_getElem? (i := 1) rfl))))) (fun _ h9 => h9) rfl dX7_addPart_140 ?_
            refine lv_if_le (tgt := 148) hx hb dX7_addPart_143 (by decide) (fun h9 => absurd h9 (by decide)) (fun _ => ?_)
            refine lv_iconst (v := (-1)) hx hb dX7_addPart_146 (by decide) ?_
            exact ret _ 2 _ _ _ _ _ _ (Or.inr (⟨rfl, (fun h9 => h9.elim ((fun h9 => h9 (Or.inr (rfl)))) ((fun h9 => h9.elim ((fun h9 => h9 (Or.inr (Or.inl (h11))))) ((fun h9 => h9.elim ((fun h9 => h9 (hi16))) ((fun h9 => ((fun h9 => h9 (h17))) h9.1)))))))⟩)) (hP.sub [1] rfl) (hK.sub [] rfl) (hD.sub [1] (by decide) rfl) hS (Nat.le_of_ble_eq_true rfl) (Nat.le_of_ble_eq_true rfl) dX7_addPart_147
          · skip
            refine lv_iload hx hb dX7_addPart_61 (lv_at hl 7 rfl) ?_
            refine lv_iconst (v := (-1)) hx hb dX7_addPart_63 (by decide) ?_
            refine lv_icmp_eq (tgt := 75) hx hb dX7_addPart_64 (by decide) (fun h18 => ?_) (fun h18 => ?_)
            · skip
              refine lv_aload_n hx hb dX7_addPart_75 rfl (lv_at hl 1 rfl) ?_
              refine lv_iload_n hx hb dX7_addPart_76 rfl (lv_at hl 2 rfl) ?_
              refine lv_iload hx hb dX7_addPart_77 (lv_at hl 5 rfl) ?_
              have hPc := hP.sub (ws' := [(k0, .inr (10, [.ref kN, .ref kA, .ref kO, .ref kK, .ref kV, .ref kG, .ref kP, .ref kC, .ref kD, .ref kE, .ref kF, .ref kX, .ref kY, .int 0, .ref kT, .ref kU, .int 0, .int 0, .int 0])), (kN, .inl (cI, 2, .inl (fun _ => 0)))]) [0, 1] rfl
              have hDc := hD.sub (ws' := [(k0, .inr (10, [.ref kN, .ref kA, .ref kO, .ref kK, .ref kV, .ref kG, .ref kP, .ref kC, .ref kD, .ref kE, .ref kF, .ref kX, .ref kY, .int 0, .ref kT, .ref kU, .int 0, .int 0, .int 0])), (kN, .inl (cI, 2, .inl (fun _ => 0)))]) [0, 1] (by decide) rfl
              have hKc := hK.sub (tys' := [(cI, .int)]) [0] rfl
              have hFc := va_free (wc := [(k0, .inr (10, [.ref kN, .ref kA, .ref kO, .ref kK, .ref kV, .ref kG, .ref kP, .ref kC, .ref kD, .ref kE, .ref kF, .ref kX, .ref kY, .int 0, .ref kT, .ref kU, .int 0, .int 0, .int 0])), (kN, .inl (cI, 2, .inl (fun _ => 0)))]) hD hS hA [0, 1] rfl
              refine va_calli (va_runV (As := [.int 1, .int p3]) (rest := []) ⟨hx, hb, hml, hown, hts⟩ (kX7_isNet1 l dC dI k0 kN kA kO kK kV kG kP kC kD kE kF kX kY kT kU cI p3 H.size) (cwV 2 hts gX7_addPart_X7_isNet rfl rfl rfl (by decide +kernel) ⟨Nat.le_of_ble_eq_true rfl, Nat.le_of_ble_eq_true rfl⟩) (fPreV hN hZ hS (fun q h => hFc q h) hPc hKc hDc (ci := 10) (q0 := 0) rfl rfl) rfl rfl hl.1 rfl (lv_room (Nat.le_of_ble_eq_true rfl)) dX7_addPart_79 ⟨Nat.le_of_ble_eq_true rfl, Nat.le_of_ble_eq_true rfl⟩) hS (fun q _ h => hFc q h) hFc (fun r u t H1 locs ht hvm hw hB hz1 hk1 hS => ?_)
              obtain ⟨hP1, hK1, hD1⟩ := hB
              rw [ht] at hP1
              have hK1 := va_K.moved hvm.symm hK1
              obtain ⟨hP, hD⟩ := va_join (wr := [(kA, .inl (cI, 2, .inl (fun _ => 0)))]) (w1 := [(k0, .inr (10, [.ref kN, .ref kA, .ref kO, .ref kK, .ref kV, .ref kG, .ref kP, .ref kC, .ref kD, .ref kE, .ref kF, .ref kX, .ref kY, .int 0, .ref kT, .ref kU, .int 0, .int 0, .int 0])), (kN, .inl (cI, 2, .inl (fun _ => 0)))]) hP hD [0, 1] [2] rfl rfl (by decide) (by decide) hk1 hFc hP1 hD1
              generalize H1 = H at hP hS ⊢
              have hP : va_P (dC, dI) vwCl [(kA, .inl (cI, 2, .inl (fun _ => 0))), (k0, .inr (10, [.ref kN, .ref kA, .ref kO, .ref kK, .ref kV, .ref kG, .ref kP, .ref kC, .ref kD, .ref kE, .ref kF, .ref kX, .ref kY, .int 0, .ref kT, .ref kU, .int 0, .int 0, .int 0])), (kN, .inl (cI, 2, .inl (fun _ => 0)))] _ := hP
              have hD : va_D A [(kA, .inl (cI, 2, .inl (fun _ => 0))), (k0, .inr (10, [.ref kN, .ref kA, .ref kO, .ref kK, .ref kV, .ref kG, .ref kP, .ref kC, .ref kD, .ref kE, .ref kF, .ref kX, .ref kY, .int 0, .ref kT, .ref kU, .int 0, .int 0, .int 0])), (kN, .inl (cI, 2, .inl (fun _ => 0)))] := hD
              subst hw
              refine lv_if_eq (tgt := 111) hx hb dX7_addPart_82 (by decide) (fun _ => ?_) (fun h9 => absurd (by decide) h9)
              refine lv_aload_n hx hb dX7_addPart_111 rfl (lv_at hl 1 rfl) ?_
              refine lv_iconst (v := 2) hx hb dX7_addPart_112 (by decide) ?_
              refine va_put (D := (dC, dI)) (ci := 10) (v := .int 2) (ty := .int) (C := RX7) (T := TX7) (N := 19) hx hb hts (fun w h => List.mem_cons_of_mem _ (List.mem_append_left _ (List.mem_append_right _ (h)))) tyX7 tyX7_ok nmX7 hown hK hP hD hS 1 rfl rfl 16 (by decide) (hts (.fieldLink RX7 57 "NetcompareModel" "thrown" "I") (List.mem_cons_of_mem _ (List.mem_append_left _ (List.mem_append_left _ (List.mem_of_getElem? (i := 1) rfl))))) (fun _ h9 => h9) rfl (by decide +kernel) rfl rfl (Nat.le_of_ble_eq_true rfl) dX7_addPart_113 (fun H locs hP hD hS => ?_)
              have hP : va_P (dC, dI) vwCl [(kA, .inl (cI, 2, .inl (fun _ => 0))), (k0, .inr (10, [.ref kN, .ref kA, .ref kO, .ref kK, .ref kV, .ref kG, .ref kP, .ref kC, .ref kD, .ref kE, .ref kF, .ref kX, .ref kY, .int 0, .ref kT, .ref kU, .int 2, .int 0, .int 0])), (kN, .inl (cI, 2, .inl (fun _ => 0)))] _ := hP
              have hD : va_D A [(kA, .inl (cI, 2, .inl (fun _ => 0))), (k0, .inr (10, [.ref kN, .ref kA, .ref kO, .ref kK, .ref kV, .ref kG, .ref kP, .ref kC, .ref kD, .ref kE, .ref kF, .ref kX, .ref kY, .int 0, .ref kT, .ref kU, .int 2, .int 0, .int 0])), (kN, .inl (cI, 2, .inl (fun _ => 0)))] := hD
              refine lv_goto (tgt := 139) hx hb dX7_addPart_116 (by decide) ?_
              refine lv_aload_n hx hb dX7_addPart_139 rfl (lv_at hl 1 rfl) ?_
              refine va_get (D := (dC, dI)) (ci := 10) (v := .int 2) (C := RX7) (T := TX7) (N := 19) hx hb hts (fun w h => List.mem_cons_of_mem _ (List.mem_append_left _ (List.mem_append_right _ (h)))) hown hK hP 1 rfl rfl 16 (by decide) (hts (.fieldLink RX7 57 "NetcompareModel" "thrown" "I") (List.mem_cons_of_mem _ (List.mem_append_left _ (List.mem_append_left _ (List.mem_of_getElem? (i := 1) rfl))))) (fun _ h9 => h9) rfl dX7_addPart_140 ?_
              refine lv_if_le (tgt := 148) hx hb dX7_addPart_143 (by decide) (fun h9 => absurd h9 (by decide)) (fun _ => ?_)
              refine lv_iconst (v := (-1)) hx hb dX7_addPart_146 (by decide) ?_
              exact ret _ 2 _ _ _ _ _ _ (Or.inr (⟨rfl, (fun h9 => h9.elim ((fun h9 => h9 (Or.inr (rfl)))) ((fun h9 => h9.elim ((fun h9 => h9 (Or.inr (Or.inl (h11))))) ((fun h9 => h9.elim ((fun h9 => h9 (hi16))) ((fun h9 => ((fun h9 => h9 (h18))) h9.2)))))))⟩)) (hP.sub [1] rfl) (hK.sub [] rfl) (hD.sub [1] (by decide) rfl) hS (Nat.le_of_ble_eq_true rfl) (Nat.le_of_ble_eq_true rfl) dX7_addPart_147
            · skip
              refine lv_aload_n hx hb dX7_addPart_67 rfl (lv_at hl 1 rfl) ?_
              refine lv_iconst (v := 1) hx hb dX7_addPart_68 (by decide) ?_
              refine va_put (D := (dC, dI)) (ci := 10) (v := .int 1) (ty := .int) (C := RX7) (T := TX7) (N := 19) hx hb hts (fun w h => List.mem_cons_of_mem _ (List.mem_append_left _ (List.mem_append_right _ (h)))) tyX7 tyX7_ok nmX7 hown hK hP hD hS 0 rfl rfl 16 (by decide) (hts (.fieldLink RX7 57 "NetcompareModel" "thrown" "I") (List.mem_cons_of_mem _ (List.mem_append_left _ (List.mem_append_left _ (List.mem_of_getElem? (i := 1) rfl))))) (fun _ h9 => h9) rfl (by decide +kernel) rfl rfl (Nat.le_of_ble_eq_true rfl) dX7_addPart_69 (fun H locs hP hD hS => ?_)
              have hP : va_P (dC, dI) vwCl [(k0, .inr (10, [.ref kN, .ref kA, .ref kO, .ref kK, .ref kV, .ref kG, .ref kP, .ref kC, .ref kD, .ref kE, .ref kF, .ref kX, .ref kY, .int 0, .ref kT, .ref kU, .int 1, .int 0, .int 0])), (kN, .inl (cI, 2, .inl (fun _ => 0))), (kA, .inl (cI, 2, .inl (fun _ => 0)))] _ := hP
              have hD : va_D A [(k0, .inr (10, [.ref kN, .ref kA, .ref kO, .ref kK, .ref kV, .ref kG, .ref kP, .ref kC, .ref kD, .ref kE, .ref kF, .ref kX, .ref kY, .int 0, .ref kT, .ref kU, .int 1, .int 0, .int 0])), (kN, .inl (cI, 2, .inl (fun _ => 0))), (kA, .inl (cI, 2, .inl (fun _ => 0)))] := hD
              refine lv_goto (tgt := 139) hx hb dX7_addPart_72 (by decide) ?_
              refine lv_aload_n hx hb dX7_addPart_139 rfl (lv_at hl 1 rfl) ?_
              refine va_get (D := (dC, dI)) (ci := 10) (v := .int 1) (C := RX7) (T := TX7) (N := 19) hx hb hts (fun w h => List.mem_cons_of_mem _ (List.mem_append_left _ (List.mem_append_right _ (h)))) hown hK hP 0 rfl rfl 16 (by decide) (hts (.fieldLink RX7 57 "NetcompareModel" "thrown" "I") (List.mem_cons_of_mem _ (List.mem_append_left _ (List.mem_append_left _ (List.mem_of_getElem? (i := 1) rfl))))) (fun _ h9 => h9) rfl dX7_addPart_140 ?_
              refine lv_if_le (tgt := 148) hx hb dX7_addPart_143 (by decide) (fun h9 => absurd h9 (by decide)) (fun _ => ?_)
              refine lv_iconst (v := (-1)) hx hb dX7_addPart_146 (by decide) ?_
              exact ret _ 1 _ _ _ _ _ _ (Or.inl (⟨rfl, Or.inr (Or.inr (Or.inr (⟨h17, h18⟩)))⟩)) (hP.sub [0] rfl) (hK.sub [] rfl) (hD.sub [0] (by decide) rfl) hS (Nat.le_of_ble_eq_true rfl) (Nat.le_of_ble_eq_true rfl) dX7_addPart_147
        · skip
          have hi19 : ¬ ((¬ (p2 < 1)) ∧ (¬ (999 < p2))) := fun q => hi9 ((fIn p2 1 999 1 999 (by decide) (by decide)).mpr q)
          refine lv_if_eq (tgt := 67) hx hb dX7_addPart_52 (by decide) (fun _ => ?_) (fun h9 => absurd (by decide) h9)
          refine lv_aload_n hx hb dX7_addPart_67 rfl (lv_at hl 1 rfl) ?_
          refine lv_iconst (v := 1) hx hb dX7_addPart_68 (by decide) ?_
          refine va_put (D := (dC, dI)) (ci := 10) (v := .int 1) (ty := .int) (C := RX7) (T := TX7) (N := 19) hx hb hts (fun w h => List.mem_cons_of_mem _ (List.mem_append_left _ (List.mem_append_right _ (h)))) tyX7 tyX7_ok nmX7 hown hK hP hD hS 0 rfl rfl 16 (by decide) (hts (.fieldLink RX7 57 "NetcompareModel" "thrown" "I") (List.mem_cons_of_mem _ (List.mem_append_left _ (List.mem_append_left _ (List.mem_of_getElem? (i := 1) rfl))))) (fun _ h9 => h9) rfl (by decide +kernel) rfl rfl (Nat.le_of_ble_eq_true rfl) dX7_addPart_69 (fun H locs hP hD hS => ?_)
          have hP : va_P (dC, dI) vwCl [(k0, .inr (10, [.ref kN, .ref kA, .ref kO, .ref kK, .ref kV, .ref kG, .ref kP, .ref kC, .ref kD, .ref kE, .ref kF, .ref kX, .ref kY, .int 0, .ref kT, .ref kU, .int 1, .int 0, .int 0])), (kN, .inl (cI, 2, .inl (fun _ => 0))), (kA, .inl (cI, 2, .inl (fun _ => 0)))] _ := hP
          have hD : va_D A [(k0, .inr (10, [.ref kN, .ref kA, .ref kO, .ref kK, .ref kV, .ref kG, .ref kP, .ref kC, .ref kD, .ref kE, .ref kF, .ref kX, .ref kY, .int 0, .ref kT, .ref kU, .int 1, .int 0, .int 0])), (kN, .inl (cI, 2, .inl (fun _ => 0))), (kA, .inl (cI, 2, .inl (fun _ => 0)))] := hD
          refine lv_goto (tgt := 139) hx hb dX7_addPart_72 (by decide) ?_
          refine lv_aload_n hx hb dX7_addPart_139 rfl (lv_at hl 1 rfl) ?_
          refine va_get (D := (dC, dI)) (ci := 10) (v := .int 1) (C := RX7) (T := TX7) (N := 19) hx hb hts (fun w h => List.mem_cons_of_mem _ (List.mem_append_left _ (List.mem_append_right _ (h)))) hown hK hP 0 rfl rfl 16 (by decide) (hts (.fieldLink RX7 57 "NetcompareModel" "thrown" "I") (List.mem_cons_of_mem _ (List.mem_append_left _ (List.mem_append_left _ (List.mem_of_getElem? (i := 1) rfl))))) (fun _ h9 => h9) rfl dX7_addPart_140 ?_
          refine lv_if_le (tgt := 148) hx hb dX7_addPart_143 (by decide) (fun h9 => absurd h9 (by decide)) (fun _ => ?_)
          refine lv_iconst (v := (-1)) hx hb dX7_addPart_146 (by decide) ?_
          exact ret _ 1 _ _ _ _ _ _ (Or.inl (⟨rfl, Or.inr (Or.inr (Or.inl (hi19)))⟩)) (hP.sub [0] rfl) (hK.sub [] rfl) (hD.sub [0] (by decide) rfl) hS (Nat.le_of_ble_eq_true rfl) (Nat.le_of_ble_eq_true rfl) dX7_addPart_147
      · skip
        have hc20 := hc
        refine lv_if_eq (tgt := 67) hx hb dX7_addPart_35 (by decide) (fun _ => ?_) (fun h9 => absurd (by decide) h9)
        refine lv_aload_n hx hb dX7_addPart_67 rfl (lv_at hl 1 rfl) ?_
        refine lv_iconst (v := 1) hx hb dX7_addPart_68 (by decide) ?_
        refine va_put (D := (dC, dI)) (ci := 10) (v := .int 1) (ty := .int) (C := RX7) (T := TX7) (N := 19) hx hb hts (fun w h => List.mem_cons_of_mem _ (List.mem_append_left _ (List.mem_append_right _ (h)))) tyX7 tyX7_ok nmX7 hown hK hP hD hS 0 rfl rfl 16 (by decide) (hts (.fieldLink RX7 57 "NetcompareModel" "thrown" "I") (List.mem_cons_of_mem _ (List.mem_append_left _ (List.mem_append_left _ (List.mem_of_getElem? (i := 1) rfl))))) (fun _ h9 => h9) rfl (by decide +kernel) rfl rfl (Nat.le_of_ble_eq_true rfl) dX7_addPart_69 (fun H locs hP hD hS => ?_)
        have hP : va_P (dC, dI) vwCl [(k0, .inr (10, [.ref kN, .ref kA, .ref kO, .ref kK, .ref kV, .ref kG, .ref kP, .ref kC, .ref kD, .ref kE, .ref kF, .ref kX, .ref kY, .int 0, .ref kT, .ref kU, .int 1, .int 0, .int 0])), (kN, .inl (cI, 2, .inl (fun _ => 0))), (kA, .inl (cI, 2, .inl (fun _ => 0)))] _ := hP
        have hD : va_D A [(k0, .inr (10, [.ref kN, .ref kA, .ref kO, .ref kK, .ref kV, .ref kG, .ref kP, .ref kC, .ref kD, .ref kE, .ref kF, .ref kX, .ref kY, .int 0, .ref kT, .ref kU, .int 1, .int 0, .int 0])), (kN, .inl (cI, 2, .inl (fun _ => 0))), (kA, .inl (cI, 2, .inl (fun _ => 0)))] := hD
        refine lv_goto (tgt := 139) hx hb dX7_addPart_72 (by decide) ?_
        refine lv_aload_n hx hb dX7_addPart_139 rfl (lv_at hl 1 rfl) ?_
        refine va_get (D := (dC, dI)) (ci := 10) (v := .int 1) (C := RX7) (T := TX7) (N := 19) hx hb hts (fun w h => List.mem_cons_of_mem _ (List.mem_append_left _ (List.mem_append_right _ (h)))) hown hK hP 0 rfl rfl 16 (by decide) (hts (.fieldLink RX7 57 "NetcompareModel" "thrown" "I") (List.mem_cons_of_mem _ (List.mem_append_left _ (List.mem_append_left _ (List.mem_of_getElem? (i := 1) rfl))))) (fun _ h9 => h9) rfl dX7_addPart_140 ?_
        refine lv_if_le (tgt := 148) hx hb dX7_addPart_143 (by decide) (fun h9 => absurd h9 (by decide)) (fun _ => ?_)
        refine lv_iconst (v := (-1)) hx hb dX7_addPart_146 (by decide) ?_
        exact ret _ 1 _ _ _ _ _ _ (Or.inl (⟨rfl, Or.inl (hc20)⟩)) (hP.sub [0] rfl) (hK.sub [] rfl) (hD.sub [0] (by decide) rfl) hS (Nat.le_of_ble_eq_true rfl) (Nat.le_of_ble_eq_true rfl) dX7_addPart_147
    · skip
      refine lv_iload_n hx hb dX7_addPart_12 rfl (lv_at hl 2 rfl) ?_
      refine lv_bipush (v := 100) hx hb dX7_addPart_13 (by decide) ?_
      refine lv_icmp_eq (tgt := 24) hx hb dX7_addPart_15 (by decide) (fun h21 => ?_) (fun h21 => ?_)
      · skip
        refine lv_iconst (v := 1) hx hb dX7_addPart_24 (by decide) ?_
        refine lv_goto (tgt := 29) hx hb dX7_addPart_25 (by decide) ?_
        refine lv_istore (lv' := [(7, .int 1), (0, .ref k0), (1, .int p0), (2, .int p1), (3, .int p2), (4, .int p3), (5, .int p4), (6, .int p5)]) hx hb dX7_addPart_29 hl (Nat.le_of_ble_eq_true rfl) rfl (fun ls hl => ?_)
        refine lv_iload_n hx hb dX7_addPart_31 rfl (lv_at hl 2 rfl) ?_
        have hPc := hP.sub (ws' := []) [] rfl
        have hDc := hD.sub (ws' := []) [] (by decide) rfl
        have hKc := hK.sub (tys' := []) [] rfl
        have hFc := va_free (wc := []) hD hS hA [] rfl
        refine va_calli (va_runS (As := [.int p0]) (rest := []) ⟨hx, hb, hml, hown, hts⟩ (kX7_isCircuit l dC dI p0 s.heap.size) (va_cwS 1 hts gX7_addPart_X7_isCircuit rfl rfl rfl (by decide +kernel) ⟨Nat.le_of_ble_eq_true rfl, Nat.le_of_ble_eq_true rfl⟩) (fPreS hN hZ hS (fun q h => hFc q h) hPc hKc hDc) rfl rfl hl.1 rfl (lv_room (Nat.le_of_ble_eq_true rfl)) dX7_addPart_32 ⟨Nat.le_of_ble_eq_true rfl, Nat.le_of_ble_eq_true rfl⟩) hS (fun q _ h => hFc q h) hFc (fun r u t H1 locs ht hvm hw hB hz1 hk1 hS => ?_)
        obtain ⟨hP1, hK1, hD1⟩ := hB
        rw [ht] at hP1
        have hK1 := va_K.moved hvm.symm hK1
        obtain ⟨hP, hD⟩ := va_join (wr := [(k0, .inr (10, [.ref kN, .ref kA, .ref kO, .ref kK, .ref kV, .ref kG, .ref kP, .ref kC, .ref kD, .ref kE, .ref kF, .ref kX, .ref kY, .int 0, .ref kT, .ref kU, .int 0, .int 0, .int 0])), (kN, .inl (cI, 2, .inl (fun _ => 0))), (kA, .inl (cI, 2, .inl (fun _ => 0)))]) (w1 := []) hP hD [] [0, 1, 2] rfl rfl (by decide) (by decide) hk1 hFc hP1 hD1
        generalize H1 = H at hP hS ⊢
        have hP : va_P (dC, dI) vwCl [(k0, .inr (10, [.ref kN, .ref kA, .ref kO, .ref kK, .ref kV, .ref kG, .ref kP, .ref kC, .ref kD, .ref kE, .ref kF, .ref kX, .ref kY, .int 0, .ref kT, .ref kU, .int 0, .int 0, .int 0])), (kN, .inl (cI, 2, .inl (fun _ => 0))), (kA, .inl (cI, 2, .inl (fun _ => 0)))] _ := hP
        have hD : va_D A [(k0, .inr (10, [.ref kN, .ref kA, .ref kO, .ref kK, .ref kV, .ref kG, .ref kP, .ref kC, .ref kD, .ref kE, .ref kF, .ref kX, .ref kY, .int 0, .ref kT, .ref kU, .int 0, .int 0, .int 0])), (kN, .inl (cI, 2, .inl (fun _ => 0))), (kA, .inl (cI, 2, .inl (fun _ => 0)))] := hD
        rcases hw with ⟨rfl, hc | hc⟩ | ⟨rfl, hc⟩
        · skip
          subst hc
          have hP : va_P (dC, dI) vwCl [(k0, .inr (10, [.ref kN, .ref kA, .ref kO, .ref kK, .ref kV, .ref kG, .ref kP, .ref kC, .ref kD, .ref kE, .ref kF, .ref kX, .ref kY, .int 0, .ref kT, .ref kU, .int 0, .int 0, .int 0])), (kN, .inl (cI, 2, .inl (fun _ => 0))), (kA, .inl (cI, 2, .inl (fun _ => 0)))] _ := hP
          have hD : va_D A [(k0, .inr (10, [.ref kN, .ref kA, .ref kO, .ref kK, .ref kV, .ref kG, .ref kP, .ref kC, .ref kD, .ref kE, .ref kF, .ref kX, .ref kY, .int 0, .ref kT, .ref kU, .int 0, .int 0, .int 0])), (kN, .inl (cI, 2, .inl (fun _ => 0))), (kA, .inl (cI, 2, .inl (fun _ => 0)))] := hD
          refine lv_if_eq (tgt := 67) hx hb dX7_addPart_35 (by decide) (fun h9 => absurd h9 (by decide)) (fun _ => ?_)
          refine lv_iload hx hb dX7_addPart_38 (lv_at hl 0 rfl) ?_
          refine lv_if_eq (tgt := 67) hx hb dX7_addPart_40 (by decide) (fun h9 => absurd h9 (by decide)) (fun _ => ?_)
          refine lv_iload_n hx hb dX7_addPart_43 rfl (lv_at hl 4 rfl) ?_
          refine lv_i2l (v := p2.toInt64) hx hb dX7_addPart_44 rfl ?_
          refine lv_lconst (v := 1) hx hb dX7_addPart_45 (by decide) ?_
          refine lv_ldc2 (v := 999) hx hb hown (hts (.constantLong RX7 92 (999)) (List.mem_cons_of_mem _ (List.mem_append_left _ (List.mem_append_left _ (List.mem_of_getElem? (i := 0) rfl))))) dX7_addPart_46 ?_
          have hPc := hP.sub (ws' := []) [] rfl
          have hDc := hD.sub (ws' := []) [] (by decide) rfl
          have hKc := hK.sub (tys' := []) [] rfl
          have hFc := va_free (wc := []) hD hS hA [] rfl
          refine va_calli (va_runS (As := [.long p2.toInt64, .long 1, .long 999]) (rest := []) ⟨hx, hb, hml, hown, hts⟩ (kX7_in l dC dI p2.toInt64 1 999 H.size) (va_cwS 3 hts gX7_addPart_X7_in rfl rfl rfl (by decide +kernel) ⟨Nat.le_of_ble_eq_true rfl, Nat.le_of_ble_eq_true rfl⟩) (fPreS hN hZ hS (fun q h => hFc q h) hPc hKc hDc) rfl rfl hl.1 rfl (lv_room (Nat.le_of_ble_eq_true rfl)) dX7_addPart_49 ⟨Nat.le_of_ble_eq_true rfl, Nat.le_of_ble_eq_true rfl⟩) hS (fun q _ h => hFc q h) hFc (fun r u t H1 locs ht hvm hw hB hz1 hk1 hS => ?_)
          obtain ⟨hP1, hK1, hD1⟩ := hB
          rw [ht] at hP1
          have hK1 := va_K.moved hvm.symm hK1
          obtain ⟨hP, hD⟩ := va_join (wr := [(k0, .inr (10, [.ref kN, .ref kA, .ref kO, .ref kK, .ref kV, .ref kG, .ref kP, .ref kC, .ref kD, .ref kE, .ref kF, .ref kX, .ref kY, .int 0, .ref kT, .ref kU, .int 0, .int 0, .int 0])), (kN, .inl (cI, 2, .inl (fun _ => 0))), (kA, .inl (cI, 2, .inl (fun _ => 0)))]) (w1 := []) hP hD [] [0, 1, 2] rfl rfl (by decide) (by decide) hk1 hFc hP1 hD1
          generalize H1 = H at hP hS ⊢
          have hP : va_P (dC, dI) vwCl [(k0, .inr (10, [.ref kN, .ref kA, .ref kO, .ref kK, .ref kV, .ref kG, .ref kP, .ref kC, .ref kD, .ref kE, .ref kF, .ref kX, .ref kY, .int 0, .ref kT, .ref kU, .int 0, .int 0, .int 0])), (kN, .inl (cI, 2, .inl (fun _ => 0))), (kA, .inl (cI, 2, .inl (fun _ => 0)))] _ := hP
          have hD : va_D A [(k0, .inr (10, [.ref kN, .ref kA, .ref kO, .ref kK, .ref kV, .ref kG, .ref kP, .ref kC, .ref kD, .ref kE, .ref kF, .ref kX, .ref kY, .int 0, .ref kT, .ref kU, .int 0, .int 0, .int 0])), (kN, .inl (cI, 2, .inl (fun _ => 0))), (kA, .inl (cI, 2, .inl (fun _ => 0)))] := hD
          rcases hw with ⟨rfl, hi9⟩ | ⟨rfl, hi9⟩
          · skip
            have hi22 : ((¬ (p2 < 1)) ∧ (¬ (999 < p2))) := (fIn p2 1 999 1 999 (by decide) (by decide)).mp hi9
            refine lv_if_eq (tgt := 67) hx hb dX7_addPart_52 (by decide) (fun h9 => absurd h9 (by decide)) (fun _ => ?_)
            refine lv_iload_n hx hb dX7_addPart_55 rfl (lv_at hl 3 rfl) ?_
            refine lv_bipush (v := 116) hx hb dX7_addPart_56 (by decide) ?_
            refine lv_icmp_eq (tgt := 75) hx hb dX7_addPart_58 (by decide) (fun h23 => ?_) (fun h23 => ?_)
            · skip
              refine lv_aload_n hx hb dX7_addPart_75 rfl (lv_at hl 1 rfl) ?_
              refine lv_iload_n hx hb dX7_addPart_76 rfl (lv_at hl 2 rfl) ?_
              refine lv_iload hx hb dX7_addPart_77 (lv_at hl 5 rfl) ?_
              have hPc := hP.sub (ws' := [(k0, .inr (10, [.ref kN, .ref kA, .ref kO, .ref kK, .ref kV, .ref kG, .ref kP, .ref kC, .ref kD, .ref kE, .ref kF, .ref kX, .ref kY, .int 0, .ref kT, .ref kU, .int 0, .int 0, .int 0])), (kN, .inl (cI, 2, .inl (fun _ => 0)))]) [0, 1] rfl
              have hDc := hD.sub (ws' := [(k0, .inr (10, [.ref kN, .ref kA, .ref kO, .ref kK, .ref kV, .ref kG, .ref kP, .ref kC, .ref kD, .ref kE, .ref kF, .ref kX, .ref kY, .int 0, .ref kT, .ref kU, .int 0, .int 0, .int 0])), (kN, .inl (cI, 2, .inl (fun _ => 0)))]) [0, 1] (by decide) rfl
              have hKc := hK.sub (tys' := [(cI, .int)]) [0] rfl
              have hFc := va_free (wc := [(k0, .inr (10, [.ref kN, .ref kA, .ref kO, .ref kK, .ref kV, .ref kG, .ref kP, .ref kC, .ref kD, .ref kE, .ref kF, .ref kX, .ref kY, .int 0, .ref kT, .ref kU, .int 0, .int 0, .int 0])), (kN, .inl (cI, 2, .inl (fun _ => 0)))]) hD hS hA [0, 1] rfl
              refine va_calli (va_runV (As := [.int 0, .int p3]) (rest := []) ⟨hx, hb, hml, hown, hts⟩ (kX7_isNet0 l dC dI k0 kN kA kO kK kV kG kP kC kD kE kF kX kY kT kU cI p3 H.size) (cwV 2 hts gX7_addPart_X7_isNet rfl rfl rfl (by decide +kernel) ⟨Nat.le_of_ble_eq_true rfl, Nat.le_of_ble_eq_true rfl⟩) (fPreV hN hZ hS (fun q h => hFc q h) hPc hKc hDc (ci := 10) (q0 := 0) rfl rfl) rfl rfl hl.1 rfl (lv_room (Nat.le_of_ble_eq_true rfl)) dX7_addPart_79 ⟨Nat.le_of_ble_eq_true rfl, Nat.le_of_ble_eq_true rfl⟩) hS (fun q _ h => hFc q h) hFc (fun r u t H1 locs ht hvm hw hB hz1 hk1 hS => ?_)
              obtain ⟨hP1, hK1, hD1⟩ := hB
              rw [ht] at hP1
              have hK1 := va_K.moved hvm.symm hK1
              obtain ⟨hP, hD⟩ := va_join (wr := [(kA, .inl (cI, 2, .inl (fun _ => 0)))]) (w1 := [(k0, .inr (10, [.ref kN, .ref kA, .ref kO, .ref kK, .ref kV, .ref kG, .ref kP, .ref kC, .ref kD, .ref kE, .ref kF, .ref kX, .ref kY, .int 0, .ref kT, .ref kU, .int 0, .int 0, .int 0])), (kN, .inl (cI, 2, .inl (fun _ => 0)))]) hP hD [0, 1] [2] rfl rfl (by decide) (by decide) hk1 hFc hP1 hD1
              generalize H1 = H at hP hS ⊢
              have hP : va_P (dC, dI) vwCl [(kA, .inl (cI, 2, .inl (fun _ => 0))), (k0, .inr (10, [.ref kN, .ref kA, .ref kO, .ref kK, .ref kV, .ref kG, .ref kP, .ref kC, .ref kD, .ref kE, .ref kF, .ref kX, .ref kY, .int 0, .ref kT, .ref kU, .int 0, .int 0, .int 0])), (kN, .inl (cI, 2, .inl (fun _ => 0)))] _ := hP
              have hD : va_D A [(kA, .inl (cI, 2, .inl (fun _ => 0))), (k0, .inr (10, [.ref kN, .ref kA, .ref kO, .ref kK, .ref kV, .ref kG, .ref kP, .ref kC, .ref kD, .ref kE, .ref kF, .ref kX, .ref kY, .int 0, .ref kT, .ref kU, .int 0, .int 0, .int 0])), (kN, .inl (cI, 2, .inl (fun _ => 0)))] := hD
              subst hw
              refine lv_if_eq (tgt := 111) hx hb dX7_addPart_82 (by decide) (fun _ => ?_) (fun h9 => absurd (by decide) h9)
              refine lv_aload_n hx hb dX7_addPart_111 rfl (lv_at hl 1 rfl) ?_
              refine lv_iconst (v := 2) hx hb dX7_addPart_112 (by decide) ?_
              refine va_put (D := (dC, dI)) (ci := 10) (v := .int 2) (ty := .int) (C := RX7) (T := TX7) (N := 19) hx hb hts (fun w h => List.mem_cons_of_mem _ (List.mem_append_left _ (List.mem_append_right _ (h)))) tyX7 tyX7_ok nmX7 hown hK hP hD hS 1 rfl rfl 16 (by decide) (hts (.fieldLink RX7 57 "NetcompareModel" "thrown" "I") (List.mem_cons_of_mem _ (List.mem_append_left _ (List.mem_append_left _ (List.mem_of_getElem? (i := 1) rfl))))) (fun _ h9 => h9) rfl (by decide +kernel) rfl rfl (Nat.le_of_ble_eq_true rfl) dX7_addPart_113 (fun H locs hP hD hS => ?_)
              have hP : va_P (dC, dI) vwCl [(kA, .inl (cI, 2, .inl (fun _ => 0))), (k0, .inr (10, [.ref kN, .ref kA, .ref kO, .ref kK, .ref kV, .ref kG, .ref kP, .ref kC, .ref kD, .ref kE, .ref kF, .ref kX, .ref kY, .int 0, .ref kT, .ref kU, .int 2, .int 0, .int 0])), (kN, .inl (cI, 2, .inl (fun _ => 0)))] _ := hP
              have hD : va_D A [(kA, .inl (cI, 2, .inl (fun _ => 0))), (k0, .inr (10, [.ref kN, .ref kA, .ref kO, .ref kK, .ref kV, .ref kG, .ref kP, .ref kC, .ref kD, .ref kE, .ref kF, .ref kX, .ref kY, .int 0, .ref kT, .ref kU, .int 2, .int 0, .int 0])), (kN, .inl (cI, 2, .inl (fun _ => 0)))] := hD
              refine lv_goto (tgt := 139) hx hb dX7_addPart_116 (by decide) ?_
              refine lv_aload_n hx hb dX7_addPart_139 rfl (lv_at hl 1 rfl) ?_
              refine va_get (D := (dC, dI)) (ci := 10) (v := .int 2) (C := RX7) (T := TX7) (N := 19) hx hb hts (fun w h => List.mem_cons_of_mem _ (List.mem_append_left _ (List.mem_append_right _ (h)))) hown hK hP 1 rfl rfl 16 (by decide) (hts (.fieldLink RX7 57 "NetcompareModel" "thrown" "I") (List.mem_cons_of_mem _ (List.mem_append_left _ (List.mem_append_left _ (List.mem_of_getElem? (i := 1) rfl))))) (fun _ h9 => h9) rfl dX7_addPart_140 ?_
              refine lv_if_le (tgt := 148) hx hb dX7_addPart_143 (by decide) (fun h9 => absurd h9 (by decide)) (fun _ => ?_)
              refine lv_iconst (v := (-1)) hx hb dX7_addPart_146 (by decide) ?_
              exact ret _ 2 _ _ _ _ _ _ (Or.inr (⟨rfl, (fun h9 => h9.elim ((fun h9 => h9 (Or.inl (rfl)))) ((fun h9 => h9.elim ((fun h9 => h9 (Or.inr (Or.inr (Or.inl (h21)))))) ((fun h9 => h9.elim ((fun h9 => h9 (hi22))) ((fun h9 => ((fun h9 => h9 (h23))) h9.1)))))))⟩)) (hP.sub [1] rfl) (hK.sub [] rfl) (hD.sub [1] (by decide) rfl) hS (Nat.le_of_ble_eq_true rfl) (Nat.le_of_ble_eq_true rfl) dX7_addPart_147
            · skip
              refine lv_iload hx hb dX7_addPart_61 (lv_at hl 7 rfl) ?_
              refine lv_iconst (v := (-1)) hx hb dX7_addPart_63 (by decide) ?_
              refine lv_icmp_eq (tgt := 75) hx hb dX7_addPart_64 (by decide) (fun h24 => ?_) (fun h24 => ?_)
              · skip
                refine lv_aload_n hx hb dX7_addPart_75 rfl (lv_at hl 1 rfl) ?_
                refine lv_iload_n hx hb dX7_addPart_76 rfl (lv_at hl 2 rfl) ?_
                refine lv_iload hx hb dX7_addPart_77 (lv_at hl 5 rfl) ?_
                have hPc := hP.sub (ws' := [(k0, .inr (10, [.ref kN, .ref kA, .ref kO, .ref kK, .ref kV, .ref kG, .ref kP, .ref kC, .ref kD, .ref kE, .ref kF, .ref kX, .ref kY, .int 0, .ref kT, .ref kU, .int 0, .int 0, .int 0])), (kN, .inl (cI, 2, .inl (fun _ => 0)))]) [0, 1] rfl
                have hDc := hD.sub (ws' := [(k0, .inr (10, [.ref kN, .ref kA, .ref kO, .ref kK, .ref kV, .ref kG, .ref kP, .ref kC, .ref kD, .ref kE, .ref kF, .ref kX, .ref kY, .int 0, .ref kT, .ref kU, .int 0, .int 0, .int 0])), (kN, .inl (cI, 2, .inl (fun _ => 0)))]) [0, 1] (by decide) rfl
                have hKc := hK.sub (tys' := [(cI, .int)]) [0] rfl
                have hFc := va_free (wc := [(k0, .inr (10, [.ref kN, .ref kA, .ref kO, .ref kK, .ref kV, .ref kG, .ref kP, .ref kC, .ref kD, .ref kE, .ref kF, .ref kX, .ref kY, .int 0, .ref kT, .ref kU, .int 0, .int 0, .int 0])), (kN, .inl (cI, 2, .inl (fun _ => 0)))]) hD hS hA [0, 1] rfl
                refine va_calli (va_runV (As := [.int 0, .int p3]) (rest := []) ⟨hx, hb, hml, hown, hts⟩ (kX7_isNet0 l dC dI k0 kN kA kO kK kV kG kP kC kD kE kF kX kY kT kU cI p3 H.size) (cwV 2 hts gX7_addPart_X7_isNet rfl rfl rfl (by decide +kernel) ⟨Nat.le_of_ble_eq_true rfl, Nat.le_of_ble_eq_true rfl⟩) (fPreV hN hZ hS (fun q h => hFc q h) hPc hKc hDc (ci := 10) (q0 := 0) rfl rfl) rfl rfl hl.1 rfl (lv_room (Nat.le_of_ble_eq_true rfl)) dX7_addPart_79 ⟨Nat.le_of_ble_eq_true rfl, Nat.le_of_ble_eq_true rfl⟩) hS (fun q _ h => hFc q h) hFc (fun r u t H1 locs ht hvm hw hB hz1 hk1 hS => ?_)
                obtain ⟨hP1, hK1, hD1⟩ := hB
                rw [ht] at hP1
                have hK1 := va_K.moved hvm.symm hK1
                obtain ⟨hP, hD⟩ := va_join (wr := [(kA, .inl (cI, 2, .inl (fun _ => 0)))]) (w1 := [(k0, .inr (10, [.ref kN, .ref kA, .ref kO, .ref kK, .ref kV, .ref kG, .ref kP, .ref kC, .ref kD, .ref kE, .ref kF, .ref kX, .ref kY, .int 0, .ref kT, .ref kU, .int 0, .int 0, .int 0])), (kN, .inl (cI, 2, .inl (fun _ => 0)))]) hP hD [0, 1] [2] rfl rfl (by decide) (by decide) hk1 hFc hP1 hD1
                generalize H1 = H at hP hS ⊢
                have hP : va_P (dC, dI) vwCl [(kA, .inl (cI, 2, .inl (fun _ => 0))), (k0, .inr (10, [.ref kN, .ref kA, .ref kO, .ref kK, .ref kV, .ref kG, .ref kP, .ref kC, .ref kD, .ref kE, .ref kF, .ref kX, .ref kY, .int 0, .ref kT, .ref kU, .int 0, .int 0, .int 0])), (kN, .inl (cI, 2, .inl (fun _ => 0)))] _ := hP
                have hD : va_D A [(kA, .inl (cI, 2, .inl (fun _ => 0))), (k0, .inr (10, [.ref kN, .ref kA, .ref kO, .ref kK, .ref kV, .ref kG, .ref kP, .ref kC, .ref kD, .ref kE, .ref kF, .ref kX, .ref kY, .int 0, .ref kT, .ref kU, .int 0, .int 0, .int 0])), (kN, .inl (cI, 2, .inl (fun _ => 0)))] := hD
                subst hw
                refine lv_if_eq (tgt := 111) hx hb dX7_addPart_82 (by decide) (fun _ => ?_) (fun h9 => absurd (by decide) h9)
                refine lv_aload_n hx hb dX7_addPart_111 rfl (lv_at hl 1 rfl) ?_
                refine lv_iconst (v := 2) hx hb dX7_addPart_112 (by decide) ?_
                refine va_put (D := (dC, dI)) (ci := 10) (v := .int 2) (ty := .int) (C := RX7) (T := TX7) (N := 19) hx hb hts (fun w h => List.mem_cons_of_mem _ (List.mem_append_left _ (List.mem_append_right _ (h)))) tyX7 tyX7_ok nmX7 hown hK hP hD hS 1 rfl rfl 16 (by decide) (hts (.fieldLink RX7 57 "NetcompareModel" "thrown" "I") (List.mem_cons_of_mem _ (List.mem_append_left _ (List.mem_append_left _ (List.mem_of_getElem? (i := 1) rfl))))) (fun _ h9 => h9) rfl (by decide +kernel) rfl rfl (Nat.le_of_ble_eq_true rfl) dX7_addPart_113 (fun H locs hP hD hS => ?_)
                have hP : va_P (dC, dI) vwCl [(kA, .inl (cI, 2, .inl (fun _ => 0))), (k0, .inr (10, [.ref kN, .ref kA, .ref kO, .ref kK, .ref kV, .ref kG, .ref kP, .ref kC, .ref kD, .ref kE, .ref kF, .ref kX, .ref kY, .int 0, .ref kT, .ref kU, .int 2, .int 0, .int 0])), (kN, .inl (cI, 2, .inl (fun _ => 0)))] _ := hP
                have hD : va_D A [(kA, .inl (cI, 2, .inl (fun _ => 0))), (k0, .inr (10, [.ref kN, .ref kA, .ref kO, .ref kK, .ref kV, .ref kG, .ref kP, .ref kC, .ref kD, .ref kE, .ref kF, .ref kX, .ref kY, .int 0, .ref kT, .ref kU, .int 2, .int 0, .int 0])), (kN, .inl (cI, 2, .inl (fun _ => 0)))] := hD
                refine lv_goto (tgt := 139) hx hb dX7_addPart_116 (by decide) ?_
                refine lv_aload_n hx hb dX7_addPart_139 rfl (lv_at hl 1 rfl) ?_
                refine va_get (D := (dC, dI)) (ci := 10) (v := .int 2) (C := RX7) (T := TX7) (N := 19) hx hb hts (fun w h => List.mem_cons_of_mem _ (List.mem_append_left _ (List.mem_append_right _ (h)))) hown hK hP 1 rfl rfl 16 (by decide) (hts (.fieldLink RX7 57 "NetcompareModel" "thrown" "I") (List.mem_cons_of_mem _ (List.mem_append_left _ (List.mem_append_left _ (List.mem_of_getElem? (i := 1) rfl))))) (fun _ h9 => h9) rfl dX7_addPart_140 ?_
                refine lv_if_le (tgt := 148) hx hb dX7_addPart_143 (by decide) (fun h9 => absurd h9 (by decide)) (fun _ => ?_)
                refine lv_iconst (v := (-1)) hx hb dX7_addPart_146 (by decide) ?_
                exact ret _ 2 _ _ _ _ _ _ (Or.inr (⟨rfl, (fun h9 => h9.elim ((fun h9 => h9 (Or.inl (rfl)))) ((fun h9 => h9.elim ((fun h9 => h9 (Or.inr (Or.inr (Or.inl (h21)))))) ((fun h9 => h9.elim ((fun h9 => h9 (hi22))) ((fun h9 => ((fun h9 => h9 (h24))) h9.2)))))))⟩)) (hP.sub [1] rfl) (hK.sub [] rfl) (hD.sub [1] (by decide) rfl) hS (Nat.le_of_ble_eq_true rfl) (Nat.le_of_ble_eq_true rfl) dX7_addPart_147
              · skip
                refine lv_aload_n hx hb dX7_addPart_67 rfl (lv_at hl 1 rfl) ?_
                refine lv_iconst (v := 1) hx hb dX7_addPart_68 (by decide) ?_
                refine va_put (D := (dC, dI)) (ci := 10) (v := .int 1) (ty := .int) (C := RX7) (T := TX7) (N := 19) hx hb hts (fun w h => List.mem_cons_of_mem _ (List.mem_append_left _ (List.mem_append_right _ (h)))) tyX7 tyX7_ok nmX7 hown hK hP hD hS 0 rfl rfl 16 (by decide) (hts (.fieldLink RX7 57 "NetcompareModel" "thrown" "I") (List.mem_cons_of_mem _ (List.mem_append_left _ (List.mem_append_left _ (List.mem_of_getElem? (i := 1) rfl))))) (fun _ h9 => h9) rfl (by decide +kernel) rfl rfl (Nat.le_of_ble_eq_true rfl) dX7_addPart_69 (fun H locs hP hD hS => ?_)
                have hP : va_P (dC, dI) vwCl [(k0, .inr (10, [.ref kN, .ref kA, .ref kO, .ref kK, .ref kV, .ref kG, .ref kP, .ref kC, .ref kD, .ref kE, .ref kF, .ref kX, .ref kY, .int 0, .ref kT, .ref kU, .int 1, .int 0, .int 0])), (kN, .inl (cI, 2, .inl (fun _ => 0))), (kA, .inl (cI, 2, .inl (fun _ => 0)))] _ := hP
                have hD : va_D A [(k0, .inr (10, [.ref kN, .ref kA, .ref kO, .ref kK, .ref kV, .ref kG, .ref kP, .ref kC, .ref kD, .ref kE, .ref kF, .ref kX, .ref kY, .int 0, .ref kT, .ref kU, .int 1, .int 0, .int 0])), (kN, .inl (cI, 2, .inl (fun _ => 0))), (kA, .inl (cI, 2, .inl (fun _ => 0)))] := hD
                refine lv_goto (tgt := 139) hx hb dX7_addPart_72 (by decide) ?_
                refine lv_aload_n hx hb dX7_addPart_139 rfl (lv_at hl 1 rfl) ?_
                refine va_get (D := (dC, dI)) (ci := 10) (v := .int 1) (C := RX7) (T := TX7) (N := 19) hx hb hts (fun w h => List.mem_cons_of_mem _ (List.mem_append_left _ (List.mem_append_right _ (h)))) hown hK hP 0 rfl rfl 16 (by decide) (hts (.fieldLink RX7 57 "NetcompareModel" "thrown" "I") (List.mem_cons_of_mem _ (List.mem_append_left _ (List.mem_append_left _ (List.mem_of_getElem? (i := 1) rfl))))) (fun _ h9 => h9) rfl dX7_addPart_140 ?_
                refine lv_if_le (tgt := 148) hx hb dX7_addPart_143 (by decide) (fun h9 => absurd h9 (by decide)) (fun _ => ?_)
                refine lv_iconst (v := (-1)) hx hb dX7_addPart_146 (by decide) ?_
                exact ret _ 1 _ _ _ _ _ _ (Or.inl (⟨rfl, Or.inr (Or.inr (Or.inr (⟨h23, h24⟩)))⟩)) (hP.sub [0] rfl) (hK.sub [] rfl) (hD.sub [0] (by decide) rfl) hS (Nat.le_of_ble_eq_true rfl) (Nat.le_of_ble_eq_true rfl) dX7_addPart_147
          · skip
            have hi25 : ¬ ((¬ (p2 < 1)) ∧ (¬ (999 < p2))) := fun q => hi9 ((fIn p2 1 999 1 999 (by decide) (by decide)).mpr q)
            refine lv_if_eq (tgt := 67) hx hb dX7_addPart_52 (by decide) (fun _ => ?_) (fun h9 => absurd (by decide) h9)
            refine lv_aload_n hx hb dX7_addPart_67 rfl (lv_at hl 1 rfl) ?_
            refine lv_iconst (v := 1) hx hb dX7_addPart_68 (by decide) ?_
            refine va_put (D := (dC, dI)) (ci := 10) (v := .int 1) (ty := .int) (C := RX7) (T := TX7) (N := 19) hx hb hts (fun w h => List.mem_cons_of_mem _ (List.mem_append_left _ (List.mem_append_right _ (h)))) tyX7 tyX7_ok nmX7 hown hK hP hD hS 0 rfl rfl 16 (by decide) (hts (.fieldLink RX7 57 "NetcompareModel" "thrown" "I") (List.mem_cons_of_mem _ (List.mem_append_left _ (List.mem_append_left _ (List.mem_of_getElem? (i := 1) rfl))))) (fun _ h9 => h9) rfl (by decide +kernel) rfl rfl (Nat.le_of_ble_eq_true rfl) dX7_addPart_69 (fun H locs hP hD hS => ?_)
            have hP : va_P (dC, dI) vwCl [(k0, .inr (10, [.ref kN, .ref kA, .ref kO, .ref kK, .ref kV, .ref kG, .ref kP, .ref kC, .ref kD, .ref kE, .ref kF, .ref kX, .ref kY, .int 0, .ref kT, .ref kU, .int 1, .int 0, .int 0])), (kN, .inl (cI, 2, .inl (fun _ => 0))), (kA, .inl (cI, 2, .inl (fun _ => 0)))] _ := hP
            have hD : va_D A [(k0, .inr (10, [.ref kN, .ref kA, .ref kO, .ref kK, .ref kV, .ref kG, .ref kP, .ref kC, .ref kD, .ref kE, .ref kF, .ref kX, .ref kY, .int 0, .ref kT, .ref kU, .int 1, .int 0, .int 0])), (kN, .inl (cI, 2, .inl (fun _ => 0))), (kA, .inl (cI, 2, .inl (fun _ => 0)))] := hD
            refine lv_goto (tgt := 139) hx hb dX7_addPart_72 (by decide) ?_
            refine lv_aload_n hx hb dX7_addPart_139 rfl (lv_at hl 1 rfl) ?_
            refine va_get (D := (dC, dI)) (ci := 10) (v := .int 1) (C := RX7) (T := TX7) (N := 19) hx hb hts (fun w h => List.mem_cons_of_mem _ (List.mem_append_left _ (List.mem_append_right _ (h)))) hown hK hP 0 rfl rfl 16 (by decide) (hts (.fieldLink RX7 57 "NetcompareModel" "thrown" "I") (List.mem_cons_of_mem _ (List.mem_append_left _ (List.mem_append_left _ (List.mem_of_getElem? (i := 1) rfl))))) (fun _ h9 => h9) rfl dX7_addPart_140 ?_
            refine lv_if_le (tgt := 148) hx hb dX7_addPart_143 (by decide) (fun h9 => absurd h9 (by decide)) (fun _ => ?_)
            refine lv_iconst (v := (-1)) hx hb dX7_addPart_146 (by decide) ?_
            exact ret _ 1 _ _ _ _ _ _ (Or.inl (⟨rfl, Or.inr (Or.inr (Or.inl (hi25)))⟩)) (hP.sub [0] rfl) (hK.sub [] rfl) (hD.sub [0] (by decide) rfl) hS (Nat.le_of_ble_eq_true rfl) (Nat.le_of_ble_eq_true rfl) dX7_addPart_147
        · skip
          subst hc
          have hP : va_P (dC, dI) vwCl [(k0, .inr (10, [.ref kN, .ref kA, .ref kO, .ref kK, .ref kV, .ref kG, .ref kP, .ref kC, .ref kD, .ref kE, .ref kF, .ref kX, .ref kY, .int 0, .ref kT, .ref kU, .int 0, .int 0, .int 0])), (kN, .inl (cI, 2, .inl (fun _ => 0))), (kA, .inl (cI, 2, .inl (fun _ => 0)))] _ := hP
          have hD : va_D A [(k0, .inr (10, [.ref kN, .ref kA, .ref kO, .ref kK, .ref kV, .ref kG, .ref kP, .ref kC, .ref kD, .ref kE, .ref kF, .ref kX, .ref kY, .int 0, .ref kT, .ref kU, .int 0, .int 0, .int 0])), (kN, .inl (cI, 2, .inl (fun _ => 0))), (kA, .inl (cI, 2, .inl (fun _ => 0)))] := hD
          refine lv_if_eq (tgt := 67) hx hb dX7_addPart_35 (by decide) (fun h9 => absurd h9 (by decide)) (fun _ => ?_)
          refine lv_iload hx hb dX7_addPart_38 (lv_at hl 0 rfl) ?_
          refine lv_if_eq (tgt := 67) hx hb dX7_addPart_40 (by decide) (fun h9 => absurd h9 (by decide)) (fun _ => ?_)
          refine lv_iload_n hx hb dX7_addPart_43 rfl (lv_at hl 4 rfl) ?_
          refine lv_i2l (v := p2.toInt64) hx hb dX7_addPart_44 rfl ?_
          refine lv_lconst (v := 1) hx hb dX7_addPart_45 (by decide) ?_
          refine lv_ldc2 (v := 999) hx hb hown (hts (.constantLong RX7 92 (999)) (List.mem_cons_of_mem _ (List.mem_append_left _ (List.mem_append_left _ (List.mem_of_getElem? (i := 0) rfl))))) dX7_addPart_46 ?_
          have hPc := hP.sub (ws' := []) [] rfl
          have hDc := hD.sub (ws' := []) [] (by decide) rfl
          have hKc := hK.sub (tys' := []) [] rfl
          have hFc := va_free (wc := []) hD hS hA [] rfl
          refine va_calli (va_runS (As := [.long p2.toInt64, .long 1, .long 999]) (rest := []) ⟨hx, hb, hml, hown, hts⟩ (kX7_in l dC dI p2.toInt64 1 999 H.size) (va_cwS 3 hts gX7_addPart_X7_in rfl rfl rfl (by decide +kernel) ⟨Nat.le_of_ble_eq_true rfl, Nat.le_of_ble_eq_true rfl⟩) (fPreS hN hZ hS (fun q h => hFc q h) hPc hKc hDc) rfl rfl hl.1 rfl (lv_room (Nat.le_of_ble_eq_true rfl)) dX7_addPart_49 ⟨Nat.le_of_ble_eq_true rfl, Nat.le_of_ble_eq_true rfl⟩) hS (fun q _ h => hFc q h) hFc (fun r u t H1 locs ht hvm hw hB hz1 hk1 hS => ?_)
          obtain ⟨hP1, hK1, hD1⟩ := hB
          rw [ht] at hP1
          have hK1 := va_K.moved hvm.symm hK1
          obtain ⟨hP, hD⟩ := va_join (wr := [(k0, .inr (10, [.ref kN, .ref kA, .ref kO, .ref kK, .ref kV, .ref kG, .ref kP, .ref kC, .ref kD, .ref kE, .ref kF, .ref kX, .ref kY, .int 0, .ref kT, .ref kU, .int 0, .int 0, .int 0])), (kN, .inl (cI, 2, .inl (fun _ => 0))), (kA, .inl (cI, 2, .inl (fun _ => 0)))]) (w1 := []) hP hD [] [0, 1, 2] rfl rfl (by decide) (by decide) hk1 hFc hP1 hD1
          generalize H1 = H at hP hS ⊢
          have hP : va_P (dC, dI) vwCl [(k0, .inr (10, [.ref kN, .ref kA, .ref kO, .ref kK, .ref kV, .ref kG, .ref kP, .ref kC, .ref kD, .ref kE, .ref kF, .ref kX, .ref kY, .int 0, .ref kT, .ref kU, .int 0, .int 0, .int 0])), (kN, .inl (cI, 2, .inl (fun _ => 0))), (kA, .inl (cI, 2, .inl (fun _ => 0)))] _ := hP
          have hD : va_D A [(k0, .inr (10, [.ref kN, .ref kA, .ref kO, .ref kK, .ref kV, .ref kG, .ref kP, .ref kC, .ref kD, .ref kE, .ref kF, .ref kX, .ref kY, .int 0, .ref kT, .ref kU, .int 0, .int 0, .int 0])), (kN, .inl (cI, 2, .inl (fun _ => 0))), (kA, .inl (cI, 2, .inl (fun _ => 0)))] := hD
          rcases hw with ⟨rfl, hi9⟩ | ⟨rfl, hi9⟩
          · skip
            have hi26 : ((¬ (p2 < 1)) ∧ (¬ (999 < p2))) := (fIn p2 1 999 1 999 (by decide) (by decide)).mp hi9
            refine lv_if_eq (tgt := 67) hx hb dX7_addPart_52 (by decide) (fun h9 => absurd h9 (by decide)) (fun _ => ?_)
            refine lv_iload_n hx hb dX7_addPart_55 rfl (lv_at hl 3 rfl) ?_
            refine lv_bipush (v := 116) hx hb dX7_addPart_56 (by decide) ?_
            refine lv_icmp_eq (tgt := 75) hx hb dX7_addPart_58 (by decide) (fun h27 => ?_) (fun h27 => ?_)
            · skip
              refine lv_aload_n hx hb dX7_addPart_75 rfl (lv_at hl 1 rfl) ?_
              refine lv_iload_n hx hb dX7_addPart_76 rfl (lv_at hl 2 rfl) ?_
              refine lv_iload hx hb dX7_addPart_77 (lv_at hl 5 rfl) ?_
              have hPc := hP.sub (ws' := [(k0, .inr (10, [.ref kN, .ref kA, .ref kO, .ref kK, .ref kV, .ref kG, .ref kP, .ref kC, .ref kD, .ref kE, .ref kF, .ref kX, .ref kY, .int 0, .ref kT, .ref kU, .int 0, .int 0, .int 0])), (kN, .inl (cI, 2, .inl (fun _ => 0)))]) [0, 1] rfl
              have hDc := hD.sub (ws' := [(k0, .inr (10, [.ref kN, .ref kA, .ref kO, .ref kK, .ref kV, .ref kG, .ref kP, .ref kC, .ref kD, .ref kE, .ref kF, .ref kX, .ref kY, .int 0, .ref kT, .ref kU, .int 0, .int 0, .int 0])), (kN, .inl (cI, 2, .inl (fun _ => 0)))]) [0, 1] (by decide) rfl
              have hKc := hK.sub (tys' := [(cI, .int)]) [0] rfl
              have hFc := va_free (wc := [(k0, .inr (10, [.ref kN, .ref kA, .ref kO, .ref kK, .ref kV, .ref kG, .ref kP, .ref kC, .ref kD, .ref kE, .ref kF, .ref kX, .ref kY, .int 0, .ref kT, .ref kU, .int 0, .int 0, .int 0])), (kN, .inl (cI, 2, .inl (fun _ => 0)))]) hD hS hA [0, 1] rfl
              refine va_calli (va_runV (As := [.int 1, .int p3]) (rest := []) ⟨hx, hb, hml, hown, hts⟩ (kX7_isNet1 l dC dI k0 kN kA kO kK kV kG kP kC kD kE kF kX kY kT kU cI p3 H.size) (cwV 2 hts gX7_addPart_X7_isNet rfl rfl rfl (by decide +kernel) ⟨Nat.le_of_ble_eq_true rfl, Nat.le_of_ble_eq_true rfl⟩) (fPreV hN hZ hS (fun q h => hFc q h) hPc hKc hDc (ci := 10) (q0 := 0) rfl rfl) rfl rfl hl.1 rfl (lv_room (Nat.le_of_ble_eq_true rfl)) dX7_addPart_79 ⟨Nat.le_of_ble_eq_true rfl, Nat.le_of_ble_eq_true rfl⟩) hS (fun q _ h => hFc q h) hFc (fun r u t H1 locs ht hvm hw hB hz1 hk1 hS => ?_)
              obtain ⟨hP1, hK1, hD1⟩ := hB
              rw [ht] at hP1
              have hK1 := va_K.moved hvm.symm hK1
              obtain ⟨hP, hD⟩ := va_join (wr := [(kA, .inl (cI, 2, .inl (fun _ => 0)))]) (w1 := [(k0, .inr (10, [.ref kN, .ref kA, .ref kO, .ref kK, .ref kV, .ref kG, .ref kP, .ref kC, .ref kD, .ref kE, .ref kF, .ref kX, .ref kY, .int 0, .ref kT, .ref kU, .int 0, .int 0, .int 0])), (kN, .inl (cI, 2, .inl (fun _ => 0)))]) hP hD [0, 1] [2] rfl rfl (by decide) (by decide) hk1 hFc hP1 hD1
              generalize H1 = H at hP hS ⊢
              have hP : va_P (dC, dI) vwCl [(kA, .inl (cI, 2, .inl (fun _ => 0))), (k0, .inr (10, [.ref kN, .ref kA, .ref kO, .ref kK, .ref kV, .ref kG, .ref kP, .ref kC, .ref kD, .ref kE, .ref kF, .ref kX, .ref kY, .int 0, .ref kT, .ref kU, .int 0, .int 0, .int 0])), (kN, .inl (cI, 2, .inl (fun _ => 0)))] _ := hP
              have hD : va_D A [(kA, .inl (cI, 2, .inl (fun _ => 0))), (k0, .inr (10, [.ref kN, .ref kA, .ref kO, .ref kK, .ref kV, .ref kG, .ref kP, .ref kC, .ref kD, .ref kE, .ref kF, .ref kX, .ref kY, .int 0, .ref kT, .ref kU, .int 0, .int 0, .int 0])), (kN, .inl (cI, 2, .inl (fun _ => 0)))] := hD
              subst hw
              refine lv_if_eq (tgt := 111) hx hb dX7_addPart_82 (by decide) (fun _ => ?_) (fun h9 => absurd (by decide) h9)
              refine lv_aload_n hx hb dX7_addPart_111 rfl (lv_at hl 1 rfl) ?_
              refine lv_iconst (v := 2) hx hb dX7_addPart_112 (by decide) ?_
              refine va_put (D := (dC, dI)) (ci := 10) (v := .int 2) (ty := .int) (C := RX7) (T := TX7) (N := 19) hx hb hts (fun w h => List.mem_cons_of_mem _ (List.mem_append_left _ (List.mem_append_right _ (h)))) tyX7 tyX7_ok nmX7 hown hK hP hD hS 1 rfl rfl 16 (by decide) (hts (.fieldLink RX7 57 "NetcompareModel" "thrown" "I") (List.mem_cons_of_mem _ (List.mem_append_left _ (List.mem_append_left _ (List.mem_of_getElem? (i := 1) rfl))))) (fun _ h9 => h9) rfl (by decide +kernel) rfl rfl (Nat.le_of_ble_eq_true rfl) dX7_addPart_113 (fun H locs hP hD hS => ?_)
              have hP : va_P (dC, dI) vwCl [(kA, .inl (cI, 2, .inl (fun _ => 0))), (k0, .inr (10, [.ref kN, .ref kA, .ref kO, .ref kK, .ref kV, .ref kG, .ref kP, .ref kC, .ref kD, .ref kE, .ref kF, .ref kX, .ref kY, .int 0, .ref kT, .ref kU, .int 2, .int 0, .int 0])), (kN, .inl (cI, 2, .inl (fun _ => 0)))] _ := hP
              have hD : va_D A [(kA, .inl (cI, 2, .inl (fun _ => 0))), (k0, .inr (10, [.ref kN, .ref kA, .ref kO, .ref kK, .ref kV, .ref kG, .ref kP, .ref kC, .ref kD, .ref kE, .ref kF, .ref kX, .ref kY, .int 0, .ref kT, .ref kU, .int 2, .int 0, .int 0])), (kN, .inl (cI, 2, .inl (fun _ => 0)))] := hD
              refine lv_goto (tgt := 139) hx hb dX7_addPart_116 (by decide) ?_
              refine lv_aload_n hx hb dX7_addPart_139 rfl (lv_at hl 1 rfl) ?_
              refine va_get (D := (dC, dI)) (ci := 10) (v := .int 2) (C := RX7) (T := TX7) (N := 19) hx hb hts (fun w h => List.mem_cons_of_mem _ (List.mem_append_left _ (List.mem_append_right _ (h)))) hown hK hP 1 rfl rfl 16 (by decide) (hts (.fieldLink RX7 57 "NetcompareModel" "thrown" "I") (List.mem_cons_of_mem _ (List.mem_append_left _ (List.mem_append_left _ (List.mem_of_getElem? (i := 1) rfl))))) (fun _ h9 => h9) rfl dX7_addPart_140 ?_
              refine lv_if_le (tgt := 148) hx hb dX7_addPart_143 (by decide) (fun h9 => absurd h9 (by decide)) (fun _ => ?_)
              refine lv_iconst (v := (-1)) hx hb dX7_addPart_146 (by decide) ?_
              exact ret _ 2 _ _ _ _ _ _ (Or.inr (⟨rfl, (fun h9 => h9.elim ((fun h9 => h9 (Or.inr (rfl)))) ((fun h9 => h9.elim ((fun h9 => h9 (Or.inr (Or.inr (Or.inl (h21)))))) ((fun h9 => h9.elim ((fun h9 => h9 (hi26))) ((fun h9 => ((fun h9 => h9 (h27))) h9.1)))))))⟩)) (hP.sub [1] rfl) (hK.sub [] rfl) (hD.sub [1] (by decide) rfl) hS (Nat.le_of_ble_eq_true rfl) (Nat.le_of_ble_eq_true rfl) dX7_addPart_147
            · skip
              refine lv_iload hx hb dX7_addPart_61 (lv_at hl 7 rfl) ?_
              refine lv_iconst (v := (-1)) hx hb dX7_addPart_63 (by decide) ?_
              refine lv_icmp_eq (tgt := 75) hx hb dX7_addPart_64 (by decide) (fun h28 => ?_) (fun h28 => ?_)
              · skip
                refine lv_aload_n hx hb dX7_addPart_75 rfl (lv_at hl 1 rfl) ?_
                refine lv_iload_n hx hb dX7_addPart_76 rfl (lv_at hl 2 rfl) ?_
                refine lv_iload hx hb dX7_addPart_77 (lv_at hl 5 rfl) ?_
                have hPc := hP.sub (ws' := [(k0, .inr (10, [.ref kN, .ref kA, .ref kO, .ref kK, .ref kV, .ref kG, .ref kP, .ref kC, .ref kD, .ref kE, .ref kF, .ref kX, .ref kY, .int 0, .ref kT, .ref kU, .int 0, .int 0, .int 0])), (kN, .inl (cI, 2, .inl (fun _ => 0)))]) [0, 1] rfl
                have hDc := hD.sub (ws' := [(k0, .inr (10, [.ref kN, .ref kA, .ref kO, .ref kK, .ref kV, .ref kG, .ref kP, .ref kC, .ref kD, .ref kE, .ref kF, .ref kX, .ref kY, .int 0, .ref kT, .ref kU, .int 0, .int 0, .int 0])), (kN, .inl (cI, 2, .inl (fun _ => 0)))]) [0, 1] (by decide) rfl
                have hKc := hK.sub (tys' := [(cI, .int)]) [0] rfl
                have hFc := va_free (wc := [(k0, .inr (10, [.ref kN, .ref kA, .ref kO, .ref kK, .ref kV, .ref kG, .ref kP, .ref kC, .ref kD, .ref kE, .ref kF, .ref kX, .ref kY, .int 0, .ref kT, .ref kU, .int 0, .int 0, .int 0])), (kN, .inl (cI, 2, .inl (fun _ => 0)))]) hD hS hA [0, 1] rfl
                refine va_calli (va_runV (As := [.int 1, .int p3]) (rest := []) ⟨hx, hb, hml, hown, hts⟩ (kX7_isNet1 l dC dI k0 kN kA kO kK kV kG kP kC kD kE kF kX kY kT kU cI p3 H.size) (cwV 2 hts gX7_addPart_X7_isNet rfl rfl rfl (by decide +kernel) ⟨Nat.le_of_ble_eq_true rfl, Nat.le_of_ble_eq_true rfl⟩) (fPreV hN hZ hS (fun q h => hFc q h) hPc hKc hDc (ci := 10) (q0 := 0) rfl rfl) rfl rfl hl.1 rfl (lv_room (Nat.le_of_ble_eq_true rfl)) dX7_addPart_79 ⟨Nat.le_of_ble_eq_true rfl, Nat.le_of_ble_eq_true rfl⟩) hS (fun q _ h => hFc q h) hFc (fun r u t H1 locs ht hvm hw hB hz1 hk1 hS => ?_)
                obtain ⟨hP1, hK1, hD1⟩ := hB
                rw [ht] at hP1
                have hK1 := va_K.moved hvm.symm hK1
                obtain ⟨hP, hD⟩ := va_join (wr := [(kA, .inl (cI, 2, .inl (fun _ => 0)))]) (w1 := [(k0, .inr (10, [.ref kN, .ref kA, .ref kO, .ref kK, .ref kV, .ref kG, .ref kP, .ref kC, .ref kD, .ref kE, .ref kF, .ref kX, .ref kY, .int 0, .ref kT, .ref kU, .int 0, .int 0, .int 0])), (kN, .inl (cI, 2, .inl (fun _ => 0)))]) hP hD [0, 1] [2] rfl rfl (by decide) (by decide) hk1 hFc hP1 hD1
                generalize H1 = H at hP hS ⊢
                have hP : va_P (dC, dI) vwCl [(kA, .inl (cI, 2, .inl (fun _ => 0))), (k0, .inr (10, [.ref kN, .ref kA, .ref kO, .ref kK, .ref kV, .ref kG, .ref kP, .ref kC, .ref kD, .ref kE, .ref kF, .ref kX, .ref kY, .int 0, .ref kT, .ref kU, .int 0, .int 0, .int 0])), (kN, .inl (cI, 2, .inl (fun _ => 0)))] _ := hP
                have hD : va_D A [(kA, .inl (cI, 2, .inl (fun _ => 0))), (k0, .inr (10, [.ref kN, .ref kA, .ref kO, .ref kK, .ref kV, .ref kG, .ref kP, .ref kC, .ref kD, .ref kE, .ref kF, .ref kX, .ref kY, .int 0, .ref kT, .ref kU, .int 0, .int 0, .int 0])), (kN, .inl (cI, 2, .inl (fun _ => 0)))] := hD
                subst hw
                refine lv_if_eq (tgt := 111) hx hb dX7_addPart_82 (by decide) (fun _ => ?_) (fun h9 => absurd (by decide) h9)
                refine lv_aload_n hx hb dX7_addPart_111 rfl (lv_at hl 1 rfl) ?_
                refine lv_iconst (v := 2) hx hb dX7_addPart_112 (by decide) ?_
                refine va_put (D := (dC, dI)) (ci := 10) (v := .int 2) (ty := .int) (C := RX7) (T := TX7) (N := 19) hx hb hts (fun w h => List.mem_cons_of_mem _ (List.mem_append_left _ (List.mem_append_right _ (h)))) tyX7 tyX7_ok nmX7 hown hK hP hD hS 1 rfl rfl 16 (by decide) (hts (.fieldLink RX7 57 "NetcompareModel" "thrown" "I") (List.mem_cons_of_mem _ (List.mem_append_left _ (List.mem_append_left _ (List.mem_of_getElem? (i := 1) rfl))))) (fun _ h9 => h9) rfl (by decide +kernel) rfl rfl (Nat.le_of_ble_eq_true rfl) dX7_addPart_113 (fun H locs hP hD hS => ?_)
                have hP : va_P (dC, dI) vwCl [(kA, .inl (cI, 2, .inl (fun _ => 0))), (k0, .inr (10, [.ref kN, .ref kA, .ref kO, .ref kK, .ref kV, .ref kG, .ref kP, .ref kC, .ref kD, .ref kE, .ref kF, .ref kX, .ref kY, .int 0, .ref kT, .ref kU, .int 2, .int 0, .int 0])), (kN, .inl (cI, 2, .inl (fun _ => 0)))] _ := hP
                have hD : va_D A [(kA, .inl (cI, 2, .inl (fun _ => 0))), (k0, .inr (10, [.ref kN, .ref kA, .ref kO, .ref kK, .ref kV, .ref kG, .ref kP, .ref kC, .ref kD, .ref kE, .ref kF, .ref kX, .ref kY, .int 0, .ref kT, .ref kU, .int 2, .int 0, .int 0])), (kN, .inl (cI, 2, .inl (fun _ => 0)))] := hD
                refine lv_goto (tgt := 139) hx hb dX7_addPart_116 (by decide) ?_
                refine lv_aload_n hx hb dX7_addPart_139 rfl (lv_at hl 1 rfl) ?_
                refine va_get (D := (dC, dI)) (ci := 10) (v := .int 2) (C := RX7) (T := TX7) (N := 19) hx hb hts (fun w h => List.mem_cons_of_mem _ (List.mem_append_left _ (List.mem_append_right _ (h)))) hown hK hP 1 rfl rfl 16 (by decide) (hts (.fieldLink RX7 57 "NetcompareModel" "thrown" "I") (List.mem_cons_of_mem _ (List.mem_append_left _ (List.mem_append_left _ (List.mem_of_getElem? (i := 1) rfl))))) (fun _ h9 => h9) rfl dX7_addPart_140 ?_
                refine lv_if_le (tgt := 148) hx hb dX7_addPart_143 (by decide) (fun h9 => absurd h9 (by decide)) (fun _ => ?_)
                refine lv_iconst (v := (-1)) hx hb dX7_addPart_146 (by decide) ?_
                exact ret _ 2 _ _ _ _ _ _ (Or.inr (⟨rfl, (fun h9 => h9.elim ((fun h9 => h9 (Or.inr (rfl)))) ((fun h9 => h9.elim ((fun h9 => h9 (Or.inr (Or.inr (Or.inl (h21)))))) ((fun h9 => h9.elim ((fun h9 => h9 (hi26))) ((fun h9 => ((fun h9 => h9 (h28))) h9.2)))))))⟩)) (hP.sub [1] rfl) (hK.sub [] rfl) (hD.sub [1] (by decide) rfl) hS (Nat.le_of_ble_eq_true rfl) (Nat.le_of_ble_eq_true rfl) dX7_addPart_147
              · skip
                refine lv_aload_n hx hb dX7_addPart_67 rfl (lv_at hl 1 rfl) ?_
                refine lv_iconst (v := 1) hx hb dX7_addPart_68 (by decide) ?_
                refine va_put (D := (dC, dI)) (ci := 10) (v := .int 1) (ty := .int) (C := RX7) (T := TX7) (N := 19) hx hb hts (fun w h => List.mem_cons_of_mem _ (List.mem_append_left _ (List.mem_append_right _ (h)))) tyX7 tyX7_ok nmX7 hown hK hP hD hS 0 rfl rfl 16 (by decide) (hts (.fieldLink RX7 57 "NetcompareModel" "thrown" "I") (List.mem_cons_of_mem _ (List.mem_append_left _ (List.mem_append_left _ (List.mem_of_getElem? (i := 1) rfl))))) (fun _ h9 => h9) rfl (by decide +kernel) rfl rfl (Nat.le_of_ble_eq_true rfl) dX7_addPart_69 (fun H locs hP hD hS => ?_)
                have hP : va_P (dC, dI) vwCl [(k0, .inr (10, [.ref kN, .ref kA, .ref kO, .ref kK, .ref kV, .ref kG, .ref kP, .ref kC, .ref kD, .ref kE, .ref kF, .ref kX, .ref kY, .int 0, .ref kT, .ref kU, .int 1, .int 0, .int 0])), (kN, .inl (cI, 2, .inl (fun _ => 0))), (kA, .inl (cI, 2, .inl (fun _ => 0)))] _ := hP
                have hD : va_D A [(k0, .inr (10, [.ref kN, .ref kA, .ref kO, .ref kK, .ref kV, .ref kG, .ref kP, .ref kC, .ref kD, .ref kE, .ref kF, .ref kX, .ref kY, .int 0, .ref kT, .ref kU, .int 1, .int 0, .int 0])), (kN, .inl (cI, 2, .inl (fun _ => 0))), (kA, .inl (cI, 2, .inl (fun _ => 0)))] := hD
                refine lv_goto (tgt := 139) hx hb dX7_addPart_72 (by decide) ?_
                refine lv_aload_n hx hb dX7_addPart_139 rfl (lv_at hl 1 rfl) ?_
                refine va_get (D := (dC, dI)) (ci := 10) (v := .int 1) (C := RX7) (T := TX7) (N := 19) hx hb hts (fun w h => List.mem_cons_of_mem _ (List.mem_append_left _ (List.mem_append_right _ (h)))) hown hK hP 0 rfl rfl 16 (by decide) (hts (.fieldLink RX7 57 "NetcompareModel" "thrown" "I") (List.mem_cons_of_mem _ (List.mem_append_left _ (List.mem_append_left _ (List.mem_of_getElem? (i := 1) rfl))))) (fun _ h9 => h9) rfl dX7_addPart_140 ?_
                refine lv_if_le (tgt := 148) hx hb dX7_addPart_143 (by decide) (fun h9 => absurd h9 (by decide)) (fun _ => ?_)
                refine lv_iconst (v := (-1)) hx hb dX7_addPart_146 (by decide) ?_
                exact ret _ 1 _ _ _ _ _ _ (Or.inl (⟨rfl, Or.inr (Or.inr (Or.inr (⟨h27, h28⟩)))⟩)) (hP.sub [0] rfl) (hK.sub [] rfl) (hD.sub [0] (by decide) rfl) hS (Nat.le_of_ble_eq_true rfl) (Nat.le_of_ble_eq_true rfl) dX7_addPart_147
          · skip
            have hi29 : ¬ ((¬ (p2 < 1)) ∧ (¬ (999 < p2))) := fun q => hi9 ((fIn p2 1 999 1 999 (by decide) (by decide)).mpr q)
            refine lv_if_eq (tgt := 67) hx hb dX7_addPart_52 (by decide) (fun _ => ?_) (fun h9 => absurd (by decide) h9)
            refine lv_aload_n hx hb dX7_addPart_67 rfl (lv_at hl 1 rfl) ?_
            refine lv_iconst (v := 1) hx hb dX7_addPart_68 (by decide) ?_
            refine va_put (D := (dC, dI)) (ci := 10) (v := .int 1) (ty := .int) (C := RX7) (T := TX7) (N := 19) hx hb hts (fun w h => List.mem_cons_of_mem _ (List.mem_append_left _ (List.mem_append_right _ (h)))) tyX7 tyX7_ok nmX7 hown hK hP hD hS 0 rfl rfl 16 (by decide) (hts (.fieldLink RX7 57 "NetcompareModel" "thrown" "I") (List.mem_cons_of_mem _ (List.mem_append_left _ (List.mem_append_left _ (List.mem_of_getElem? (i := 1) rfl))))) (fun _ h9 => h9) rfl (by decide +kernel) rfl rfl (Nat.le_of_ble_eq_true rfl) dX7_addPart_69 (fun H locs hP hD hS => ?_)
            have hP : va_P (dC, dI) vwCl [(k0, .inr (10, [.ref kN, .ref kA, .ref kO, .ref kK, .ref kV, .ref kG, .ref kP, .ref kC, .ref kD, .ref kE, .ref kF, .ref kX, .ref kY, .int 0, .ref kT, .ref kU, .int 1, .int 0, .int 0])), (kN, .inl (cI, 2, .inl (fun _ => 0))), (kA, .inl (cI, 2, .inl (fun _ => 0)))] _ := hP
            have hD : va_D A [(k0, .inr (10, [.ref kN, .ref kA, .ref kO, .ref kK, .ref kV, .ref kG, .ref kP, .ref kC, .ref kD, .ref kE, .ref kF, .ref kX, .ref kY, .int 0, .ref kT, .ref kU, .int 1, .int 0, .int 0])), (kN, .inl (cI, 2, .inl (fun _ => 0))), (kA, .inl (cI, 2, .inl (fun _ => 0)))] := hD
            refine lv_goto (tgt := 139) hx hb dX7_addPart_72 (by decide) ?_
            refine lv_aload_n hx hb dX7_addPart_139 rfl (lv_at hl 1 rfl) ?_
            refine va_get (D := (dC, dI)) (ci := 10) (v := .int 1) (C := RX7) (T := TX7) (N := 19) hx hb hts (fun w h => List.mem_cons_of_mem _ (List.mem_append_left _ (List.mem_append_right _ (h)))) hown hK hP 0 rfl rfl 16 (by decide) (hts (.fieldLink RX7 57 "NetcompareModel" "thrown" "I") (List.mem_cons_of_mem _ (List.mem_append_left _ (List.mem_append_left _ (List.mem_of_getElem? (i := 1) rfl))))) (fun _ h9 => h9) rfl dX7_addPart_140 ?_
            refine lv_if_le (tgt := 148) hx hb dX7_addPart_143 (by decide) (fun h9 => absurd h9 (by decide)) (fun _ => ?_)
            refine lv_iconst (v := (-1)) hx hb dX7_addPart_146 (by decide) ?_
            exact ret _ 1 _ _ _ _ _ _ (Or.inl (⟨rfl, Or.inr (Or.inr (Or.inl (hi29)))⟩)) (hP.sub [0] rfl) (hK.sub [] rfl) (hD.sub [0] (by decide) rfl) hS (Nat.le_of_ble_eq_true rfl) (Nat.le_of_ble_eq_true rfl) dX7_addPart_147
        · skip
          have hc30 := hc
          refine lv_if_eq (tgt := 67) hx hb dX7_addPart_35 (by decide) (fun _ => ?_) (fun h9 => absurd (by decide) h9)
          refine lv_aload_n hx hb dX7_addPart_67 rfl (lv_at hl 1 rfl) ?_
          refine lv_iconst (v := 1) hx hb dX7_addPart_68 (by decide) ?_
          refine va_put (D := (dC, dI)) (ci := 10) (v := .int 1) (ty := .int) (C := RX7) (T := TX7) (N := 19) hx hb hts (fun w h => List.mem_cons_of_mem _ (List.mem_append_left _ (List.mem_append_right _ (h)))) tyX7 tyX7_ok nmX7 hown hK hP hD hS 0 rfl rfl 16 (by decide) (hts (.fieldLink RX7 57 "NetcompareModel" "thrown" "I") (List.mem_cons_of_mem _ (List.mem_append_left _ (List.mem_append_left _ (List.mem_of_getElem? (i := 1) rfl))))) (fun _ h9 => h9) rfl (by decide +kernel) rfl rfl (Nat.le_of_ble_eq_true rfl) dX7_addPart_69 (fun H locs hP hD hS => ?_)
          have hP : va_P (dC, dI) vwCl [(k0, .inr (10, [.ref kN, .ref kA, .ref kO, .ref kK, .ref kV, .ref kG, .ref kP, .ref kC, .ref kD, .ref kE, .ref kF, .ref kX, .ref kY, .int 0, .ref kT, .ref kU, .int 1, .int 0, .int 0])), (kN, .inl (cI, 2, .inl (fun _ => 0))), (kA, .inl (cI, 2, .inl (fun _ => 0)))] _ := hP
          have hD : va_D A [(k0, .inr (10, [.ref kN, .ref kA, .ref kO, .ref kK, .ref kV, .ref kG, .ref kP, .ref kC, .ref kD, .ref kE, .ref kF, .ref kX, .ref kY, .int 0, .ref kT, .ref kU, .int 1, .int 0, .int 0])), (kN, .inl (cI, 2, .inl (fun _ => 0))), (kA, .inl (cI, 2, .inl (fun _ => 0)))] := hD
          refine lv_goto (tgt := 139) hx hb dX7_addPart_72 (by decide) ?_
          refine lv_aload_n hx hb dX7_addPart_139 rfl (lv_at hl 1 rfl) ?_
          refine va_get (D := (dC, dI)) (ci := 10) (v := .int 1) (C := RX7) (T := TX7) (N := 19) hx hb hts (fun w h => List.mem_cons_of_mem _ (List.mem_append_left _ (List.mem_append_right _ (h)))) hown hK hP 0 rfl rfl 16 (by decide) (hts (.fieldLink RX7 57 "NetcompareModel" "thrown" "I") (List.mem_cons_of_mem _ (List.mem_append_left _ (List.mem_append_left _ (List.mem_of_getElem? (i := 1) rfl))))) (fun _ h9 => h9) rfl dX7_addPart_140 ?_
          refine lv_if_le (tgt := 148) hx hb dX7_addPart_143 (by decide) (fun h9 => absurd h9 (by decide)) (fun _ => ?_)
          refine lv_iconst (v := (-1)) hx hb dX7_addPart_146 (by decide) ?_
          exact ret _ 1 _ _ _ _ _ _ (Or.inl (⟨rfl, Or.inl (hc30)⟩)) (hP.sub [0] rfl) (hK.sub [] rfl) (hD.sub [0] (by decide) rfl) hS (Nat.le_of_ble_eq_true rfl) (Nat.le_of_ble_eq_true rfl) dX7_addPart_147
      · skip
        refine lv_iload_n hx hb dX7_addPart_18 rfl (lv_at hl 2 rfl) ?_
        refine lv_bipush (v := 116) hx hb dX7_addPart_19 (by decide) ?_
        refine lv_icmp_ne (tgt := 28) hx hb dX7_addPart_21 (by decide) (fun h31 => ?_) (fun h31 => ?_)
        · skip
          refine lv_iconst (v := 0) hx hb dX7_addPart_28 (by decide) ?_
          refine lv_istore (lv' := [(7, .int 0), (0, .ref k0), (1, .int p0), (2, .int p1), (3, .int p2), (4, .int p3), (5, .int p4), (6, .int p5)]) hx hb dX7_addPart_29 hl (Nat.le_of_ble_eq_true rfl) rfl (fun ls hl => ?_)
          refine lv_iload_n hx hb dX7_addPart_31 rfl (lv_at hl 2 rfl) ?_
          have hPc := hP.sub (ws' := []) [] rfl
          have hDc := hD.sub (ws' := []) [] (by decide) rfl
          have hKc := hK.sub (tys' := []) [] rfl
          have hFc := va_free (wc := []) hD hS hA [] rfl
          refine va_calli (va_runS (As := [.int p0]) (rest := []) ⟨hx, hb, hml, hown, hts⟩ (kX7_isCircuit l dC dI p0 s.heap.size) (va_cwS 1 hts gX7_addPart_X7_isCircuit rfl rfl rfl (by decide +kernel) ⟨Nat.le_of_ble_eq_true rfl, Nat.le_of_ble_eq_true rfl⟩) (fPreS hN hZ hS (fun q h => hFc q h) hPc hKc hDc) rfl rfl hl.1 rfl (lv_room (Nat.le_of_ble_eq_true rfl)) dX7_addPart_32 ⟨Nat.le_of_ble_eq_true rfl, Nat.le_of_ble_eq_true rfl⟩) hS (fun q _ h => hFc q h) hFc (fun r u t H1 locs ht hvm hw hB hz1 hk1 hS => ?_)
          obtain ⟨hP1, hK1, hD1⟩ := hB
          rw [ht] at hP1
          have hK1 := va_K.moved hvm.symm hK1
          obtain ⟨hP, hD⟩ := va_join (wr := [(k0, .inr (10, [.ref kN, .ref kA, .ref kO, .ref kK, .ref kV, .ref kG, .ref kP, .ref kC, .ref kD, .ref kE, .ref kF, .ref kX, .ref kY, .int 0, .ref kT, .ref kU, .int 0, .int 0, .int 0])), (kN, .inl (cI, 2, .inl (fun _ => 0))), (kA, .inl (cI, 2, .inl (fun _ => 0)))]) (w1 := []) hP hD [] [0, 1, 2] rfl rfl (by decide) (by decide) hk1 hFc hP1 hD1
          generalize H1 = H at hP hS ⊢
          have hP : va_P (dC, dI) vwCl [(k0, .inr (10, [.ref kN, .ref kA, .ref kO, .ref kK, .ref kV, .ref kG, .ref kP, .ref kC, .ref kD, .ref kE, .ref kF, .ref kX, .ref kY, .int 0, .ref kT, .ref kU, .int 0, .int 0, .int 0])), (kN, .inl (cI, 2, .inl (fun _ => 0))), (kA, .inl (cI, 2, .inl (fun _ => 0)))] _ := hP
          have hD : va_D A [(k0, .inr (10, [.ref kN, .ref kA, .ref kO, .ref kK, .ref kV, .ref kG, .ref kP, .ref kC, .ref kD, .ref kE, .ref kF, .ref kX, .ref kY, .int 0, .ref kT, .ref kU, .int 0, .int 0, .int 0])), (kN, .inl (cI, 2, .inl (fun _ => 0))), (kA, .inl (cI, 2, .inl (fun _ => 0)))] := hD
          rcases hw with ⟨rfl, hc | hc⟩ | ⟨rfl, hc⟩
          · skip
            subst hc
            have hP : va_P (dC, dI) vwCl [(k0, .inr (10, [.ref kN, .ref kA, .ref kO, .ref kK, .ref kV, .ref kG, .ref kP, .ref kC, .ref kD, .ref kE, .ref kF, .ref kX, .ref kY, .int 0, .ref kT, .ref kU, .int 0, .int 0, .int 0])), (kN, .inl (cI, 2, .inl (fun _ => 0))), (kA, .inl (cI, 2, .inl (fun _ => 0)))] _ := hP
            have hD : va_D A [(k0, .inr (10, [.ref kN, .ref kA, .ref kO, .ref kK, .ref kV, .ref kG, .ref kP, .ref kC, .ref kD, .ref kE, .ref kF, .ref kX, .ref kY, .int 0, .ref kT, .ref kU, .int 0, .int 0, .int 0])), (kN, .inl (cI, 2, .inl (fun _ => 0))), (kA, .inl (cI, 2, .inl (fun _ => 0)))] := hD
            refine lv_if_eq (tgt := 67) hx hb dX7_addPart_35 (by decide) (fun h9 => absurd h9 (by decide)) (fun _ => ?_)
            refine lv_iload hx hb dX7_addPart_38 (lv_at hl 0 rfl) ?_
            refine lv_if_eq (tgt := 67) hx hb dX7_addPart_40 (by decide) (fun _ => ?_) (fun h9 => absurd (by decide) h9)
            refine lv_aload_n hx hb dX7_addPart_67 rfl (lv_at hl 1 rfl) ?_
            refine lv_iconst (v := 1) hx hb dX7_addPart_68 (by decide) ?_
            refine va_put (D := (dC, dI)) (ci := 10) (v := .int 1) (ty := .int) (C := RX7) (T := TX7) (N := 19) hx hb hts (fun w h => List.mem_cons_of_mem _ (List.mem_append_left _ (List.mem_append_right _ (h)))) tyX7 tyX7_ok nmX7 hown hK hP hD hS 0 rfl rfl 16 (by decide) (hts (.fieldLink RX7 57 "NetcompareModel" "thrown" "I") (List.mem_cons_of_mem _ (List.mem_append_left _ (List.mem_append_left _ (List.mem_of_getElem? (i := 1) rfl))))) (fun _ h9 => h9) rfl (by decide +kernel) rfl rfl (Nat.le_of_ble_eq_true rfl) dX7_addPart_69 (fun H locs hP hD hS => ?_)
            have hP : va_P (dC, dI) vwCl [(k0, .inr (10, [.ref kN, .ref kA, .ref kO, .ref kK, .ref kV, .ref kG, .ref kP, .ref kC, .ref kD, .ref kE, .ref kF, .ref kX, .ref kY, .int 0, .ref kT, .ref kU, .int 1, .int 0, .int 0])), (kN, .inl (cI, 2, .inl (fun _ => 0))), (kA, .inl (cI, 2, .inl (fun _ => 0)))] _ := hP
            have hD : va_D A [(k0, .inr (10, [.ref kN, .ref kA, .ref kO, .ref kK, .ref kV, .ref kG, .ref kP, .ref kC, .ref kD, .ref kE, .ref kF, .ref kX, .ref kY, .int 0, .ref kT, .ref kU, .int 1, .int 0, .int 0])), (kN, .inl (cI, 2, .inl (fun _ => 0))), (kA, .inl (cI, 2, .inl (fun _ => 0)))] := hD
            refine lv_goto (tgt := 139) hx hb dX7_addPart_72 (by decide) ?_
            refine lv_aload_n hx hb dX7_addPart_139 rfl (lv_at hl 1 rfl) ?_
            refine va_get (D := (dC, dI)) (ci := 10) (v := .int 1) (C := RX7) (T := TX7) (N := 19) hx hb hts (fun w h => List.mem_cons_of_mem _ (List.mem_append_left _ (List.mem_append_right _ (h)))) hown hK hP 0 rfl rfl 16 (by decide) (hts (.fieldLink RX7 57 "NetcompareModel" "thrown" "I") (List.mem_cons_of_mem _ (List.mem_append_left _ (List.mem_append_left _ (List.mem_of_getElem? (i := 1) rfl))))) (fun _ h9 => h9) rfl dX7_addPart_140 ?_
            refine lv_if_le (tgt := 148) hx hb dX7_addPart_143 (by decide) (fun h9 => absurd h9 (by decide)) (fun _ => ?_)
            refine lv_iconst (v := (-1)) hx hb dX7_addPart_146 (by decide) ?_
            exact ret _ 1 _ _ _ _ _ _ (Or.inl (⟨rfl, Or.inr (Or.inl ((fun h9 => h9.elim (h1) ((fun h9 => h9.elim (h11) ((fun h9 => h9.elim (h21) (h31))))))))⟩)) (hP.sub [0] rfl) (hK.sub [] rfl) (hD.sub [0] (by decide) rfl) hS (Nat.le_of_ble_eq_true rfl) (Nat.le_of_ble_eq_true rfl) dX7_addPart_147
          · skip
            subst hc
            have hP : va_P (dC, dI) vwCl [(k0, .inr (10, [.ref kN, .ref kA, .ref kO, .ref kK, .ref kV, .ref kG, .ref kP, .ref kC, .ref kD, .ref kE, .ref kF, .ref kX, .ref kY, .int 0, .ref kT, .ref kU, .int 0, .int 0, .int 0])), (kN, .inl (cI, 2, .inl (fun _ => 0))), (kA, .inl (cI, 2, .inl (fun _ => 0)))] _ := hP
            have hD : va_D A [(k0, .inr (10, [.ref kN, .ref kA, .ref kO, .ref kK, .ref kV, .ref kG, .ref kP, .ref kC, .ref kD, .ref kE, .ref kF, .ref kX, .ref kY, .int 0, .ref kT, .ref kU, .int 0, .int 0, .int 0])), (kN, .inl (cI, 2, .inl (fun _ => 0))), (kA, .inl (cI, 2, .inl (fun _ => 0)))] := hD
            refine lv_if_eq (tgt := 67) hx hb dX7_addPart_35 (by decide) (fun h9 => absurd h9 (by decide)) (fun _ => ?_)
            refine lv_iload hx hb dX7_addPart_38 (lv_at hl 0 rfl) ?_
            refine lv_if_eq (tgt := 67) hx hb dX7_addPart_40 (by decide) (fun _ => ?_) (fun h9 => absurd (by decide) h9)
            refine lv_aload_n hx hb dX7_addPart_67 rfl (lv_at hl 1 rfl) ?_
            refine lv_iconst (v := 1) hx hb dX7_addPart_68 (by decide) ?_
            refine va_put (D := (dC, dI)) (ci := 10) (v := .int 1) (ty := .int) (C := RX7) (T := TX7) (N := 19) hx hb hts (fun w h => List.mem_cons_of_mem _ (List.mem_append_left _ (List.mem_append_right _ (h)))) tyX7 tyX7_ok nmX7 hown hK hP hD hS 0 rfl rfl 16 (by decide) (hts (.fieldLink RX7 57 "NetcompareModel" "thrown" "I") (List.mem_cons_of_mem _ (List.mem_append_left _ (List.mem_append_left _ (List.mem_of_getElem? (i := 1) rfl))))) (fun _ h9 => h9) rfl (by decide +kernel) rfl rfl (Nat.le_of_ble_eq_true rfl) dX7_addPart_69 (fun H locs hP hD hS => ?_)
            have hP : va_P (dC, dI) vwCl [(k0, .inr (10, [.ref kN, .ref kA, .ref kO, .ref kK, .ref kV, .ref kG, .ref kP, .ref kC, .ref kD, .ref kE, .ref kF, .ref kX, .ref kY, .int 0, .ref kT, .ref kU, .int 1, .int 0, .int 0])), (kN, .inl (cI, 2, .inl (fun _ => 0))), (kA, .inl (cI, 2, .inl (fun _ => 0)))] _ := hP
            have hD : va_D A [(k0, .inr (10, [.ref kN, .ref kA, .ref kO, .ref kK, .ref kV, .ref kG, .ref kP, .ref kC, .ref kD, .ref kE, .ref kF, .ref kX, .ref kY, .int 0, .ref kT, .ref kU, .int 1, .int 0, .int 0])), (kN, .inl (cI, 2, .inl (fun _ => 0))), (kA, .inl (cI, 2, .inl (fun _ => 0)))] := hD
            refine lv_goto (tgt := 139) hx hb dX7_addPart_72 (by decide) ?_
            refine lv_aload_n hx hb dX7_addPart_139 rfl (lv_at hl 1 rfl) ?_
            refine va_get (D := (dC, dI)) (ci := 10) (v := .int 1) (C := RX7) (T := TX7) (N := 19) hx hb hts (fun w h => List.mem_cons_of_mem _ (List.mem_append_left _ (List.mem_append_right _ (h)))) hown hK hP 0 rfl rfl 16 (by decide) (hts (.fieldLink RX7 57 "NetcompareModel" "thrown" "I") (List.mem_cons_of_mem _ (List.mem_append_left _ (List.mem_append_left _ (List.mem_of_getElem? (i := 1) rfl))))) (fun _ h9 => h9) rfl dX7_addPart_140 ?_
            refine lv_if_le (tgt := 148) hx hb dX7_addPart_143 (by decide) (fun h9 => absurd h9 (by decide)) (fun _ => ?_)
            refine lv_iconst (v := (-1)) hx hb dX7_addPart_146 (by decide) ?_
            exact ret _ 1 _ _ _ _ _ _ (Or.inl (⟨rfl, Or.inr (Or.inl ((fun h9 => h9.elim (h1) ((fun h9 => h9.elim (h11) ((fun h9 => h9.elim (h21) (h31))))))))⟩)) (hP.sub [0] rfl) (hK.sub [] rfl) (hD.sub [0] (by decide) rfl) hS (Nat.le_of_ble_eq_true rfl) (Nat.le_of_ble_eq_true rfl) dX7_addPart_147
          · skip
            have hc32 := hc
            refine lv_if_eq (tgt := 67) hx hb dX7_addPart_35 (by decide) (fun _ => ?_) (fun h9 => absurd (by decide) h9)
            refine lv_aload_n hx hb dX7_addPart_67 rfl (lv_at hl 1 rfl) ?_
            refine lv_iconst (v := 1) hx hb dX7_addPart_68 (by decide) ?_
            refine va_put (D := (dC, dI)) (ci := 10) (v := .int 1) (ty := .int) (C := RX7) (T := TX7) (N := 19) hx hb hts (fun w h => List.mem_cons_of_mem _ (List.mem_append_left _ (List.mem_append_right _ (h)))) tyX7 tyX7_ok nmX7 hown hK hP hD hS 0 rfl rfl 16 (by decide) (hts (.fieldLink RX7 57 "NetcompareModel" "thrown" "I") (List.mem_cons_of_mem _ (List.mem_append_left _ (List.mem_append_left _ (List.mem_of_getElem? (i := 1) rfl))))) (fun _ h9 => h9) rfl (by decide +kernel) rfl rfl (Nat.le_of_ble_eq_true rfl) dX7_addPart_69 (fun H locs hP hD hS => ?_)
            have hP : va_P (dC, dI) vwCl [(k0, .inr (10, [.ref kN, .ref kA, .ref kO, .ref kK, .ref kV, .ref kG, .ref kP, .ref kC, .ref kD, .ref kE, .ref kF, .ref kX, .ref kY, .int 0, .ref kT, .ref kU, .int 1, .int 0, .int 0])), (kN, .inl (cI, 2, .inl (fun _ => 0))), (kA, .inl (cI, 2, .inl (fun _ => 0)))] _ := hP
            have hD : va_D A [(k0, .inr (10, [.ref kN, .ref kA, .ref kO, .ref kK, .ref kV, .ref kG, .ref kP, .ref kC, .ref kD, .ref kE, .ref kF, .ref kX, .ref kY, .int 0, .ref kT, .ref kU, .int 1, .int 0, .int 0])), (kN, .inl (cI, 2, .inl (fun _ => 0))), (kA, .inl (cI, 2, .inl (fun _ => 0)))] := hD
            refine lv_goto (tgt := 139) hx hb dX7_addPart_72 (by decide) ?_
            refine lv_aload_n hx hb dX7_addPart_139 rfl (lv_at hl 1 rfl) ?_
            refine va_get (D := (dC, dI)) (ci := 10) (v := .int 1) (C := RX7) (T := TX7) (N := 19) hx hb hts (fun w h => List.mem_cons_of_mem _ (List.mem_append_left _ (List.mem_append_right _ (h)))) hown hK hP 0 rfl rfl 16 (by decide) (hts (.fieldLink RX7 57 "NetcompareModel" "thrown" "I") (List.mem_cons_of_mem _ (List.mem_append_left _ (List.mem_append_left _ (List.mem_of_getElem? (i := 1) rfl))))) (fun _ h9 => h9) rfl dX7_addPart_140 ?_
            refine lv_if_le (tgt := 148) hx hb dX7_addPart_143 (by decide) (fun h9 => absurd h9 (by decide)) (fun _ => ?_)
            refine lv_iconst (v := (-1)) hx hb dX7_addPart_146 (by decide) ?_
            exact ret _ 1 _ _ _ _ _ _ (Or.inl (⟨rfl, Or.inl (hc32)⟩)) (hP.sub [0] rfl) (hK.sub [] rfl) (hD.sub [0] (by decide) rfl) hS (Nat.le_of_ble_eq_true rfl) (Nat.le_of_ble_eq_true rfl) dX7_addPart_147
        · skip
          refine lv_iconst (v := 1) hx hb dX7_addPart_24 (by decide) ?_
          refine lv_goto (tgt := 29) hx hb dX7_addPart_25 (by decide) ?_
          refine lv_istore (lv' := [(7, .int 1), (0, .ref k0), (1, .int p0), (2, .int p1), (3, .int p2), (4, .int p3), (5, .int p4), (6, .int p5)]) hx hb dX7_addPart_29 hl (Nat.le_of_ble_eq_true rfl) rfl (fun ls hl => ?_)
          refine lv_iload_n hx hb dX7_addPart_31 rfl (lv_at hl 2 rfl) ?_
          have hPc := hP.sub (ws' := []) [] rfl
          have hDc := hD.sub (ws' := []) [] (by decide) rfl
          have hKc := hK.sub (tys' := []) [] rfl
          have hFc := va_free (wc := []) hD hS hA [] rfl
          refine va_calli (va_runS (As := [.int p0]) (rest := []) ⟨hx, hb, hml, hown, hts⟩ (kX7_isCircuit l dC dI p0 s.heap.size) (va_cwS 1 hts gX7_addPart_X7_isCircuit rfl rfl rfl (by decide +kernel) ⟨Nat.le_of_ble_eq_true rfl, Nat.le_of_ble_eq_true rfl⟩) (fPreS hN hZ hS (fun q h => hFc q h) hPc hKc hDc) rfl rfl hl.1 rfl (lv_room (Nat.le_of_ble_eq_true rfl)) dX7_addPart_32 ⟨Nat.le_of_ble_eq_true rfl, Nat.le_of_ble_eq_true rfl⟩) hS (fun q _ h => hFc q h) hFc (fun r u t H1 locs ht hvm hw hB hz1 hk1 hS => ?_)
          obtain ⟨hP1, hK1, hD1⟩ := hB
          rw [ht] at hP1
          have hK1 := va_K.moved hvm.symm hK1
          obtain ⟨hP, hD⟩ := va_join (wr := [(k0, .inr (10, [.ref kN, .ref kA, .ref kO, .ref kK, .ref kV, .ref kG, .ref kP, .ref kC, .ref kD, .ref kE, .ref kF, .ref kX, .ref kY, .int 0, .ref kT, .ref kU, .int 0, .int 0, .int 0])), (kN, .inl (cI, 2, .inl (fun _ => 0))), (kA, .inl (cI, 2, .inl (fun _ => 0)))]) (w1 := []) hP hD [] [0, 1, 2] rfl rfl (by decide) (by decide) hk1 hFc hP1 hD1
          generalize H1 = H at hP hS ⊢
          have hP : va_P (dC, dI) vwCl [(k0, .inr (10, [.ref kN, .ref kA, .ref kO, .ref kK, .ref kV, .ref kG, .ref kP, .ref kC, .ref kD, .ref kE, .ref kF, .ref kX, .ref kY, .int 0, .ref kT, .ref kU, .int 0, .int 0, .int 0])), (kN, .inl (cI, 2, .inl (fun _ => 0))), (kA, .inl (cI, 2, .inl (fun _ => 0)))] _ := hP
          have hD : va_D A [(k0, .inr (10, [.ref kN, .ref kA, .ref kO, .ref kK, .ref kV, .ref kG, .ref kP, .ref kC, .ref kD, .ref kE, .ref kF, .ref kX, .ref kY, .int 0, .ref kT, .ref kU, .int 0, .int 0, .int 0])), (kN, .inl (cI, 2, .inl (fun _ => 0))), (kA, .inl (cI, 2, .inl (fun _ => 0)))] := hD
          rcases hw with ⟨rfl, hc | hc⟩ | ⟨rfl, hc⟩
          · skip
            subst hc
            have hP : va_P (dC, dI) vwCl [(k0, .inr (10, [.ref kN, .ref kA, .ref kO, .ref kK, .ref kV, .ref kG, .ref kP, .ref kC, .ref kD, .ref kE, .ref kF, .ref kX, .ref kY, .int 0, .ref kT, .ref kU, .int 0, .int 0, .int 0])), (kN, .inl (cI, 2, .inl (fun _ => 0))), (kA, .inl (cI, 2, .inl (fun _ => 0)))] _ := hP
            have hD : va_D A [(k0, .inr (10, [.ref kN, .ref kA, .ref kO, .ref kK, .ref kV, .ref kG, .ref kP, .ref kC, .ref kD, .ref kE, .ref kF, .ref kX, .ref kY, .int 0, .ref kT, .ref kU, .int 0, .int 0, .int 0])), (kN, .inl (cI, 2, .inl (fun _ => 0))), (kA, .inl (cI, 2, .inl (fun _ => 0)))] := hD
            refine lv_if_eq (tgt := 67) hx hb dX7_addPart_35 (by decide) (fun h9 => absurd h9 (by decide)) (fun _ => ?_)
            refine lv_iload hx hb dX7_addPart_38 (lv_at hl 0 rfl) ?_
            refine lv_if_eq (tgt := 67) hx hb dX7_addPart_40 (by decide) (fun h9 => absurd h9 (by decide)) (fun _ => ?_)
            refine lv_iload_n hx hb dX7_addPart_43 rfl (lv_at hl 4 rfl) ?_
            refine lv_i2l (v := p2.toInt64) hx hb dX7_addPart_44 rfl ?_
            refine lv_lconst (v := 1) hx hb dX7_addPart_45 (by decide) ?_
            refine lv_ldc2 (v := 999) hx hb hown (hts (.constantLong RX7 92 (999)) (List.mem_cons_of_mem _ (List.mem_append_left _ (List.mem_append_left _ (List.mem_of_getElem? (i := 0) rfl))))) dX7_addPart_46 ?_
            have hPc := hP.sub (ws' := []) [] rfl
            have hDc := hD.sub (ws' := []) [] (by decide) rfl
            have hKc := hK.sub (tys' := []) [] rfl
            have hFc := va_free (wc := []) hD hS hA [] rfl
            refine va_calli (va_runS (As := [.long p2.toInt64, .long 1, .long 999]) (rest := []) ⟨hx, hb, hml, hown, hts⟩ (kX7_in l dC dI p2.toInt64 1 999 H.size) (va_cwS 3 hts gX7_addPart_X7_in rfl rfl rfl (by decide +kernel) ⟨Nat.le_of_ble_eq_true rfl, Nat.le_of_ble_eq_true rfl⟩) (fPreS hN hZ hS (fun q h => hFc q h) hPc hKc hDc) rfl rfl hl.1 rfl (lv_room (Nat.le_of_ble_eq_true rfl)) dX7_addPart_49 ⟨Nat.le_of_ble_eq_true rfl, Nat.le_of_ble_eq_true rfl⟩) hS (fun q _ h => hFc q h) hFc (fun r u t H1 locs ht hvm hw hB hz1 hk1 hS => ?_)
            obtain ⟨hP1, hK1, hD1⟩ := hB
            rw [ht] at hP1
            have hK1 := va_K.moved hvm.symm hK1
            obtain ⟨hP, hD⟩ := va_join (wr := [(k0, .inr (10, [.ref kN, .ref kA, .ref kO, .ref kK, .ref kV, .ref kG, .ref kP, .ref kC, .ref kD, .ref kE, .ref kF, .ref kX, .ref kY, .int 0, .ref kT, .ref kU, .int 0, .int 0, .int 0])), (kN, .inl (cI, 2, .inl (fun _ => 0))), (kA, .inl (cI, 2, .inl (fun _ => 0)))]) (w1 := []) hP hD [] [0, 1, 2] rfl rfl (by decide) (by decide) hk1 hFc hP1 hD1
            generalize H1 = H at hP hS ⊢
            have hP : va_P (dC, dI) vwCl [(k0, .inr (10, [.ref kN, .ref kA, .ref kO, .ref kK, .ref kV, .ref kG, .ref kP, .ref kC, .ref kD, .ref kE, .ref kF, .ref kX, .ref kY, .int 0, .ref kT, .ref kU, .int 0, .int 0, .int 0])), (kN, .inl (cI, 2, .inl (fun _ => 0))), (kA, .inl (cI, 2, .inl (fun _ => 0)))] _ := hP
            have hD : va_D A [(k0, .inr (10, [.ref kN, .ref kA, .ref kO, .ref kK, .ref kV, .ref kG, .ref kP, .ref kC, .ref kD, .ref kE, .ref kF, .ref kX, .ref kY, .int 0, .ref kT, .ref kU, .int 0, .int 0, .int 0])), (kN, .inl (cI, 2, .inl (fun _ => 0))), (kA, .inl (cI, 2, .inl (fun _ => 0)))] := hD
            rcases hw with ⟨rfl, hi9⟩ | ⟨rfl, hi9⟩
            · skip
              have hi33 : ((¬ (p2 < 1)) ∧ (¬ (999 < p2))) := (fIn p2 1 999 1 999 (by decide) (by decide)).mp hi9
              refine lv_if_eq (tgt := 67) hx hb dX7_addPart_52 (by decide) (fun h9 => absurd h9 (by decide)) (fun _ => ?_)
              refine lv_iload_n hx hb dX7_addPart_55 rfl (lv_at hl 3 rfl) ?_
              refine lv_bipush (v := 116) hx hb dX7_addPart_56 (by decide) ?_
              refine lv_icmp_eq (tgt := 75) hx hb dX7_addPart_58 (by decide) (fun _ => ?_) (fun h9 => absurd (h31) h9)
              refine lv_aload_n hx hb dX7_addPart_75 rfl (lv_at hl 1 rfl) ?_
              refine lv_iload_n hx hb dX7_addPart_76 rfl (lv_at hl 2 rfl) ?_
              refine lv_iload hx hb dX7_addPart_77 (lv_at hl 5 rfl) ?_
              have hPc := hP.sub (ws' := [(k0, .inr (10, [.ref kN, .ref kA, .ref kO, .ref kK, .ref kV, .ref kG, .ref kP, .ref kC, .ref kD, .ref kE, .ref kF, .ref kX, .ref kY, .int 0, .ref kT, .ref kU, .int 0, .int 0, .int 0])), (kN, .inl (cI, 2, .inl (fun _ => 0)))]) [0, 1] rfl
              have hDc := hD.sub (ws' := [(k0, .inr (10, [.ref kN, .ref kA, .ref kO, .ref kK, .ref kV, .ref kG, .ref kP, .ref kC, .ref kD, .ref kE, .ref kF, .ref kX, .ref kY, .int 0, .ref kT, .ref kU, .int 0, .int 0, .int 0])), (kN, .inl (cI, 2, .inl (fun _ => 0)))]) [0, 1] (by decide) rfl
              have hKc := hK.sub (tys' := [(cI, .int)]) [0] rfl
              have hFc := va_free (wc := [(k0, .inr (10, [.ref kN, .ref kA, .ref kO, .ref kK, .ref kV, .ref kG, .ref kP, .ref kC, .ref kD, .ref kE, .ref kF, .ref kX, .ref kY, .int 0, .ref kT, .ref kU, .int 0, .int 0, .int 0])), (kN, .inl (cI, 2, .inl (fun _ => 0)))]) hD hS hA [0, 1] rfl
              refine va_calli (va_runV (As := [.int 0, .int p3]) (rest := []) ⟨hx, hb, hml, hown, hts⟩ (kX7_isNet0 l dC dI k0 kN kA kO kK kV kG kP kC kD kE kF kX kY kT kU cI p3 H.size) (cwV 2 hts gX7_addPart_X7_isNet rfl rfl rfl (by decide +kernel) ⟨Nat.le_of_ble_eq_true rfl, Nat.le_of_ble_eq_true rfl⟩) (fPreV hN hZ hS (fun q h => hFc q h) hPc hKc hDc (ci := 10) (q0 := 0) rfl rfl) rfl rfl hl.1 rfl (lv_room (Nat.le_of_ble_eq_true rfl)) dX7_addPart_79 ⟨Nat.le_of_ble_eq_true rfl, Nat.le_of_ble_eq_true rfl⟩) hS (fun q _ h => hFc q h) hFc (fun r u t H1 locs ht hvm hw hB hz1 hk1 hS => ?_)
              obtain ⟨hP1, hK1, hD1⟩ := hB
              rw [ht] at hP1
              have hK1 := va_K.moved hvm.symm hK1
              obtain ⟨hP, hD⟩ := va_join (wr := [(kA, .inl (cI, 2, .inl (fun _ => 0)))]) (w1 := [(k0, .inr (10, [.ref kN, .ref kA, .ref kO, .ref kK, .ref kV, .ref kG, .ref kP, .ref kC, .ref kD, .ref kE, .ref kF, .ref kX, .ref kY, .int 0, .ref kT, .ref kU, .int 0, .int 0, .int 0])), (kN, .inl (cI, 2, .inl (fun _ => 0)))]) hP hD [0, 1] [2] rfl rfl (by decide) (by decide) hk1 hFc hP1 hD1
              generalize H1 = H at hP hS ⊢
              have hP : va_P (dC, dI) vwCl [(kA, .inl (cI, 2, .inl (fun _ => 0))), (k0, .inr (10, [.ref kN, .ref kA, .ref kO, .ref kK, .ref kV, .ref kG, .ref kP, .ref kC, .ref kD, .ref kE, .ref kF, .ref kX, .ref kY, .int 0, .ref kT, .ref kU, .int 0, .int 0, .int 0])), (kN, .inl (cI, 2, .inl (fun _ => 0)))] _ := hP
              have hD : va_D A [(kA, .inl (cI, 2, .inl (fun _ => 0))), (k0, .inr (10, [.ref kN, .ref kA, .ref kO, .ref kK, .ref kV, .ref kG, .ref kP, .ref kC, .ref kD, .ref kE, .ref kF, .ref kX, .ref kY, .int 0, .ref kT, .ref kU, .int 0, .int 0, .int 0])), (kN, .inl (cI, 2, .inl (fun _ => 0)))] := hD
              subst hw
              refine lv_if_eq (tgt := 111) hx hb dX7_addPart_82 (by decide) (fun _ => ?_) (fun h9 => absurd (by decide) h9)
              refine lv_aload_n hx hb dX7_addPart_111 rfl (lv_at hl 1 rfl) ?_
              refine lv_iconst (v := 2) hx hb dX7_addPart_112 (by decide) ?_
              refine va_put (D := (dC, dI)) (ci := 10) (v := .int 2) (ty := .int) (C := RX7) (T := TX7) (N := 19) hx hb hts (fun w h => List.mem_cons_of_mem _ (List.mem_append_left _ (List.mem_append_right _ (h)))) tyX7 tyX7_ok nmX7 hown hK hP hD hS 1 rfl rfl 16 (by decide) (hts (.fieldLink RX7 57 "NetcompareModel" "thrown" "I") (List.mem_cons_of_mem _ (List.mem_append_left _ (List.mem_append_left _ (List.mem_of_getElem? (i := 1) rfl))))) (fun _ h9 => h9) rfl (by decide +kernel) rfl rfl (Nat.le_of_ble_eq_true rfl) dX7_addPart_113 (fun H locs hP hD hS => ?_)
              have hP : va_P (dC, dI) vwCl [(kA, .inl (cI, 2, .inl (fun _ => 0))), (k0, .inr (10, [.ref kN, .ref kA, .ref kO, .ref kK, .ref kV, .ref kG, .ref kP, .ref kC, .ref kD, .ref kE, .ref kF, .ref kX, .ref kY, .int 0, .ref kT, .ref kU, .int 2, .int 0, .int 0])), (kN, .inl (cI, 2, .inl (fun _ => 0)))] _ := hP
              have hD : va_D A [(kA, .inl (cI, 2, .inl (fun _ => 0))), (k0, .inr (10, [.ref kN, .ref kA, .ref kO, .ref kK, .ref kV, .ref kG, .ref kP, .ref kC, .ref kD, .ref kE, .ref kF, .ref kX, .ref kY, .int 0, .ref kT, .ref kU, .int 2, .int 0, .int 0])), (kN, .inl (cI, 2, .inl (fun _ => 0)))] := hD
              refine lv_goto (tgt := 139) hx hb dX7_addPart_116 (by decide) ?_
              refine lv_aload_n hx hb dX7_addPart_139 rfl (lv_at hl 1 rfl) ?_
              refine va_get (D := (dC, dI)) (ci := 10) (v := .int 2) (C := RX7) (T := TX7) (N := 19) hx hb hts (fun w h => List.mem_cons_of_mem _ (List.mem_append_left _ (List.mem_append_right _ (h)))) hown hK hP 1 rfl rfl 16 (by decide) (hts (.fieldLink RX7 57 "NetcompareModel" "thrown" "I") (List.mem_cons_of_mem _ (List.mem_append_left _ (List.mem_append_left _ (List.mem_of_getElem? (i := 1) rfl))))) (fun _ h9 => h9) rfl dX7_addPart_140 ?_
              refine lv_if_le (tgt := 148) hx hb dX7_addPart_143 (by decide) (fun h9 => absurd h9 (by decide)) (fun _ => ?_)
              refine lv_iconst (v := (-1)) hx hb dX7_addPart_146 (by decide) ?_
              exact ret _ 2 _ _ _ _ _ _ (Or.inr (⟨rfl, (fun h9 => h9.elim ((fun h9 => h9 (Or.inl (rfl)))) ((fun h9 => h9.elim ((fun h9 => h9 (Or.inr (Or.inr (Or.inr (h31)))))) ((fun h9 => h9.elim ((fun h9 => h9 (hi33))) ((fun h9 => ((fun h9 => h9 (h31))) h9.1)))))))⟩)) (hP.sub [1] rfl) (hK.sub [] rfl) (hD.sub [1] (by decide) rfl) hS (Nat.le_of_ble_eq_true rfl) (Nat.le_of_ble_eq_true rfl) dX7_addPart_147
            · skip
              have hi34 : ¬ ((¬ (p2 < 1)) ∧ (¬ (999 < p2))) := fun q => hi9 ((fIn p2 1 999 1 999 (by decide) (by decide)).mpr q)
              refine lv_if_eq (tgt := 67) hx hb dX7_addPart_52 (by decide) (fun _ => ?_) (fun h9 => absurd (by decide) h9)
              refine lv_aload_n hx hb dX7_addPart_67 rfl (lv_at hl 1 rfl) ?_
              refine lv_iconst (v := 1) hx hb dX7_addPart_68 (by decide) ?_
              refine va_put (D := (dC, dI)) (ci := 10) (v := .int 1) (ty := .int) (C := RX7) (T := TX7) (N := 19) hx hb hts (fun w h => List.mem_cons_of_mem _ (List.mem_append_left _ (List.mem_append_right _ (h)))) tyX7 tyX7_ok nmX7 hown hK hP hD hS 0 rfl rfl 16 (by decide) (hts (.fieldLink RX7 57 "NetcompareModel" "thrown" "I") (List.mem_cons_of_mem _ (List.mem_append_left _ (List.mem_append_left _ (List.mem_of_getElem? (i := 1) rfl))))) (fun _ h9 => h9) rfl (by decide +kernel) rfl rfl (Nat.le_of_ble_eq_true rfl) dX7_addPart_69 (fun H locs hP hD hS => ?_)
              have hP : va_P (dC, dI) vwCl [(k0, .inr (10, [.ref kN, .ref kA, .ref kO, .ref kK, .ref kV, .ref kG, .ref kP, .ref kC, .ref kD, .ref kE, .ref kF, .ref kX, .ref kY, .int 0, .ref kT, .ref kU, .int 1, .int 0, .int 0])), (kN, .inl (cI, 2, .inl (fun _ => 0))), (kA, .inl (cI, 2, .inl (fun _ => 0)))] _ := hP
              have hD : va_D A [(k0, .inr (10, [.ref kN, .ref kA, .ref kO, .ref kK, .ref kV, .ref kG, .ref kP, .ref kC, .ref kD, .ref kE, .ref kF, .ref kX, .ref kY, .int 0, .ref kT, .ref kU, .int 1, .int 0, .int 0])), (kN, .inl (cI, 2, .inl (fun _ => 0))), (kA, .inl (cI, 2, .inl (fun _ => 0)))] := hD
              refine lv_goto (tgt := 139) hx hb dX7_addPart_72 (by decide) ?_
              refine lv_aload_n hx hb dX7_addPart_139 rfl (lv_at hl 1 rfl) ?_
              refine va_get (D := (dC, dI)) (ci := 10) (v := .int 1) (C := RX7) (T := TX7) (N := 19) hx hb hts (fun w h => List.mem_cons_of_mem _ (List.mem_append_left _ (List.mem_append_right _ (h)))) hown hK hP 0 rfl rfl 16 (by decide) (hts (.fieldLink RX7 57 "NetcompareModel" "thrown" "I") (List.mem_cons_of_mem _ (List.mem_append_left _ (List.mem_append_left _ (List.mem_of_getElem? (i := 1) rfl))))) (fun _ h9 => h9) rfl dX7_addPart_140 ?_
              refine lv_if_le (tgt := 148) hx hb dX7_addPart_143 (by decide) (fun h9 => absurd h9 (by decide)) (fun _ => ?_)
              refine lv_iconst (v := (-1)) hx hb dX7_addPart_146 (by decide) ?_
              exact ret _ 1 _ _ _ _ _ _ (Or.inl (⟨rfl, Or.inr (Or.inr (Or.inl (hi34)))⟩)) (hP.sub [0] rfl) (hK.sub [] rfl) (hD.sub [0] (by decide) rfl) hS (Nat.le_of_ble_eq_true rfl) (Nat.le_of_ble_eq_true rfl) dX7_addPart_147
          · skip
            subst hc
            have hP : va_P (dC, dI) vwCl [(k0, .inr (10, [.ref kN, .ref kA, .ref kO, .ref kK, .ref kV, .ref kG, .ref kP, .ref kC, .ref kD, .ref kE, .ref kF, .ref kX, .ref kY, .int 0, .ref kT, .ref kU, .int 0, .int 0, .int 0])), (kN, .inl (cI, 2, .inl (fun _ => 0))), (kA, .inl (cI, 2, .inl (fun _ => 0)))] _ := hP
            have hD : va_D A [(k0, .inr (10, [.ref kN, .ref kA, .ref kO, .ref kK, .ref kV, .ref kG, .ref kP, .ref kC, .ref kD, .ref kE, .ref kF, .ref kX, .ref kY, .int 0, .ref kT, .ref kU, .int 0, .int 0, .int 0])), (kN, .inl (cI, 2, .inl (fun _ => 0))), (kA, .inl (cI, 2, .inl (fun _ => 0)))] := hD
            refine lv_if_eq (tgt := 67) hx hb dX7_addPart_35 (by decide) (fun h9 => absurd h9 (by decide)) (fun _ => ?_)
            refine lv_iload hx hb dX7_addPart_38 (lv_at hl 0 rfl) ?_
            refine lv_if_eq (tgt := 67) hx hb dX7_addPart_40 (by decide) (fun h9 => absurd h9 (by decide)) (fun _ => ?_)
            refine lv_iload_n hx hb dX7_addPart_43 rfl (lv_at hl 4 rfl) ?_
            refine lv_i2l (v := p2.toInt64) hx hb dX7_addPart_44 rfl ?_
            refine lv_lconst (v := 1) hx hb dX7_addPart_45 (by decide) ?_
            refine lv_ldc2 (v := 999) hx hb hown (hts (.constantLong RX7 92 (999)) (List.mem_cons_of_mem _ (List.mem_append_left _ (List.mem_append_left _ (List.mem_of_getElem? (i := 0) rfl))))) dX7_addPart_46 ?_
            have hPc := hP.sub (ws' := []) [] rfl
            have hDc := hD.sub (ws' := []) [] (by decide) rfl
            have hKc := hK.sub (tys' := []) [] rfl
            have hFc := va_free (wc := []) hD hS hA [] rfl
            refine va_calli (va_runS (As := [.long p2.toInt64, .long 1, .long 999]) (rest := []) ⟨hx, hb, hml, hown, hts⟩ (kX7_in l dC dI p2.toInt64 1 999 H.size) (va_cwS 3 hts gX7_addPart_X7_in rfl rfl rfl (by decide +kernel) ⟨Nat.le_of_ble_eq_true rfl, Nat.le_of_ble_eq_true rfl⟩) (fPreS hN hZ hS (fun q h => hFc q h) hPc hKc hDc) rfl rfl hl.1 rfl (lv_room (Nat.le_of_ble_eq_true rfl)) dX7_addPart_49 ⟨Nat.le_of_ble_eq_true rfl, Nat.le_of_ble_eq_true rfl⟩) hS (fun q _ h => hFc q h) hFc (fun r u t H1 locs ht hvm hw hB hz1 hk1 hS => ?_)
            obtain ⟨hP1, hK1, hD1⟩ := hB
            rw [ht] at hP1
            have hK1 := va_K.moved hvm.symm hK1
            obtain ⟨hP, hD⟩ := va_join (wr := [(k0, .inr (10, [.ref kN, .ref kA, .ref kO, .ref kK, .ref kV, .ref kG, .ref kP, .ref kC, .ref kD, .ref kE, .ref kF, .ref kX, .ref kY, .int 0, .ref kT, .ref kU, .int 0, .int 0, .int 0])), (kN, .inl (cI, 2, .inl (fun _ => 0))), (kA, .inl (cI, 2, .inl (fun _ => 0)))]) (w1 := []) hP hD [] [0, 1, 2] rfl rfl (by decide) (by decide) hk1 hFc hP1 hD1
            generalize H1 = H at hP hS ⊢
            have hP : va_P (dC, dI) vwCl [(k0, .inr (10, [.ref kN, .ref kA, .ref kO, .ref kK, .ref kV, .ref kG, .ref kP, .ref kC, .ref kD, .ref kE, .ref kF, .ref kX, .ref kY, .int 0, .ref kT, .ref kU, .int 0, .int 0, .int 0])), (kN, .inl (cI, 2, .inl (fun _ => 0))), (kA, .inl (cI, 2, .inl (fun _ => 0)))] _ := hP
            have hD : va_D A [(k0, .inr (10, [.ref kN, .ref kA, .ref kO, .ref kK, .ref kV, .ref kG, .ref kP, .ref kC, .ref kD, .ref kE, .ref kF, .ref kX, .ref kY, .int 0, .ref kT, .ref kU, .int 0, .int 0, .int 0])), (kN, .inl (cI, 2, .inl (fun _ => 0))), (kA, .inl (cI, 2, .inl (fun _ => 0)))] := hD
            rcases hw with ⟨rfl, hi9⟩ | ⟨rfl, hi9⟩
            · skip
              have hi35 : ((¬ (p2 < 1)) ∧ (¬ (999 < p2))) := (fIn p2 1 999 1 999 (by decide) (by decide)).mp hi9
              refine lv_if_eq (tgt := 67) hx hb dX7_addPart_52 (by decide) (fun h9 => absurd h9 (by decide)) (fun _ => ?_)
              refine lv_iload_n hx hb dX7_addPart_55 rfl (lv_at hl 3 rfl) ?_
              refine lv_bipush (v := 116) hx hb dX7_addPart_56 (by decide) ?_
              refine lv_icmp_eq (tgt := 75) hx hb dX7_addPart_58 (by decide) (fun _ => ?_) (fun h9 => absurd (h31) h9)
              refine lv_aload_n hx hb dX7_addPart_75 rfl (lv_at hl 1 rfl) ?_
              refine lv_iload_n hx hb dX7_addPart_76 rfl (lv_at hl 2 rfl) ?_
              refine lv_iload hx hb dX7_addPart_77 (lv_at hl 5 rfl) ?_
              have hPc := hP.sub (ws' := [(k0, .inr (10, [.ref kN, .ref kA, .ref kO, .ref kK, .ref kV, .ref kG, .ref kP, .ref kC, .ref kD, .ref kE, .ref kF, .ref kX, .ref kY, .int 0, .ref kT, .ref kU, .int 0, .int 0, .int 0])), (kN, .inl (cI, 2, .inl (fun _ => 0)))]) [0, 1] rfl
              have hDc := hD.sub (ws' := [(k0, .inr (10, [.ref kN, .ref kA, .ref kO, .ref kK, .ref kV, .ref kG, .ref kP, .ref kC, .ref kD, .ref kE, .ref kF, .ref kX, .ref kY, .int 0, .ref kT, .ref kU, .int 0, .int 0, .int 0])), (kN, .inl (cI, 2, .inl (fun _ => 0)))]) [0, 1] (by decide) rfl
              have hKc := hK.sub (tys' := [(cI, .int)]) [0] rfl
              have hFc := va_free (wc := [(k0, .inr (10, [.ref kN, .ref kA, .ref kO, .ref kK, .ref kV, .ref kG, .ref kP, .ref kC, .ref kD, .ref kE, .ref kF, .ref kX, .ref kY, .int 0, .ref kT, .ref kU, .int 0, .int 0, .int 0])), (kN, .inl (cI, 2, .inl (fun _ => 0)))]) hD hS hA [0, 1] rfl
              refine va_calli (va_runV (As := [.int 1, .int p3]) (rest := []) ⟨hx, hb, hml, hown, hts⟩ (kX7_isNet1 l dC dI k0 kN kA kO kK kV kG kP kC kD kE kF kX kY kT kU cI p3 H.size) (cwV 2 hts gX7_addPart_X7_isNet rfl rfl rfl (by decide +kernel) ⟨Nat.le_of_ble_eq_true rfl, Nat.le_of_ble_eq_true rfl⟩) (fPreV hN hZ hS (fun q h => hFc q h) hPc hKc hDc (ci := 10) (q0 := 0) rfl rfl) rfl rfl hl.1 rfl (lv_room (Nat.le_of_ble_eq_true rfl)) dX7_addPart_79 ⟨Nat.le_of_ble_eq_true rfl, Nat.le_of_ble_eq_true rfl⟩) hS (fun q _ h => hFc q h) hFc (fun r u t H1 locs ht hvm hw hB hz1 hk1 hS => ?_)
              obtain ⟨hP1, hK1, hD1⟩ := hB
              rw [ht] at hP1
              have hK1 := va_K.moved hvm.symm hK1
              obtain ⟨hP, hD⟩ := va_join (wr := [(kA, .inl (cI, 2, .inl (fun _ => 0)))]) (w1 := [(k0, .inr (10, [.ref kN, .ref kA, .ref kO, .ref kK, .ref kV, .ref kG, .ref kP, .ref kC, .ref kD, .ref kE, .ref kF, .ref kX, .ref kY, .int 0, .ref kT, .ref kU, .int 0, .int 0, .int 0])), (kN, .inl (cI, 2, .inl (fun _ => 0)))]) hP hD [0, 1] [2] rfl rfl (by decide) (by decide) hk1 hFc hP1 hD1
              generalize H1 = H at hP hS ⊢
              have hP : va_P (dC, dI) vwCl [(kA, .inl (cI, 2, .inl (fun _ => 0))), (k0, .inr (10, [.ref kN, .ref kA, .ref kO, .ref kK, .ref kV, .ref kG, .ref kP, .ref kC, .ref kD, .ref kE, .ref kF, .ref kX, .ref kY, .int 0, .ref kT, .ref kU, .int 0, .int 0, .int 0])), (kN, .inl (cI, 2, .inl (fun _ => 0)))] _ := hP
              have hD : va_D A [(kA, .inl (cI, 2, .inl (fun _ => 0))), (k0, .inr (10, [.ref kN, .ref kA, .ref kO, .ref kK, .ref kV, .ref kG, .ref kP, .ref kC, .ref kD, .ref kE, .ref kF, .ref kX, .ref kY, .int 0, .ref kT, .ref kU, .int 0, .int 0, .int 0])), (kN, .inl (cI, 2, .inl (fun _ => 0)))] := hD
              subst hw
              refine lv_if_eq (tgt := 111) hx hb dX7_addPart_82 (by decide) (fun _ => ?_) (fun h9 => absurd (by decide) h9)
              refine lv_aload_n hx hb dX7_addPart_111 rfl (lv_at hl 1 rfl) ?_
              refine lv_iconst (v := 2) hx hb dX7_addPart_112 (by decide) ?_
              refine va_put (D := (dC, dI)) (ci := 10) (v := .int 2) (ty := .int) (C := RX7) (T := TX7) (N := 19) hx hb hts (fun w h => List.mem_cons_of_mem _ (List.mem_append_left _ (List.mem_append_right _ (h)))) tyX7 tyX7_ok nmX7 hown hK hP hD hS 1 rfl rfl 16 (by decide) (hts (.fieldLink RX7 57 "NetcompareModel" "thrown" "I") (List.mem_cons_of_mem _ (List.mem_append_left _ (List.mem_append_left _ (List.mem_of_getElem? (i := 1) rfl))))) (fun _ h9 => h9) rfl (by decide +kernel) rfl rfl (Nat.le_of_ble_eq_true rfl) dX7_addPart_113 (fun H locs hP hD hS => ?_)
              have hP : va_P (dC, dI) vwCl [(kA, .inl (cI, 2, .inl (fun _ => 0))), (k0, .inr (10, [.ref kN, .ref kA, .ref kO, .ref kK, .ref kV, .ref kG, .ref kP, .ref kC, .ref kD, .ref kE, .ref kF, .ref kX, .ref kY, .int 0, .ref kT, .ref kU, .int 2, .int 0, .int 0])), (kN, .inl (cI, 2, .inl (fun _ => 0)))] _ := hP
              have hD : va_D A [(kA, .inl (cI, 2, .inl (fun _ => 0))), (k0, .inr (10, [.ref kN, .ref kA, .ref kO, .ref kK, .ref kV, .ref kG, .ref kP, .ref kC, .ref kD, .ref kE, .ref kF, .ref kX, .ref kY, .int 0, .ref kT, .ref kU, .int 2, .int 0, .int 0])), (kN, .inl (cI, 2, .inl (fun _ => 0)))] := hD
              refine lv_goto (tgt := 139) hx hb dX7_addPart_116 (by decide) ?_
              refine lv_aload_n hx hb dX7_addPart_139 rfl (lv_at hl 1 rfl) ?_
              refine va_get (D := (dC, dI)) (ci := 10) (v := .int 2) (C := RX7) (T := TX7) (N := 19) hx hb hts (fun w h => List.mem_cons_of_mem _ (List.mem_append_left _ (List.mem_append_right _ (h)))) hown hK hP 1 rfl rfl 16 (by decide) (hts (.fieldLink RX7 57 "NetcompareModel" "thrown" "I") (List.mem_cons_of_mem _ (List.mem_append_left _ (List.mem_append_left _ (List.mem_of_getElem? (i := 1) rfl))))) (fun _ h9 => h9) rfl dX7_addPart_140 ?_
              refine lv_if_le (tgt := 148) hx hb dX7_addPart_143 (by decide) (fun h9 => absurd h9 (by decide)) (fun _ => ?_)
              refine lv_iconst (v := (-1)) hx hb dX7_addPart_146 (by decide) ?_
              exact ret _ 2 _ _ _ _ _ _ (Or.inr (⟨rfl, (fun h9 => h9.elim ((fun h9 => h9 (Or.inr (rfl)))) ((fun h9 => h9.elim ((fun h9 => h9 (Or.inr (Or.inr (Or.inr (h31)))))) ((fun h9 => h9.elim ((fun h9 => h9 (hi35))) ((fun h9 => ((fun h9 => h9 (h31))) h9.1)))))))⟩)) (hP.sub [1] rfl) (hK.sub [] rfl) (hD.sub [1] (by decide) rfl) hS (Nat.le_of_ble_eq_true rfl) (Nat.le_of_ble_eq_true rfl) dX7_addPart_147
            · skip
              have hi36 : ¬ ((¬ (p2 < 1)) ∧ (¬ (999 < p2))) := fun q => hi9 ((fIn p2 1 999 1 999 (by decide) (by decide)).mpr q)
              refine lv_if_eq (tgt := 67) hx hb dX7_addPart_52 (by decide) (fun _ => ?_) (fun h9 => absurd (by decide) h9)
              refine lv_aload_n hx hb dX7_addPart_67 rfl (lv_at hl 1 rfl) ?_
              refine lv_iconst (v := 1) hx hb dX7_addPart_68 (by decide) ?_
              refine va_put (D := (dC, dI)) (ci := 10) (v := .int 1) (ty := .int) (C := RX7) (T := TX7) (N := 19) hx hb hts (fun w h => List.mem_cons_of_mem _ (List.mem_append_left _ (List.mem_append_right _ (h)))) tyX7 tyX7_ok nmX7 hown hK hP hD hS 0 rfl rfl 16 (by decide) (hts (.fieldLink RX7 57 "NetcompareModel" "thrown" "I") (List.mem_cons_of_mem _ (List.mem_append_left _ (List.mem_append_left _ (List.mem_of_getElem? (i := 1) rfl))))) (fun _ h9 => h9) rfl (by decide +kernel) rfl rfl (Nat.le_of_ble_eq_true rfl) dX7_addPart_69 (fun H locs hP hD hS => ?_)
              have hP : va_P (dC, dI) vwCl [(k0, .inr (10, [.ref kN, .ref kA, .ref kO, .ref kK, .ref kV, .ref kG, .ref kP, .ref kC, .ref kD, .ref kE, .ref kF, .ref kX, .ref kY, .int 0, .ref kT, .ref kU, .int 1, .int 0, .int 0])), (kN, .inl (cI, 2, .inl (fun _ => 0))), (kA, .inl (cI, 2, .inl (fun _ => 0)))] _ := hP
              have hD : va_D A [(k0, .inr (10, [.ref kN, .ref kA, .ref kO, .ref kK, .ref kV, .ref kG, .ref kP, .ref kC, .ref kD, .ref kE, .ref kF, .ref kX, .ref kY, .int 0, .ref kT, .ref kU, .int 1, .int 0, .int 0])), (kN, .inl (cI, 2, .inl (fun _ => 0))), (kA, .inl (cI, 2, .inl (fun _ => 0)))] := hD
              refine lv_goto (tgt := 139) hx hb dX7_addPart_72 (by decide) ?_
              refine lv_aload_n hx hb dX7_addPart_139 rfl (lv_at hl 1 rfl) ?_
              refine va_get (D := (dC, dI)) (ci := 10) (v := .int 1) (C := RX7) (T := TX7) (N := 19) hx hb hts (fun w h => List.mem_cons_of_mem _ (List.mem_append_left _ (List.mem_append_right _ (h)))) hown hK hP 0 rfl rfl 16 (by decide) (hts (.fieldLink RX7 57 "NetcompareModel" "thrown" "I") (List.mem_cons_of_mem _ (List.mem_append_left _ (List.mem_append_left _ (List.mem_of_getElem? (i := 1) rfl))))) (fun _ h9 => h9) rfl dX7_addPart_140 ?_
              refine lv_if_le (tgt := 148) hx hb dX7_addPart_143 (by decide) (fun h9 => absurd h9 (by decide)) (fun _ => ?_)
              refine lv_iconst (v := (-1)) hx hb dX7_addPart_146 (by decide) ?_
              exact ret _ 1 _ _ _ _ _ _ (Or.inl (⟨rfl, Or.inr (Or.inr (Or.inl (hi36)))⟩)) (hP.sub [0] rfl) (hK.sub [] rfl) (hD.sub [0] (by decide) rfl) hS (Nat.le_of_ble_eq_true rfl) (Nat.le_of_ble_eq_true rfl) dX7_addPart_147
          · skip
            have hc37 := hc
            refine lv_if_eq (tgt := 67) hx hb dX7_addPart_35 (by decide) (fun _ => ?_) (fun h9 => absurd (by decide) h9)
            refine lv_aload_n hx hb dX7_addPart_67 rfl (lv_at hl 1 rfl) ?_
            refine lv_iconst (v := 1) hx hb dX7_addPart_68 (by decide) ?_
            refine va_put (D := (dC, dI)) (ci := 10) (v := .int 1) (ty := .int) (C := RX7) (T := TX7) (N := 19) hx hb hts (fun w h => List.mem_cons_of_mem _ (List.mem_append_left _ (List.mem_append_right _ (h)))) tyX7 tyX7_ok nmX7 hown hK hP hD hS 0 rfl rfl 16 (by decide) (hts (.fieldLink RX7 57 "NetcompareModel" "thrown" "I") (List.mem_cons_of_mem _ (List.mem_append_left _ (List.mem_append_left _ (List.mem_of_getElem? (i := 1) rfl))))) (fun _ h9 => h9) rfl (by decide +kernel) rfl rfl (Nat.le_of_ble_eq_true rfl) dX7_addPart_69 (fun H locs hP hD hS => ?_)
            have hP : va_P (dC, dI) vwCl [(k0, .inr (10, [.ref kN, .ref kA, .ref kO, .ref kK, .ref kV, .ref kG, .ref kP, .ref kC, .ref kD, .ref kE, .ref kF, .ref kX, .ref kY, .int 0, .ref kT, .ref kU, .int 1, .int 0, .int 0])), (kN, .inl (cI, 2, .inl (fun _ => 0))), (kA, .inl (cI, 2, .inl (fun _ => 0)))] _ := hP
            have hD : va_D A [(k0, .inr (10, [.ref kN, .ref kA, .ref kO, .ref kK, .ref kV, .ref kG, .ref kP, .ref kC, .ref kD, .ref kE, .ref kF, .ref kX, .ref kY, .int 0, .ref kT, .ref kU, .int 1, .int 0, .int 0])), (kN, .inl (cI, 2, .inl (fun _ => 0))), (kA, .inl (cI, 2, .inl (fun _ => 0)))] := hD
            refine lv_goto (tgt := 139) hx hb dX7_addPart_72 (by decide) ?_
            refine lv_aload_n hx hb dX7_addPart_139 rfl (lv_at hl 1 rfl) ?_
            refine va_get (D := (dC, dI)) (ci := 10) (v := .int 1) (C := RX7) (T := TX7) (N := 19) hx hb hts (fun w h => List.mem_cons_of_mem _ (List.mem_append_left _ (List.mem_append_right _ (h)))) hown hK hP 0 rfl rfl 16 (by decide) (hts (.fieldLink RX7 57 "NetcompareModel" "thrown" "I") (List.mem_cons_of_mem _ (List.mem_append_left _ (List.mem_append_left _ (List.mem_of_getElem? (i := 1) rfl))))) (fun _ h9 => h9) rfl dX7_addPart_140 ?_
            refine lv_if_le (tgt := 148) hx hb dX7_addPart_143 (by decide) (fun h9 => absurd h9 (by decide)) (fun _ => ?_)
            refine lv_iconst (v := (-1)) hx hb dX7_addPart_146 (by decide) ?_
            exact ret _ 1 _ _ _ _ _ _ (Or.inl (⟨rfl, Or.inl (hc37)⟩)) (hP.sub [0] rfl) (hK.sub [] rfl) (hD.sub [0] (by decide) rfl) hS (Nat.le_of_ble_eq_true rfl) (Nat.le_of_ble_eq_true rfl) dX7_addPart_147

set_option maxHeartbeats 4000000 in
set_option maxRecDepth 100000 in
/-- the model: removePart on a fresh one -/
theorem kX7_removePart (l : Launch) (dC : Nat → ClassId) (dI : Nat → Nat → Nat) (k0 kN kA kO kK kV kG kP kC kD kE kF kX kY kT kU : Nat) (cI : ClassId) (p0 p1 : Int32) (sz : Nat) : fMi l yX7_removePart wsX7_removePart ({ frames := 3, cells := 0, slots := 0, locals := 69 } : Room) dC dI [.ref k0, .int p0, .int p1] [(k0, .inr (10, [.ref kN, .ref kA, .ref kO, .ref kK, .ref kV, .ref kG, .ref kP, .ref kC, .ref kD, .ref kE, .ref kF, .ref kX, .ref kY, .int 0, .ref kT, .ref kU, .int 0, .int 0, .int 0])), (kN, .inl (cI, 2, .inl (fun _ => 0))), (kA, .inl (cI, 2, .inl (fun _ => 0)))] [(cI, .int)] sz (fun (r : Int32) (u : Int32) => u = 1 ∧ (¬ ((p0 = 0) ∨ (p0 = 1))) ∨ u = 2 ∧ (¬ (¬ ((p0 = 0) ∨ (p0 = 1))))) (fun u => [(k0, .inr (10, [.ref kN, .ref kA, .ref kO, .ref kK, .ref kV, .ref kG, .ref kP, .ref kC, .ref kD, .ref kE, .ref kF, .ref kX, .ref kY, .int 0, .ref kT, .ref kU, .int u, .int 0, .int 0]))]) (fun u => []) := by
  refine oP_i (y := yX7_removePart) (cc := cX7_removePart) (maxL := 3) (by decide) rfl (Nat.le_of_ble_eq_true rfl) ?_
  intro p e s m args below meth c ls A Q hx hb hr hml hown hts hN hZ hA hin hlk hP hK hD hl ret
  have hS : va_S A s.heap s.heap [] := va_S.rf
  have hl : lv_has ls 3 [(0, .ref k0), (1, .int p0), (2, .int p1)] := hl
  have hP : va_P (dC, dI) vwCl [(k0, .inr (10, [.ref kN, .ref kA, .ref kO, .ref kK, .ref kV, .ref kG, .ref kP, .ref kC, .ref kD, .ref kE, .ref kF, .ref kX, .ref kY, .int 0, .ref kT, .ref kU, .int 0, .int 0, .int 0])), (kN, .inl (cI, 2, .inl (fun _ => 0))), (kA, .inl (cI, 2, .inl (fun _ => 0)))] _ := hP
  have hD : va_D A [(k0, .inr (10, [.ref kN, .ref kA, .ref kO, .ref kK, .ref kV, .ref kG, .ref kP, .ref kC, .ref kD, .ref kE, .ref kF, .ref kX, .ref kY, .int 0, .ref kT, .ref kU, .int 0, .int 0, .int 0])), (kN, .inl (cI, 2, .inl (fun _ => 0))), (kA, .inl (cI, 2, .inl (fun _ => 0)))] := hD
  refine lv_aload_n hx hb dX7_removePart_0 rfl (lv_at hl 0 rfl) ?_
  refine lv_iload_n hx hb dX7_removePart_1 rfl (lv_at hl 1 rfl) ?_
  refine lv_iload_n hx hb dX7_removePart_2 rfl (lv_at hl 2 rfl) ?_
  have hPc := hP.sub (ws' := [(k0, .inr (10, [.ref kN, .ref kA, .ref kO, .ref kK, .ref kV, .ref kG, .ref kP, .ref kC, .ref kD, .ref kE, .ref kF, .ref kX, .ref kY, .int 0, .ref kT, .ref kU, .int 0, .int 0, .int 0])), (kA, .inl (cI, 2, .inl (fun _ => 0)))]) [0, 2] rfl
  have hDc := hD.sub (ws' := [(k0, .inr (10, [.ref kN, .ref kA, .ref kO, .ref kK, .ref kV, .ref kG, .ref kP, .ref kC, .ref kD, .ref kE, .ref kF, .ref kX, .ref kY, .int 0, .ref kT, .ref kU, .int 0, .int 0, .int 0])), (kA, .inl (cI, 2, .inl (fun _ => 0)))]) [0, 2] (by decide) rfl
  have hKc := hK.sub (tys' := [(cI, .int)]) [0] rfl
  have hFc := va_free (wc := [(k0, .inr (10, [.ref kN, .ref kA, .ref kO, .ref kK, .ref kV, .ref kG, .ref kP, .ref kC, .ref kD, .ref kE, .ref kF, .ref kX, .ref kY, .int 0, .ref kT, .ref kU, .int 0, .int 0, .int 0])), (kA, .inl (cI, 2, .inl (fun _ => 0)))]) hD hS hA [0, 2] rfl
  refine va_calli (va_runV (As := [.int p0, .int p1]) (rest := []) ⟨hx, hb, hml, hown, hts⟩ (kX7_isAsked l dC dI k0 kN kA kO kK kV kG kP kC kD kE kF kX kY kT kU cI p0 p1 s.heap.size) (cwV 2 hts gX7_removePart_X7_isAsked rfl rfl rfl (by decide +kernel) ⟨Nat.le_of_ble_eq_true rfl, Nat.le_of_ble_eq_true rfl⟩) (fPreV hN hZ hS (fun q h => hFc q h) hPc hKc hDc (ci := 10) (q0 := 0) rfl rfl) rfl rfl hl.1 rfl (lv_room (Nat.le_of_ble_eq_true rfl)) dX7_removePart_3 ⟨Nat.le_of_ble_eq_true rfl, Nat.le_of_ble_eq_true rfl⟩) hS (fun q _ h => hFc q h) hFc (fun r u t H1 locs ht hvm hw hB hz1 hk1 hS => ?_)
  obtain ⟨hP1, hK1, hD1⟩ := hB
  rw [ht] at hP1
  have hK1 := va_K.moved hvm.symm hK1
  obtain ⟨hP, hD⟩ := va_join (wr := [(kN, .inl (cI, 2, .inl (fun _ => 0)))]) (w1 := [(k0, .inr (10, [.ref kN, .ref kA, .ref kO, .ref kK, .ref kV, .ref kG, .ref kP, .ref kC, .ref kD, .ref kE, .ref kF, .ref kX, .ref kY, .int 0, .ref kT, .ref kU, .int u, .int 0, .int 0]))]) hP hD [0, 2] [1] rfl rfl (by decide) (by decide) hk1 hFc hP1 hD1
  generalize H1 = H at hP hS ⊢
  have hP : va_P (dC, dI) vwCl [(kN, .inl (cI, 2, .inl (fun _ => 0))), (k0, .inr (10, [.ref kN, .ref kA, .ref kO, .ref kK, .ref kV, .ref kG, .ref kP, .ref kC, .ref kD, .ref kE, .ref kF, .ref kX, .ref kY, .int 0, .ref kT, .ref kU, .int u, .int 0, .int 0]))] _ := hP
  have hD : va_D A [(kN, .inl (cI, 2, .inl (fun _ => 0))), (k0, .inr (10, [.ref kN, .ref kA, .ref kO, .ref kK, .ref kV, .ref kG, .ref kP, .ref kC, .ref kD, .ref kE, .ref kF, .ref kX, .ref kY, .int 0, .ref kT, .ref kU, .int u, .int 0, .int 0]))] := hD
  rcases hw with ⟨rfl, ⟨rfl, hq⟩ | ⟨rfl, hq⟩⟩
  · skip
    have hq1 := hq
    have hP : va_P (dC, dI) vwCl [(kN, .inl (cI, 2, .inl (fun _ => 0))), (k0, .inr (10, [.ref kN, .ref kA, .ref kO, .ref kK, .ref kV, .ref kG, .ref kP, .ref kC, .ref kD, .ref kE, .ref kF, .ref kX, .ref kY, .int 0, .ref kT, .ref kU, .int 1, .int 0, .int 0]))] _ := hP
    have hD : va_D A [(kN, .inl (cI, 2, .inl (fun _ => 0))), (k0, .inr (10, [.ref kN, .ref kA, .ref kO, .ref kK, .ref kV, .ref kG, .ref kP, .ref kC, .ref kD, .ref kE, .ref kF, .ref kX, .ref kY, .int 0, .ref kT, .ref kU, .int 1, .int 0, .int 0]))] := hD
    refine lv_if_ne (tgt := 11) hx hb dX7_removePart_6 (by decide) (fun h9 => absurd (by decide) h9) (fun _ => ?_)
    refine lv_iconst (v := (-1)) hx hb dX7_removePart_9 (by decide) ?_
    exact ret _ 1 _ _ _ _ _ _ (Or.inl (⟨rfl, hq1⟩)) (hP.sub [1] rfl) (hK.sub [] rfl) (hD.sub [1] (by decide) rfl) hS (Nat.le_of_ble_eq_true rfl) (Nat.le_of_ble_eq_true rfl) dX7_removePart_10
  · skip
    have hq2 := hq
    have hP : va_P (dC, dI) vwCl [(kN, .inl (cI, 2, .inl (fun _ => 0))), (k0, .inr (10, [.ref kN, .ref kA, .ref kO, .ref kK, .ref kV, .ref kG, .ref kP, .ref kC, .ref kD, .ref kE, .ref kF, .ref kX, .ref kY, .int 0, .ref kT, .ref kU, .int 2, .int 0, .int 0]))] _ := hP
    have hD : va_D A [(kN, .inl (cI, 2, .inl (fun _ => 0))), (k0, .inr (10, [.ref kN, .ref kA, .ref kO, .ref kK, .ref kV, .ref kG, .ref kP, .ref kC, .ref kD, .ref kE, .ref kF, .ref kX, .ref kY, .int 0, .ref kT, .ref kU, .int 2, .int 0, .int 0]))] := hD
    refine lv_if_ne (tgt := 11) hx hb dX7_removePart_6 (by decide) (fun h9 => absurd (by decide) h9) (fun _ => ?_)
    refine lv_iconst (v := (-1)) hx hb dX7_removePart_9 (by decide) ?_
    exact ret _ 2 _ _ _ _ _ _ (Or.inr (⟨rfl, (fun h9 => h9 (hq2))⟩)) (hP.sub [1] rfl) (hK.sub [] rfl) (hD.sub [1] (by decide) rfl) hS (Nat.le_of_ble_eq_true rfl) (Nat.le_of_ble_eq_true rfl) dX7_removePart_10

set_option maxHeartbeats 4000000 in
set_option maxRecDepth 100000 in
/-- the model: rewire on a fresh one -/
theorem kX7_rewire (l : Launch) (dC : Nat → ClassId) (dI : Nat → Nat → Nat) (k0 kN kA kO kK kV kG kP kC kD kE kF kX kY kT kU : Nat) (cI : ClassId) (p0 p1 p2 p3 : Int32) (sz : Nat) : fMi l yX7_rewire wsX7_rewire ({ frames := 3, cells := 0, slots := 0, locals := 69 } : Room) dC dI [.ref k0, .int p0, .int p1, .int p2, .int p3] [(k0, .inr (10, [.ref kN, .ref kA, .ref kO, .ref kK, .ref kV, .ref kG, .ref kP, .ref kC, .ref kD, .ref kE, .ref kF, .ref kX, .ref kY, .int 0, .ref kT, .ref kU, .int 0, .int 0, .int 0])), (kN, .inl (cI, 2, .inl (fun _ => 0))), (kA, .inl (cI, 2, .inl (fun _ => 0)))] [(cI, .int)] sz (fun (r : Int32) (u : Int32) => u = 1 ∧ (¬ ((p0 = 0) ∨ (p0 = 1))) ∨ u = 2 ∧ (¬ (¬ ((p0 = 0) ∨ (p0 = 1))))) (fun u => [(k0, .inr (10, [.ref kN, .ref kA, .ref kO, .ref kK, .ref kV, .ref kG, .ref kP, .ref kC, .ref kD, .ref kE, .ref kF, .ref kX, .ref kY, .int 0, .ref kT, .ref kU, .int u, .int 0, .int 0]))]) (fun u => []) := by
  refine oP_i (y := yX7_rewire) (cc := cX7_rewire) (maxL := 6) (by decide) rfl (Nat.le_of_ble_eq_true rfl) ?_
  intro p e s m args below meth c ls A Q hx hb hr hml hown hts hN hZ hA hin hlk hP hK hD hl ret
  have hS : va_S A s.heap s.heap [] := va_S.rf
  have hl : lv_has ls 6 [(0, .ref k0), (1, .int p0), (2, .int p1), (3, .int p2), (4, .int p3)] := hl
  have hP : va_P (dC, dI) vwCl [(k0, .inr (10, [.ref kN, .ref kA, .ref kO, .ref kK, .ref kV, .ref kG, .ref kP, .ref kC, .ref kD, .ref kE, .ref kF, .ref kX, .ref kY, .int 0, .ref kT, .ref kU, .int 0, .int 0, .int 0])), (kN, .inl (cI, 2, .inl (fun _ => 0))), (kA, .inl (cI, 2, .inl (fun _ => 0)))] _ := hP
  have hD : va_D A [(k0, .inr (10, [.ref kN, .ref kA, .ref kO, .ref kK, .ref kV, .ref kG, .ref kP, .ref kC, .ref kD, .ref kE, .ref kF, .ref kX, .ref kY, .int 0, .ref kT, .ref kU, .int 0, .int 0, .int 0])), (kN, .inl (cI, 2, .inl (fun _ => 0))), (kA, .inl (cI, 2, .inl (fun _ => 0)))] := hD
  refine lv_aload_n hx hb dX7_rewire_0 rfl (lv_at hl 0 rfl) ?_
  refine lv_iload_n hx hb dX7_rewire_1 rfl (lv_at hl 1 rfl) ?_
  refine lv_iload_n hx hb dX7_rewire_2 rfl (lv_at hl 2 rfl) ?_
  have hPc := hP.sub (ws' := [(k0, .inr (10, [.ref kN, .ref kA, .ref kO, .ref kK, .ref kV, .ref kG, .ref kP, .ref kC, .ref kD, .ref kE, .ref kF, .ref kX, .ref kY, .int 0, .ref kT, .ref kU, .int 0, .int 0, .int 0])), (kA, .inl (cI, 2, .inl (fun _ => 0)))]) [0, 2] rfl
  have hDc := hD.sub (ws' := [(k0, .inr (10, [.ref kN, .ref kA, .ref kO, .ref kK, .ref kV, .ref kG, .ref kP, .ref kC, .ref kD, .ref kE, .ref kF, .ref kX, .ref kY, .int 0, .ref kT, .ref kU, .int 0, .int 0, .int 0])), (kA, .inl (cI, 2, .inl (fun _ => 0)))]) [0, 2] (by decide) rfl
  have hKc := hK.sub (tys' := [(cI, .int)]) [0] rfl
  have hFc := va_free (wc := [(k0, .inr (10, [.ref kN, .ref kA, .ref kO, .ref kK, .ref kV, .ref kG, .ref kP, .ref kC, .ref kD, .ref kE, .ref kF, .ref kX, .ref kY, .int 0, .ref kT, .ref kU, .int 0, .int 0, .int 0])), (kA, .inl (cI, 2, .inl (fun _ => 0)))]) hD hS hA [0, 2] rfl
  refine va_calli (va_runV (As := [.int p0, .int p1]) (rest := []) ⟨hx, hb, hml, hown, hts⟩ (kX7_isAsked l dC dI k0 kN kA kO kK kV kG kP kC kD kE kF kX kY kT kU cI p0 p1 s.heap.size) (cwV 2 hts gX7_rewire_X7_isAsked rfl rfl rfl (by decide +kernel) ⟨Nat.le_of_ble_eq_true rfl, Nat.le_of_ble_eq_true rfl⟩) (fPreV hN hZ hS (fun q h => hFc q h) hPc hKc hDc (ci := 10) (q0 := 0) rfl rfl) rfl rfl hl.1 rfl (lv_room (Nat.le_of_ble_eq_true rfl)) dX7_rewire_3 ⟨Nat.le_of_ble_eq_true rfl, Nat.le_of_ble_eq_true rfl⟩) hS (fun q _ h => hFc q h) hFc (fun r u t H1 locs ht hvm hw hB hz1 hk1 hS => ?_)
  obtain ⟨hP1, hK1, hD1⟩ := hB
  rw [ht] at hP1
  have hK1 := va_K.moved hvm.symm hK1
  obtain ⟨hP, hD⟩ := va_join (wr := [(kN, .inl (cI, 2, .inl (fun _ => 0)))]) (w1 := [(k0, .inr (10, [.ref kN, .ref kA, .ref kO, .ref kK, .ref kV, .ref kG, .ref kP, .ref kC, .ref kD, .ref kE, .ref kF, .ref kX, .ref kY, .int 0, .ref kT, .ref kU, .int u, .int 0, .int 0]))]) hP hD [0, 2] [1] rfl rfl (by decide) (by decide) hk1 hFc hP1 hD1
  generalize H1 = H at hP hS ⊢
  have hP : va_P (dC, dI) vwCl [(kN, .inl (cI, 2, .inl (fun _ => 0))), (k0, .inr (10, [.ref kN, .ref kA, .ref kO, .ref kK, .ref kV, .ref kG, .ref kP, .ref kC, .ref kD, .ref kE, .ref kF, .ref kX, .ref kY, .int 0, .ref kT, .ref kU, .int u, .int 0, .int 0]))] _ := hP
  have hD : va_D A [(kN, .inl (cI, 2, .inl (fun _ => 0))), (k0, .inr (10, [.ref kN, .ref kA, .ref kO, .ref kK, .ref kV, .ref kG, .ref kP, .ref kC, .ref kD, .ref kE, .ref kF, .ref kX, .ref kY, .int 0, .ref kT, .ref kU, .int u, .int 0, .int 0]))] := hD
  rcases hw with ⟨rfl, ⟨rfl, hq⟩ | ⟨rfl, hq⟩⟩
  · skip
    have hq1 := hq
    have hP : va_P (dC, dI) vwCl [(kN, .inl (cI, 2, .inl (fun _ => 0))), (k0, .inr (10, [.ref kN, .ref kA, .ref kO, .ref kK, .ref kV, .ref kG, .ref kP, .ref kC, .ref kD, .ref kE, .ref kF, .ref kX, .ref kY, .int 0, .ref kT, .ref kU, .int 1, .int 0, .int 0]))] _ := hP
    have hD : va_D A [(kN, .inl (cI, 2, .inl (fun _ => 0))), (k0, .inr (10, [.ref kN, .ref kA, .ref kO, .ref kK, .ref kV, .ref kG, .ref kP, .ref kC, .ref kD, .ref kE, .ref kF, .ref kX, .ref kY, .int 0, .ref kT, .ref kU, .int 1, .int 0, .int 0]))] := hD
    refine lv_if_ne (tgt := 11) hx hb dX7_rewire_6 (by decide) (fun h9 => absurd (by decide) h9) (fun _ => ?_)
    refine lv_iconst (v := (-1)) hx hb dX7_rewire_9 (by decide) ?_
    exact ret _ 1 _ _ _ _ _ _ (Or.inl (⟨rfl, hq1⟩)) (hP.sub [1] rfl) (hK.sub [] rfl) (hD.sub [1] (by decide) rfl) hS (Nat.le_of_ble_eq_true rfl) (Nat.le_of_ble_eq_true rfl) dX7_rewire_10
  · skip
    have hq2 := hq
    have hP : va_P (dC, dI) vwCl [(kN, .inl (cI, 2, .inl (fun _ => 0))), (k0, .inr (10, [.ref kN, .ref kA, .ref kO, .ref kK, .ref kV, .ref kG, .ref kP, .ref kC, .ref kD, .ref kE, .ref kF, .ref kX, .ref kY, .int 0, .ref kT, .ref kU, .int 2, .int 0, .int 0]))] _ := hP
    have hD : va_D A [(kN, .inl (cI, 2, .inl (fun _ => 0))), (k0, .inr (10, [.ref kN, .ref kA, .ref kO, .ref kK, .ref kV, .ref kG, .ref kP, .ref kC, .ref kD, .ref kE, .ref kF, .ref kX, .ref kY, .int 0, .ref kT, .ref kU, .int 2, .int 0, .int 0]))] := hD
    refine lv_if_ne (tgt := 11) hx hb dX7_rewire_6 (by decide) (fun h9 => absurd (by decide) h9) (fun _ => ?_)
    refine lv_iconst (v := (-1)) hx hb dX7_rewire_9 (by decide) ?_
    exact ret _ 2 _ _ _ _ _ _ (Or.inr (⟨rfl, (fun h9 => h9 (hq2))⟩)) (hP.sub [1] rfl) (hK.sub [] rfl) (hD.sub [1] (by decide) rfl) hS (Nat.le_of_ble_eq_true rfl) (Nat.le_of_ble_eq_true rfl) dX7_rewire_10

set_option maxHeartbeats 4000000 in
set_option maxRecDepth 100000 in
/-- the model: swapPins on a fresh one -/
theorem kX7_swapPins (l : Launch) (dC : Nat → ClassId) (dI : Nat → Nat → Nat) (k0 kN kA kO kK kV kG kP kC kD kE kF kX kY kT kU : Nat) (cI : ClassId) (p0 p1 : Int32) (sz : Nat) : fMi l yX7_swapPins wsX7_swapPins ({ frames := 3, cells := 0, slots := 0, locals := 69 } : Room) dC dI [.ref k0, .int p0, .int p1] [(k0, .inr (10, [.ref kN, .ref kA, .ref kO, .ref kK, .ref kV, .ref kG, .ref kP, .ref kC, .ref kD, .ref kE, .ref kF, .ref kX, .ref kY, .int 0, .ref kT, .ref kU, .int 0, .int 0, .int 0])), (kN, .inl (cI, 2, .inl (fun _ => 0))), (kA, .inl (cI, 2, .inl (fun _ => 0)))] [(cI, .int)] sz (fun (r : Int32) (u : Int32) => u = 1 ∧ (¬ ((p0 = 0) ∨ (p0 = 1))) ∨ u = 2 ∧ (¬ (¬ ((p0 = 0) ∨ (p0 = 1))))) (fun u => [(k0, .inr (10, [.ref kN, .ref kA, .ref kO, .ref kK, .ref kV, .ref kG, .ref kP, .ref kC, .ref kD, .ref kE, .ref kF, .ref kX, .ref kY, .int 0, .ref kT, .ref kU, .int u, .int 0, .int 0]))]) (fun u => []) := by
  refine oP_i (y := yX7_swapPins) (cc := cX7_swapPins) (maxL := 6) (by decide) rfl (Nat.le_of_ble_eq_true rfl) ?_
  intro p e s m args below meth c ls A Q hx hb hr hml hown hts hN hZ hA hin hlk hP hK hD hl ret
  have hS : va_S A s.heap s.heap [] := va_S.rf
  have hl : lv_has ls 6 [(0, .ref k0), (1, .int p0), (2, .int p1)] := hl
  have hP : va_P (dC, dI) vwCl [(k0, .inr (10, [.ref kN, .ref kA, .ref kO, .ref kK, .ref kV, .ref kG, .ref kP, .ref kC, .ref kD, .ref kE, .ref kF, .ref kX, .ref kY, .int 0, .ref kT, .ref kU, .int 0, .int 0, .int 0])), (kN, .inl (cI, 2, .inl (fun _ => 0))), (kA, .inl (cI, 2, .inl (fun _ => 0)))] _ := hP
  have hD : va_D A [(k0, .inr (10, [.ref kN, .ref kA, .ref kO, .ref kK, .ref kV, .ref kG, .ref kP, .ref kC, .ref kD, .ref kE, .ref kF, .ref kX, .ref kY, .int 0, .ref kT, .ref kU, .int 0, .int 0, .int 0])), (kN, .inl (cI, 2, .inl (fun _ => 0))), (kA, .inl (cI, 2, .inl (fun _ => 0)))] := hD
  refine lv_aload_n hx hb dX7_swapPins_0 rfl (lv_at hl 0 rfl) ?_
  refine lv_iload_n hx hb dX7_swapPins_1 rfl (lv_at hl 1 rfl) ?_
  refine lv_iload_n hx hb dX7_swapPins_2 rfl (lv_at hl 2 rfl) ?_
  have hPc := hP.sub (ws' := [(k0, .inr (10, [.ref kN, .ref kA, .ref kO, .ref kK, .ref kV, .ref kG, .ref kP, .ref kC, .ref kD, .ref kE, .ref kF, .ref kX, .ref kY, .int 0, .ref kT, .ref kU, .int 0, .int 0, .int 0])), (kA, .inl (cI, 2, .inl (fun _ => 0)))]) [0, 2] rfl
  have hDc := hD.sub (ws' := [(k0, .inr (10, [.ref kN, .ref kA, .ref kO, .ref kK, .ref kV, .ref kG, .ref kP, .ref kC, .ref kD, .ref kE, .ref kF, .ref kX, .ref kY, .int 0, .ref kT, .ref kU, .int 0, .int 0, .int 0])), (kA, .inl (cI, 2, .inl (fun _ => 0)))]) [0, 2] (by decide) rfl
  have hKc := hK.sub (tys' := [(cI, .int)]) [0] rfl
  have hFc := va_free (wc := [(k0, .inr (10, [.ref kN, .ref kA, .ref kO, .ref kK, .ref kV, .ref kG, .ref kP, .ref kC, .ref kD, .ref kE, .ref kF, .ref kX, .ref kY, .int 0, .ref kT, .ref kU, .int 0, .int 0, .int 0])), (kA, .inl (cI, 2, .inl (fun _ => 0)))]) hD hS hA [0, 2] rfl
  refine va_calli (va_runV (As := [.int p0, .int p1]) (rest := []) ⟨hx, hb, hml, hown, hts⟩ (kX7_isAsked l dC dI k0 kN kA kO kK kV kG kP kC kD kE kF kX kY kT kU cI p0 p1 s.heap.size) (cwV 2 hts gX7_swapPins_X7_isAsked rfl rfl rfl (by decide +kernel) ⟨Nat.le_of_ble_eq_true rfl, Nat.le_of_ble_eq_true rfl⟩) (fPreV hN hZ hS (fun q h => hFc q h) hPc hKc hDc (ci := 10) (q0 := 0) rfl rfl) rfl rfl hl.1 rfl (lv_room (Nat.le_of_ble_eq_true rfl)) dX7_swapPins_3 ⟨Nat.le_of_ble_eq_true rfl, Nat.le_of_ble_eq_true rfl⟩) hS (fun q _ h => hFc q h) hFc (fun r u t H1 locs ht hvm hw hB hz1 hk1 hS => ?_)
  obtain ⟨hP1, hK1, hD1⟩ := hB
  rw [ht] at hP1
  have hK1 := va_K.moved hvm.symm hK1
  obtain ⟨hP, hD⟩ := va_join (wr := [(kN, .inl (cI, 2, .inl (fun _ => 0)))]) (w1 := [(k0, .inr (10, [.ref kN, .ref kA, .ref kO, .ref kK, .ref kV, .ref kG, .ref kP, .ref kC, .ref kD, .ref kE, .ref kF, .ref kX, .ref kY, .int 0, .ref kT, .ref kU, .int u, .int 0, .int 0]))]) hP hD [0, 2] [1] rfl rfl (by decide) (by decide) hk1 hFc hP1 hD1
  generalize H1 = H at hP hS ⊢
  have hP : va_P (dC, dI) vwCl [(kN, .inl (cI, 2, .inl (fun _ => 0))), (k0, .inr (10, [.ref kN, .ref kA, .ref kO, .ref kK, .ref kV, .ref kG, .ref kP, .ref kC, .ref kD, .ref kE, .ref kF, .ref kX, .ref kY, .int 0, .ref kT, .ref kU, .int u, .int 0, .int 0]))] _ := hP
  have hD : va_D A [(kN, .inl (cI, 2, .inl (fun _ => 0))), (k0, .inr (10, [.ref kN, .ref kA, .ref kO, .ref kK, .ref kV, .ref kG, .ref kP, .ref kC, .ref kD, .ref kE, .ref kF, .ref kX, .ref kY, .int 0, .ref kT, .ref kU, .int u, .int 0, .int 0]))] := hD
  rcases hw with ⟨rfl, ⟨rfl, hq⟩ | ⟨rfl, hq⟩⟩
  · skip
    have hq1 := hq
    have hP : va_P (dC, dI) vwCl [(kN, .inl (cI, 2, .inl (fun _ => 0))), (k0, .inr (10, [.ref kN, .ref kA, .ref kO, .ref kK, .ref kV, .ref kG, .ref kP, .ref kC, .ref kD, .ref kE, .ref kF, .ref kX, .ref kY, .int 0, .ref kT, .ref kU, .int 1, .int 0, .int 0]))] _ := hP
    have hD : va_D A [(kN, .inl (cI, 2, .inl (fun _ => 0))), (k0, .inr (10, [.ref kN, .ref kA, .ref kO, .ref kK, .ref kV, .ref kG, .ref kP, .ref kC, .ref kD, .ref kE, .ref kF, .ref kX, .ref kY, .int 0, .ref kT, .ref kU, .int 1, .int 0, .int 0]))] := hD
    refine lv_if_ne (tgt := 11) hx hb dX7_swapPins_6 (by decide) (fun h9 => absurd (by decide) h9) (fun _ => ?_)
    refine lv_iconst (v := (-1)) hx hb dX7_swapPins_9 (by decide) ?_
    exact ret _ 1 _ _ _ _ _ _ (Or.inl (⟨rfl, hq1⟩)) (hP.sub [1] rfl) (hK.sub [] rfl) (hD.sub [1] (by decide) rfl) hS (Nat.le_of_ble_eq_true rfl) (Nat.le_of_ble_eq_true rfl) dX7_swapPins_10
  · skip
    have hq2 := hq
    have hP : va_P (dC, dI) vwCl [(kN, .inl (cI, 2, .inl (fun _ => 0))), (k0, .inr (10, [.ref kN, .ref kA, .ref kO, .ref kK, .ref kV, .ref kG, .ref kP, .ref kC, .ref kD, .ref kE, .ref kF, .ref kX, .ref kY, .int 0, .ref kT, .ref kU, .int 2, .int 0, .int 0]))] _ := hP
    have hD : va_D A [(kN, .inl (cI, 2, .inl (fun _ => 0))), (k0, .inr (10, [.ref kN, .ref kA, .ref kO, .ref kK, .ref kV, .ref kG, .ref kP, .ref kC, .ref kD, .ref kE, .ref kF, .ref kX, .ref kY, .int 0, .ref kT, .ref kU, .int 2, .int 0, .int 0]))] := hD
    refine lv_if_ne (tgt := 11) hx hb dX7_swapPins_6 (by decide) (fun h9 => absurd (by decide) h9) (fun _ => ?_)
    refine lv_iconst (v := (-1)) hx hb dX7_swapPins_9 (by decide) ?_
    exact ret _ 2 _ _ _ _ _ _ (Or.inr (⟨rfl, (fun h9 => h9 (hq2))⟩)) (hP.sub [1] rfl) (hK.sub [] rfl) (hD.sub [1] (by decide) rfl) hS (Nat.le_of_ble_eq_true rfl) (Nat.le_of_ble_eq_true rfl) dX7_swapPins_10

set_option maxHeartbeats 4000000 in
set_option maxRecDepth 100000 in
/-- the model: join on a fresh one -/
theorem kX7_join (l : Launch) (dC : Nat → ClassId) (dI : Nat → Nat → Nat) (k0 kN kA kO kK kV kG kP kC kD kE kF kX kY kT kU : Nat) (cI : ClassId) (p0 p1 p2 : Int32) (sz : Nat) : fMi l yX7_join wsX7_join ({ frames := 3, cells := 0, slots := 0, locals := 70 } : Room) dC dI [.ref k0, .int p0, .int p1, .int p2] [(k0, .inr (10, [.ref kN, .ref kA, .ref kO, .ref kK, .ref kV, .ref kG, .ref kP, .ref kC, .ref kD, .ref kE, .ref kF, .ref kX, .ref kY, .int 0, .ref kT, .ref kU, .int 0, .int 0, .int 0])), (kN, .inl (cI, 2, .inl (fun _ => 0))), (kA, .inl (cI, 2, .inl (fun _ => 0)))] [(cI, .int)] sz (fun (r : Int32) (u : Int32) => u = 1 ∧ (¬ ((p0 = 0) ∨ (p0 = 1))) ∨ u = 2 ∧ (¬ (¬ ((p0 = 0) ∨ (p0 = 1))))) (fun u => [(k0, .inr (10, [.ref kN, .ref kA, .ref kO, .ref kK, .ref kV, .ref kG, .ref kP, .ref kC, .ref kD, .ref kE, .ref kF, .ref kX, .ref kY, .int 0, .ref kT, .ref kU, .int u, .int 0, .int 0]))]) (fun u => []) := by
  refine oP_i (y := yX7_join) (cc := cX7_join) (maxL := 4) (by decide) rfl (Nat.le_of_ble_eq_true rfl) ?_
  intro p e s m args below meth c ls A Q hx hb hr hml hown hts hN hZ hA hin hlk hP hK hD hl ret
  have hS : va_S A s.heap s.heap [] := va_S.rf
  have hl : lv_has ls 4 [(0, .ref k0), (1, .int p0), (2, .int p1), (3, .int p2)] := hl
  have hP : va_P (dC, dI) vwCl [(k0, .inr (10, [.ref kN, .ref kA, .ref kO, .ref kK, .ref kV, .ref kG, .ref kP, .ref kC, .ref kD, .ref kE, .ref kF, .ref kX, .ref kY, .int 0, .ref kT, .ref kU, .int 0, .int 0, .int 0])), (kN, .inl (cI, 2, .inl (fun _ => 0))), (kA, .inl (cI, 2, .inl (fun _ => 0)))] _ := hP
  have hD : va_D A [(k0, .inr (10, [.ref kN, .ref kA, .ref kO, .ref kK, .ref kV, .ref kG, .ref kP, .ref kC, .ref kD, .ref kE, .ref kF, .ref kX, .ref kY, .int 0, .ref kT, .ref kU, .int 0, .int 0, .int 0])), (kN, .inl (cI, 2, .inl (fun _ => 0))), (kA, .inl (cI, 2, .inl (fun _ => 0)))] := hD
  refine lv_aload_n hx hb dX7_join_0 rfl (lv_at hl 0 rfl) ?_
  refine lv_iload_n hx hb dX7_join_1 rfl (lv_at hl 1 rfl) ?_
  refine lv_iload_n hx hb dX7_join_2 rfl (lv_at hl 2 rfl) ?_
  refine lv_iload_n hx hb dX7_join_3 rfl (lv_at hl 3 rfl) ?_
  have hPc := hP.sub (ws' := [(k0, .inr (10, [.ref kN, .ref kA, .ref kO, .ref kK, .ref kV, .ref kG, .ref kP, .ref kC, .ref kD, .ref kE, .ref kF, .ref kX, .ref kY, .int 0, .ref kT, .ref kU, .int 0, .int 0, .int 0])), (kA, .inl (cI, 2, .inl (fun _ => 0)))]) [0, 2] rfl
  have hDc := hD.sub (ws' := [(k0, .inr (10, [.ref kN, .ref kA, .ref kO, .ref kK, .ref kV, .ref kG, .ref kP, .ref kC, .ref kD, .ref kE, .ref kF, .ref kX, .ref kY, .int 0, .ref kT, .ref kU, .int 0, .int 0, .int 0])), (kA, .inl (cI, 2, .inl (fun _ => 0)))]) [0, 2] (by decide) rfl
  have hKc := hK.sub (tys' := [(cI, .int)]) [0] rfl
  have hFc := va_free (wc := [(k0, .inr (10, [.ref kN, .ref kA, .ref kO, .ref kK, .ref kV, .ref kG, .ref kP, .ref kC, .ref kD, .ref kE, .ref kF, .ref kX, .ref kY, .int 0, .ref kT, .ref kU, .int 0, .int 0, .int 0])), (kA, .inl (cI, 2, .inl (fun _ => 0)))]) hD hS hA [0, 2] rfl
  refine va_calli (va_runV (As := [.int p0, .int p1, .int p2]) (rest := []) ⟨hx, hb, hml, hown, hts⟩ (kX7_areAsked l dC dI k0 kN kA kO kK kV kG kP kC kD kE kF kX kY kT kU cI p0 p1 p2 s.heap.size) (cwV 3 hts gX7_join_X7_areAsked rfl rfl rfl (by decide +kernel) ⟨Nat.le_of_ble_eq_true rfl, Nat.le_of_ble_eq_true rfl⟩) (fPreV hN hZ hS (fun q h => hFc q h) hPc hKc hDc (ci := 10) (q0 := 0) rfl rfl) rfl rfl hl.1 rfl (lv_room (Nat.le_of_ble_eq_true rfl)) dX7_join_4 ⟨Nat.le_of_ble_eq_true rfl, Nat.le_of_ble_eq_true rfl⟩) hS (fun q _ h => hFc q h) hFc (fun r u t H1 locs ht hvm hw hB hz1 hk1 hS => ?_)
  obtain ⟨hP1, hK1, hD1⟩ := hB
  rw [ht] at hP1
  have hK1 := va_K.moved hvm.symm hK1
  obtain ⟨hP, hD⟩ := va_join (wr := [(kN, .inl (cI, 2, .inl (fun _ => 0)))]) (w1 := [(k0, .inr (10, [.ref kN, .ref kA, .ref kO, .ref kK, .ref kV, .ref kG, .ref kP, .ref kC, .ref kD, .ref kE, .ref kF, .ref kX, .ref kY, .int 0, .ref kT, .ref kU, .int u, .int 0, .int 0]))]) hP hD [0, 2] [1] rfl rfl (by decide) (by decide) hk1 hFc hP1 hD1
  generalize H1 = H at hP hS ⊢
  have hP : va_P (dC, dI) vwCl [(kN, .inl (cI, 2, .inl (fun _ => 0))), (k0, .inr (10, [.ref kN, .ref kA, .ref kO, .ref kK, .ref kV, .ref kG, .ref kP, .ref kC, .ref kD, .ref kE, .ref kF, .ref kX, .ref kY, .int 0, .ref kT, .ref kU, .int u, .int 0, .int 0]))] _ := hP
  have hD : va_D A [(kN, .inl (cI, 2, .inl (fun _ => 0))), (k0, .inr (10, [.ref kN, .ref kA, .ref kO, .ref kK, .ref kV, .ref kG, .ref kP, .ref kC, .ref kD, .ref kE, .ref kF, .ref kX, .ref kY, .int 0, .ref kT, .ref kU, .int u, .int 0, .int 0]))] := hD
  rcases hw with ⟨rfl, ⟨rfl, hq⟩ | ⟨rfl, hq⟩⟩
  · skip
    have hq1 := hq
    have hP : va_P (dC, dI) vwCl [(kN, .inl (cI, 2, .inl (fun _ => 0))), (k0, .inr (10, [.ref kN, .ref kA, .ref kO, .ref kK, .ref kV, .ref kG, .ref kP, .ref kC, .ref kD, .ref kE, .ref kF, .ref kX, .ref kY, .int 0, .ref kT, .ref kU, .int 1, .int 0, .int 0]))] _ := hP
    have hD : va_D A [(kN, .inl (cI, 2, .inl (fun _ => 0))), (k0, .inr (10, [.ref kN, .ref kA, .ref kO, .ref kK, .ref kV, .ref kG, .ref kP, .ref kC, .ref kD, .ref kE, .ref kF, .ref kX, .ref kY, .int 0, .ref kT, .ref kU, .int 1, .int 0, .int 0]))] := hD
    refine lv_if_ne (tgt := 12) hx hb dX7_join_7 (by decide) (fun h9 => absurd (by decide) h9) (fun _ => ?_)
    refine lv_iconst (v := (-1)) hx hb dX7_join_10 (by decide) ?_
    exact ret _ 1 _ _ _ _ _ _ (Or.inl (⟨rfl, hq1⟩)) (hP.sub [1] rfl) (hK.sub [] rfl) (hD.sub [1] (by decide) rfl) hS (Nat.le_of_ble_eq_true rfl) (Nat.le_of_ble_eq_true rfl) dX7_join_11
  · skip
    have hq2 := hq
    have hP : va_P (dC, dI) vwCl [(kN, .inl (cI, 2, .inl (fun _ => 0))), (k0, .inr (10, [.ref kN, .ref kA, .ref kO, .ref kK, .ref kV, .ref kG, .ref kP, .ref kC, .ref kD, .ref kE, .ref kF, .ref kX, .ref kY, .int 0, .ref kT, .ref kU, .int 2, .int 0, .int 0]))] _ := hP
    have hD : va_D A [(kN, .inl (cI, 2, .inl (fun _ => 0))), (k0, .inr (10, [.ref kN, .ref kA, .ref kO, .ref kK, .ref kV, .ref kG, .ref kP, .ref kC, .ref kD, .ref kE, .ref kF, .ref kX, .ref kY, .int 0, .ref kT, .ref kU, .int 2, .int 0, .int 0]))] := hD
    refine lv_if_ne (tgt := 12) hx hb dX7_join_7 (by decide) (fun h9 => absurd (by decide) h9) (fun _ => ?_)
    refine lv_iconst (v := (-1)) hx hb dX7_join_10 (by decide) ?_
    exact ret _ 2 _ _ _ _ _ _ (Or.inr (⟨rfl, (fun h9 => h9 (hq2))⟩)) (hP.sub [1] rfl) (hK.sub [] rfl) (hD.sub [1] (by decide) rfl) hS (Nat.le_of_ble_eq_true rfl) (Nat.le_of_ble_eq_true rfl) dX7_join_11

set_option maxHeartbeats 4000000 in
set_option maxRecDepth 100000 in
/-- the model: valueOf on a fresh one -/
theorem kX7_valueOf (l : Launch) (dC : Nat → ClassId) (dI : Nat → Nat → Nat) (k0 kN kA kO kK kV kG kP kC kD kE kF kX kY kT kU : Nat) (cI : ClassId) (p0 p1 : Int32) (sz : Nat) : fMi l yX7_valueOf wsX7_valueOf ({ frames := 3, cells := 0, slots := 0, locals := 69 } : Room) dC dI [.ref k0, .int p0, .int p1] [(k0, .inr (10, [.ref kN, .ref kA, .ref kO, .ref kK, .ref kV, .ref kG, .ref kP, .ref kC, .ref kD, .ref kE, .ref kF, .ref kX, .ref kY, .int 0, .ref kT, .ref kU, .int 0, .int 0, .int 0])), (kN, .inl (cI, 2, .inl (fun _ => 0))), (kA, .inl (cI, 2, .inl (fun _ => 0)))] [(cI, .int)] sz (fun (r : Int32) (u : Int32) => u = 1 ∧ (¬ ((p0 = 0) ∨ (p0 = 1))) ∨ u = 2 ∧ (¬ (¬ ((p0 = 0) ∨ (p0 = 1))))) (fun u => [(k0, .inr (10, [.ref kN, .ref kA, .ref kO, .ref kK, .ref kV, .ref kG, .ref kP, .ref kC, .ref kD, .ref kE, .ref kF, .ref kX, .ref kY, .int 0, .ref kT, .ref kU, .int u, .int 0, .int 0]))]) (fun u => []) := by
  refine oP_i (y := yX7_valueOf) (cc := cX7_valueOf) (maxL := 3) (by decide) rfl (Nat.le_of_ble_eq_true rfl) ?_
  intro p e s m args below meth c ls A Q hx hb hr hml hown hts hN hZ hA hin hlk hP hK hD hl ret
  have hS : va_S A s.heap s.heap [] := va_S.rf
  have hl : lv_has ls 3 [(0, .ref k0), (1, .int p0), (2, .int p1)] := hl
  have hP : va_P (dC, dI) vwCl [(k0, .inr (10, [.ref kN, .ref kA, .ref kO, .ref kK, .ref kV, .ref kG, .ref kP, .ref kC, .ref kD, .ref kE, .ref kF, .ref kX, .ref kY, .int 0, .ref kT, .ref kU, .int 0, .int 0, .int 0])), (kN, .inl (cI, 2, .inl (fun _ => 0))), (kA, .inl (cI, 2, .inl (fun _ => 0)))] _ := hP
  have hD : va_D A [(k0, .inr (10, [.ref kN, .ref kA, .ref kO, .ref kK, .ref kV, .ref kG, .ref kP, .ref kC, .ref kD, .ref kE, .ref kF, .ref kX, .ref kY, .int 0, .ref kT, .ref kU, .int 0, .int 0, .int 0])), (kN, .inl (cI, 2, .inl (fun _ => 0))), (kA, .inl (cI, 2, .inl (fun _ => 0)))] := hD
  refine lv_aload_n hx hb dX7_valueOf_0 rfl (lv_at hl 0 rfl) ?_
  refine lv_iload_n hx hb dX7_valueOf_1 rfl (lv_at hl 1 rfl) ?_
  refine lv_iload_n hx hb dX7_valueOf_2 rfl (lv_at hl 2 rfl) ?_
  have hPc := hP.sub (ws' := [(k0, .inr (10, [.ref kN, .ref kA, .ref kO, .ref kK, .ref kV, .ref kG, .ref kP, .ref kC, .ref kD, .ref kE, .ref kF, .ref kX, .ref kY, .int 0, .ref kT, .ref kU, .int 0, .int 0, .int 0])), (kA, .inl (cI, 2, .inl (fun _ => 0)))]) [0, 2] rfl
  have hDc := hD.sub (ws' := [(k0, .inr (10, [.ref kN, .ref kA, .ref kO, .ref kK, .ref kV, .ref kG, .ref kP, .ref kC, .ref kD, .ref kE, .ref kF, .ref kX, .ref kY, .int 0, .ref kT, .ref kU, .int 0, .int 0, .int 0])), (kA, .inl (cI, 2, .inl (fun _ => 0)))]) [0, 2] (by decide) rfl
  have hKc := hK.sub (tys' := [(cI, .int)]) [0] rfl
  have hFc := va_free (wc := [(k0, .inr (10, [.ref kN, .ref kA, .ref kO, .ref kK, .ref kV, .ref kG, .ref kP, .ref kC, .ref kD, .ref kE, .ref kF, .ref kX, .ref kY, .int 0, .ref kT, .ref kU, .int 0, .int 0, .int 0])), (kA, .inl (cI, 2, .inl (fun _ => 0)))]) hD hS hA [0, 2] rfl
  refine va_calli (va_runV (As := [.int p0, .int p1]) (rest := []) ⟨hx, hb, hml, hown, hts⟩ (kX7_isAsked l dC dI k0 kN kA kO kK kV kG kP kC kD kE kF kX kY kT kU cI p0 p1 s.heap.size) (cwV 2 hts gX7_valueOf_X7_isAsked rfl rfl rfl (by decide +kernel) ⟨Nat.le_of_ble_eq_true rfl, Nat.le_of_ble_eq_true rfl⟩) (fPreV hN hZ hS (fun q h => hFc q h) hPc hKc hDc (ci := 10) (q0 := 0) rfl rfl) rfl rfl hl.1 rfl (lv_room (Nat.le_of_ble_eq_true rfl)) dX7_valueOf_3 ⟨Nat.le_of_ble_eq_true rfl, Nat.le_of_ble_eq_true rfl⟩) hS (fun q _ h => hFc q h) hFc (fun r u t H1 locs ht hvm hw hB hz1 hk1 hS => ?_)
  obtain ⟨hP1, hK1, hD1⟩ := hB
  rw [ht] at hP1
  have hK1 := va_K.moved hvm.symm hK1
  obtain ⟨hP, hD⟩ := va_join (wr := [(kN, .inl (cI, 2, .inl (fun _ => 0)))]) (w1 := [(k0, .inr (10, [.ref kN, .ref kA, .ref kO, .ref kK, .ref kV, .ref kG, .ref kP, .ref kC, .ref kD, .ref kE, .ref kF, .ref kX, .ref kY, .int 0, .ref kT, .ref kU, .int u, .int 0, .int 0]))]) hP hD [0, 2] [1] rfl rfl (by decide) (by decide) hk1 hFc hP1 hD1
  generalize H1 = H at hP hS ⊢
  have hP : va_P (dC, dI) vwCl [(kN, .inl (cI, 2, .inl (fun _ => 0))), (k0, .inr (10, [.ref kN, .ref kA, .ref kO, .ref kK, .ref kV, .ref kG, .ref kP, .ref kC, .ref kD, .ref kE, .ref kF, .ref kX, .ref kY, .int 0, .ref kT, .ref kU, .int u, .int 0, .int 0]))] _ := hP
  have hD : va_D A [(kN, .inl (cI, 2, .inl (fun _ => 0))), (k0, .inr (10, [.ref kN, .ref kA, .ref kO, .ref kK, .ref kV, .ref kG, .ref kP, .ref kC, .ref kD, .ref kE, .ref kF, .ref kX, .ref kY, .int 0, .ref kT, .ref kU, .int u, .int 0, .int 0]))] := hD
  rcases hw with ⟨rfl, ⟨rfl, hq⟩ | ⟨rfl, hq⟩⟩
  · skip
    have hq1 := hq
    have hP : va_P (dC, dI) vwCl [(kN, .inl (cI, 2, .inl (fun _ => 0))), (k0, .inr (10, [.ref kN, .ref kA, .ref kO, .ref kK, .ref kV, .ref kG, .ref kP, .ref kC, .ref kD, .ref kE, .ref kF, .ref kX, .ref kY, .int 0, .ref kT, .ref kU, .int 1, .int 0, .int 0]))] _ := hP
    have hD : va_D A [(kN, .inl (cI, 2, .inl (fun _ => 0))), (k0, .inr (10, [.ref kN, .ref kA, .ref kO, .ref kK, .ref kV, .ref kG, .ref kP, .ref kC, .ref kD, .ref kE, .ref kF, .ref kX, .ref kY, .int 0, .ref kT, .ref kU, .int 1, .int 0, .int 0]))] := hD
    refine lv_if_eq (tgt := 18) hx hb dX7_valueOf_6 (by decide) (fun _ => ?_) (fun h9 => absurd (by decide) h9)
    refine lv_iconst (v := (-1)) hx hb dX7_valueOf_18 (by decide) ?_
    exact ret _ 1 _ _ _ _ _ _ (Or.inl (⟨rfl, hq1⟩)) (hP.sub [1] rfl) (hK.sub [] rfl) (hD.sub [1] (by decide) rfl) hS (Nat.le_of_ble_eq_true rfl) (Nat.le_of_ble_eq_true rfl) dX7_valueOf_19
  · skip
    have hq2 := hq
    have hP : va_P (dC, dI) vwCl [(kN, .inl (cI, 2, .inl (fun _ => 0))), (k0, .inr (10, [.ref kN, .ref kA, .ref kO, .ref kK, .ref kV, .ref kG, .ref kP, .ref kC, .ref kD, .ref kE, .ref kF, .ref kX, .ref kY, .int 0, .ref kT, .ref kU, .int 2, .int 0, .int 0]))] _ := hP
    have hD : va_D A [(kN, .inl (cI, 2, .inl (fun _ => 0))), (k0, .inr (10, [.ref kN, .ref kA, .ref kO, .ref kK, .ref kV, .ref kG, .ref kP, .ref kC, .ref kD, .ref kE, .ref kF, .ref kX, .ref kY, .int 0, .ref kT, .ref kU, .int 2, .int 0, .int 0]))] := hD
    refine lv_if_eq (tgt := 18) hx hb dX7_valueOf_6 (by decide) (fun _ => ?_) (fun h9 => absurd (by decide) h9)
    refine lv_iconst (v := (-1)) hx hb dX7_valueOf_18 (by decide) ?_
    exact ret _ 2 _ _ _ _ _ _ (Or.inr (⟨rfl, (fun h9 => h9 (hq2))⟩)) (hP.sub [1] rfl) (hK.sub [] rfl) (hD.sub [1] (by decide) rfl) hS (Nat.le_of_ble_eq_true rfl) (Nat.le_of_ble_eq_true rfl) dX7_valueOf_19

set_option maxHeartbeats 4000000 in
set_option maxRecDepth 100000 in
/-- the model: netOf on a fresh one -/
theorem kX7_netOf (l : Launch) (dC : Nat → ClassId) (dI : Nat → Nat → Nat) (k0 kN kA kO kK kV kG kP kC kD kE kF kX kY kT kU : Nat) (cI : ClassId) (p0 p1 p2 : Int32) (sz : Nat) : fMi l yX7_netOf wsX7_netOf ({ frames := 3, cells := 0, slots := 0, locals := 69 } : Room) dC dI [.ref k0, .int p0, .int p1, .int p2] [(k0, .inr (10, [.ref kN, .ref kA, .ref kO, .ref kK, .ref kV, .ref kG, .ref kP, .ref kC, .ref kD, .ref kE, .ref kF, .ref kX, .ref kY, .int 0, .ref kT, .ref kU, .int 0, .int 0, .int 0])), (kN, .inl (cI, 2, .inl (fun _ => 0))), (kA, .inl (cI, 2, .inl (fun _ => 0)))] [(cI, .int)] sz (fun (r : Int32) (u : Int32) => u = 1 ∧ (¬ ((p0 = 0) ∨ (p0 = 1))) ∨ u = 2 ∧ (¬ (¬ ((p0 = 0) ∨ (p0 = 1))))) (fun u => [(k0, .inr (10, [.ref kN, .ref kA, .ref kO, .ref kK, .ref kV, .ref kG, .ref kP, .ref kC, .ref kD, .ref kE, .ref kF, .ref kX, .ref kY, .int 0, .ref kT, .ref kU, .int u, .int 0, .int 0]))]) (fun u => []) := by
  refine oP_i (y := yX7_netOf) (cc := cX7_netOf) (maxL := 4) (by decide) rfl (Nat.le_of_ble_eq_true rfl) ?_
  intro p e s m args below meth c ls A Q hx hb hr hml hown hts hN hZ hA hin hlk hP hK hD hl ret
  have hS : va_S A s.heap s.heap [] := va_S.rf
  have hl : lv_has ls 4 [(0, .ref k0), (1, .int p0), (2, .int p1), (3, .int p2)] := hl
  have hP : va_P (dC, dI) vwCl [(k0, .inr (10, [.ref kN, .ref kA, .ref kO, .ref kK, .ref kV, .ref kG, .ref kP, .ref kC, .ref kD, .ref kE, .ref kF, .ref kX, .ref kY, .int 0, .ref kT, .ref kU, .int 0, .int 0, .int 0])), (kN, .inl (cI, 2, .inl (fun _ => 0))), (kA, .inl (cI, 2, .inl (fun _ => 0)))] _ := hP
  have hD : va_D A [(k0, .inr (10, [.ref kN, .ref kA, .ref kO, .ref kK, .ref kV, .ref kG, .ref kP, .ref kC, .ref kD, .ref kE, .ref kF, .ref kX, .ref kY, .int 0, .ref kT, .ref kU, .int 0, .int 0, .int 0])), (kN, .inl (cI, 2, .inl (fun _ => 0))), (kA, .inl (cI, 2, .inl (fun _ => 0)))] := hD
  refine lv_aload_n hx hb dX7_netOf_0 rfl (lv_at hl 0 rfl) ?_
  refine lv_iload_n hx hb dX7_netOf_1 rfl (lv_at hl 1 rfl) ?_
  refine lv_iload_n hx hb dX7_netOf_2 rfl (lv_at hl 2 rfl) ?_
  have hPc := hP.sub (ws' := [(k0, .inr (10, [.ref kN, .ref kA, .ref kO, .ref kK, .ref kV, .ref kG, .ref kP, .ref kC, .ref kD, .ref kE, .ref kF, .ref kX, .ref kY, .int 0, .ref kT, .ref kU, .int 0, .int 0, .int 0])), (kA, .inl (cI, 2, .inl (fun _ => 0)))]) [0, 2] rfl
  have hDc := hD.sub (ws' := [(k0, .inr (10, [.ref kN, .ref kA, .ref kO, .ref kK, .ref kV, .ref kG, .ref kP, .ref kC, .ref kD, .ref kE, .ref kF, .ref kX, .ref kY, .int 0, .ref kT, .ref kU, .int 0, .int 0, .int 0])), (kA, .inl (cI, 2, .inl (fun _ => 0)))]) [0, 2] (by decide) rfl
  have hKc := hK.sub (tys' := [(cI, .int)]) [0] rfl
  have hFc := va_free (wc := [(k0, .inr (10, [.ref kN, .ref kA, .ref kO, .ref kK, .ref kV, .ref kG, .ref kP, .ref kC, .ref kD, .ref kE, .ref kF, .ref kX, .ref kY, .int 0, .ref kT, .ref kU, .int 0, .int 0, .int 0])), (kA, .inl (cI, 2, .inl (fun _ => 0)))]) hD hS hA [0, 2] rfl
  refine va_calli (va_runV (As := [.int p0, .int p1]) (rest := []) ⟨hx, hb, hml, hown, hts⟩ (kX7_isAsked l dC dI k0 kN kA kO kK kV kG kP kC kD kE kF kX kY kT kU cI p0 p1 s.heap.size) (cwV 2 hts gX7_netOf_X7_isAsked rfl rfl rfl (by decide +kernel) ⟨Nat.le_of_ble_eq_true rfl, Nat.le_of_ble_eq_true rfl⟩) (fPreV hN hZ hS (fun q h => hFc q h) hPc hKc hDc (ci := 10) (q0 := 0) rfl rfl) rfl rfl hl.1 rfl (lv_room (Nat.le_of_ble_eq_true rfl)) dX7_netOf_3 ⟨Nat.le_of_ble_eq_true rfl, Nat.le_of_ble_eq_true rfl⟩) hS (fun q _ h => hFc q h) hFc (fun r u t H1 locs ht hvm hw hB hz1 hk1 hS => ?_)
  obtain ⟨hP1, hK1, hD1⟩ := hB
  rw [ht] at hP1
  have hK1 := va_K.moved hvm.symm hK1
  obtain ⟨hP, hD⟩ := va_join (wr := [(kN, .inl (cI, 2, .inl (fun _ => 0)))]) (w1 := [(k0, .inr (10, [.ref kN, .ref kA, .ref kO, .ref kK, .ref kV, .ref kG, .ref kP, .ref kC, .ref kD, .ref kE, .ref kF, .ref kX, .ref kY, .int 0, .ref kT, .ref kU, .int u, .int 0, .int 0]))]) hP hD [0, 2] [1] rfl rfl (by decide) (by decide) hk1 hFc hP1 hD1
  generalize H1 = H at hP hS ⊢
  have hP : va_P (dC, dI) vwCl [(kN, .inl (cI, 2, .inl (fun _ => 0))), (k0, .inr (10, [.ref kN, .ref kA, .ref kO, .ref kK, .ref kV, .ref kG, .ref kP, .ref kC, .ref kD, .ref kE, .ref kF, .ref kX, .ref kY, .int 0, .ref kT, .ref kU, .int u, .int 0, .int 0]))] _ := hP
  have hD : va_D A [(kN, .inl (cI, 2, .inl (fun _ => 0))), (k0, .inr (10, [.ref kN, .ref kA, .ref kO, .ref kK, .ref kV, .ref kG, .ref kP, .ref kC, .ref kD, .ref kE, .ref kF, .ref kX, .ref kY, .int 0, .ref kT, .ref kU, .int u, .int 0, .int 0]))] := hD
  rcases hw with ⟨rfl, ⟨rfl, hq⟩ | ⟨rfl, hq⟩⟩
  · skip
    have hq1 := hq
    have hP : va_P (dC, dI) vwCl [(kN, .inl (cI, 2, .inl (fun _ => 0))), (k0, .inr (10, [.ref kN, .ref kA, .ref kO, .ref kK, .ref kV, .ref kG, .ref kP, .ref kC, .ref kD, .ref kE, .ref kF, .ref kX, .ref kY, .int 0, .ref kT, .ref kU, .int 1, .int 0, .int 0]))] _ := hP
    have hD : va_D A [(kN, .inl (cI, 2, .inl (fun _ => 0))), (k0, .inr (10, [.ref kN, .ref kA, .ref kO, .ref kK, .ref kV, .ref kG, .ref kP, .ref kC, .ref kD, .ref kE, .ref kF, .ref kX, .ref kY, .int 0, .ref kT, .ref kU, .int 1, .int 0, .int 0]))] := hD
    refine lv_if_ne (tgt := 11) hx hb dX7_netOf_6 (by decide) (fun h9 => absurd (by decide) h9) (fun _ => ?_)
    refine lv_iconst (v := (-1)) hx hb dX7_netOf_9 (by decide) ?_
    exact ret _ 1 _ _ _ _ _ _ (Or.inl (⟨rfl, hq1⟩)) (hP.sub [1] rfl) (hK.sub [] rfl) (hD.sub [1] (by decide) rfl) hS (Nat.le_of_ble_eq_true rfl) (Nat.le_of_ble_eq_true rfl) dX7_netOf_10
  · skip
    have hq2 := hq
    have hP : va_P (dC, dI) vwCl [(kN, .inl (cI, 2, .inl (fun _ => 0))), (k0, .inr (10, [.ref kN, .ref kA, .ref kO, .ref kK, .ref kV, .ref kG, .ref kP, .ref kC, .ref kD, .ref kE, .ref kF, .ref kX, .ref kY, .int 0, .ref kT, .ref kU, .int 2, .int 0, .int 0]))] _ := hP
    have hD : va_D A [(kN, .inl (cI, 2, .inl (fun _ => 0))), (k0, .inr (10, [.ref kN, .ref kA, .ref kO, .ref kK, .ref kV, .ref kG, .ref kP, .ref kC, .ref kD, .ref kE, .ref kF, .ref kX, .ref kY, .int 0, .ref kT, .ref kU, .int 2, .int 0, .int 0]))] := hD
    refine lv_if_ne (tgt := 11) hx hb dX7_netOf_6 (by decide) (fun h9 => absurd (by decide) h9) (fun _ => ?_)
    refine lv_iconst (v := (-1)) hx hb dX7_netOf_9 (by decide) ?_
    exact ret _ 2 _ _ _ _ _ _ (Or.inr (⟨rfl, (fun h9 => h9 (hq2))⟩)) (hP.sub [1] rfl) (hK.sub [] rfl) (hD.sub [1] (by decide) rfl) hS (Nat.le_of_ble_eq_true rfl) (Nat.le_of_ble_eq_true rfl) dX7_netOf_10

set_option maxHeartbeats 4000000 in
set_option maxRecDepth 100000 in
/-- the model: pinsOn on a fresh one -/
theorem kX7_pinsOn (l : Launch) (dC : Nat → ClassId) (dI : Nat → Nat → Nat) (k0 kN kA kO kK kV kG kP kC kD kE kF kX kY kT kU : Nat) (cI : ClassId) (p0 p1 : Int32) (sz : Nat) : fMi l yX7_pinsOn wsX7_pinsOn ({ frames := 3, cells := 0, slots := 0, locals := 69 } : Room) dC dI [.ref k0, .int p0, .int p1] [(k0, .inr (10, [.ref kN, .ref kA, .ref kO, .ref kK, .ref kV, .ref kG, .ref kP, .ref kC, .ref kD, .ref kE, .ref kF, .ref kX, .ref kY, .int 0, .ref kT, .ref kU, .int 0, .int 0, .int 0])), (kN, .inl (cI, 2, .inl (fun _ => 0))), (kA, .inl (cI, 2, .inl (fun _ => 0)))] [(cI, .int)] sz (fun (r : Int32) (u : Int32) => u = 1 ∧ (¬ ((p0 = 0) ∨ (p0 = 1))) ∨ u = 2 ∧ (¬ (¬ ((p0 = 0) ∨ (p0 = 1))))) (fun u => [(k0, .inr (10, [.ref kN, .ref kA, .ref kO, .ref kK, .ref kV, .ref kG, .ref kP, .ref kC, .ref kD, .ref kE, .ref kF, .ref kX, .ref kY, .int 0, .ref kT, .ref kU, .int u, .int 0, .int 0]))]) (fun u => []) := by
  refine oP_i (y := yX7_pinsOn) (cc := cX7_pinsOn) (maxL := 3) (by decide) rfl (Nat.le_of_ble_eq_true rfl) ?_
  intro p e s m args below meth c ls A Q hx hb hr hml hown hts hN hZ hA hin hlk hP hK hD hl ret
  have hS : va_S A s.heap s.heap [] := va_S.rf
  have hl : lv_has ls 3 [(0, .ref k0), (1, .int p0), (2, .int p1)] := hl
  have hP : va_P (dC, dI) vwCl [(k0, .inr (10, [.ref kN, .ref kA, .ref kO, .ref kK, .ref kV, .ref kG, .ref kP, .ref kC, .ref kD, .ref kE, .ref kF, .ref kX, .ref kY, .int 0, .ref kT, .ref kU, .int 0, .int 0, .int 0])), (kN, .inl (cI, 2, .inl (fun _ => 0))), (kA, .inl (cI, 2, .inl (fun _ => 0)))] _ := hP
  have hD : va_D A [(k0, .inr (10, [.ref kN, .ref kA, .ref kO, .ref kK, .ref kV, .ref kG, .ref kP, .ref kC, .ref kD, .ref kE, .ref kF, .ref kX, .ref kY, .int 0, .ref kT, .ref kU, .int 0, .int 0, .int 0])), (kN, .inl (cI, 2, .inl (fun _ => 0))), (kA, .inl (cI, 2, .inl (fun _ => 0)))] := hD
  refine lv_aload_n hx hb dX7_pinsOn_0 rfl (lv_at hl 0 rfl) ?_
  refine lv_iload_n hx hb dX7_pinsOn_1 rfl (lv_at hl 1 rfl) ?_
  refine lv_iload_n hx hb dX7_pinsOn_2 rfl (lv_at hl 2 rfl) ?_
  have hPc := hP.sub (ws' := [(k0, .inr (10, [.ref kN, .ref kA, .ref kO, .ref kK, .ref kV, .ref kG, .ref kP, .ref kC, .ref kD, .ref kE, .ref kF, .ref kX, .ref kY, .int 0, .ref kT, .ref kU, .int 0, .int 0, .int 0])), (kN, .inl (cI, 2, .inl (fun _ => 0)))]) [0, 1] rfl
  have hDc := hD.sub (ws' := [(k0, .inr (10, [.ref kN, .ref kA, .ref kO, .ref kK, .ref kV, .ref kG, .ref kP, .ref kC, .ref kD, .ref kE, .ref kF, .ref kX, .ref kY, .int 0, .ref kT, .ref kU, .int 0, .int 0, .int 0])), (kN, .inl (cI, 2, .inl (fun _ => 0)))]) [0, 1] (by decide) rfl
  have hKc := hK.sub (tys' := [(cI, .int)]) [0] rfl
  have hFc := va_free (wc := [(k0, .inr (10, [.ref kN, .ref kA, .ref kO, .ref kK, .ref kV, .ref kG, .ref kP, .ref kC, .ref kD, .ref kE, .ref kF, .ref kX, .ref kY, .int 0, .ref kT, .ref kU, .int 0, .int 0, .int 0])), (kN, .inl (cI, 2, .inl (fun _ => 0)))]) hD hS hA [0, 1] rfl
  refine va_calli (va_runV (As := [.int p0, .int p1]) (rest := []) ⟨hx, hb, hml, hown, hts⟩ (kX7_isNetAsked l dC dI k0 kN kA kO kK kV kG kP kC kD kE kF kX kY kT kU cI p0 p1 s.heap.size) (cwV 2 hts gX7_pinsOn_X7_isNetAsked rfl rfl rfl (by decide +kernel) ⟨Nat.le_of_ble_eq_true rfl, Nat.le_of_ble_eq_true rfl⟩) (fPreV hN hZ hS (fun q h => hFc q h) hPc hKc hDc (ci := 10) (q0 := 0) rfl rfl) rfl rfl hl.1 rfl (lv_room (Nat.le_of_ble_eq_true rfl)) dX7_pinsOn_3 ⟨Nat.le_of_ble_eq_true rfl, Nat.le_of_ble_eq_true rfl⟩) hS (fun q _ h => hFc q h) hFc (fun r u t H1 locs ht hvm hw hB hz1 hk1 hS => ?_)
  obtain ⟨hP1, hK1, hD1⟩ := hB
  rw [ht] at hP1
  have hK1 := va_K.moved hvm.symm hK1
  obtain ⟨hP, hD⟩ := va_join (wr := [(kA, .inl (cI, 2, .inl (fun _ => 0)))]) (w1 := [(k0, .inr (10, [.ref kN, .ref kA, .ref kO, .ref kK, .ref kV, .ref kG, .ref kP, .ref kC, .ref kD, .ref kE, .ref kF, .ref kX, .ref kY, .int 0, .ref kT, .ref kU, .int u, .int 0, .int 0]))]) hP hD [0, 1] [2] rfl rfl (by decide) (by decide) hk1 hFc hP1 hD1
  generalize H1 = H at hP hS ⊢
  have hP : va_P (dC, dI) vwCl [(kA, .inl (cI, 2, .inl (fun _ => 0))), (k0, .inr (10, [.ref kN, .ref kA, .ref kO, .ref kK, .ref kV, .ref kG, .ref kP, .ref kC, .ref kD, .ref kE, .ref kF, .ref kX, .ref kY, .int 0, .ref kT, .ref kU, .int u, .int 0, .int 0]))] _ := hP
  have hD : va_D A [(kA, .inl (cI, 2, .inl (fun _ => 0))), (k0, .inr (10, [.ref kN, .ref kA, .ref kO, .ref kK, .ref kV, .ref kG, .ref kP, .ref kC, .ref kD, .ref kE, .ref kF, .ref kX, .ref kY, .int 0, .ref kT, .ref kU, .int u, .int 0, .int 0]))] := hD
  rcases hw with ⟨rfl, ⟨rfl, hq⟩ | ⟨rfl, hq⟩⟩
  · skip
    have hq1 := hq
    have hP : va_P (dC, dI) vwCl [(kA, .inl (cI, 2, .inl (fun _ => 0))), (k0, .inr (10, [.ref kN, .ref kA, .ref kO, .ref kK, .ref kV, .ref kG, .ref kP, .ref kC, .ref kD, .ref kE, .ref kF, .ref kX, .ref kY, .int 0, .ref kT, .ref kU, .int 1, .int 0, .int 0]))] _ := hP
    have hD : va_D A [(kA, .inl (cI, 2, .inl (fun _ => 0))), (k0, .inr (10, [.ref kN, .ref kA, .ref kO, .ref kK, .ref kV, .ref kG, .ref kP, .ref kC, .ref kD, .ref kE, .ref kF, .ref kX, .ref kY, .int 0, .ref kT, .ref kU, .int 1, .int 0, .int 0]))] := hD
    refine lv_if_eq (tgt := 18) hx hb dX7_pinsOn_6 (by decide) (fun _ => ?_) (fun h9 => absurd (by decide) h9)
    refine lv_iconst (v := (-1)) hx hb dX7_pinsOn_18 (by decide) ?_
    exact ret _ 1 _ _ _ _ _ _ (Or.inl (⟨rfl, hq1⟩)) (hP.sub [1] rfl) (hK.sub [] rfl) (hD.sub [1] (by decide) rfl) hS (Nat.le_of_ble_eq_true rfl) (Nat.le_of_ble_eq_true rfl) dX7_pinsOn_19
  · skip
    have hq2 := hq
    have hP : va_P (dC, dI) vwCl [(kA, .inl (cI, 2, .inl (fun _ => 0))), (k0, .inr (10, [.ref kN, .ref kA, .ref kO, .ref kK, .ref kV, .ref kG, .ref kP, .ref kC, .ref kD, .ref kE, .ref kF, .ref kX, .ref kY, .int 0, .ref kT, .ref kU, .int 2, .int 0, .int 0]))] _ := hP
    have hD : va_D A [(kA, .inl (cI, 2, .inl (fun _ => 0))), (k0, .inr (10, [.ref kN, .ref kA, .ref kO, .ref kK, .ref kV, .ref kG, .ref kP, .ref kC, .ref kD, .ref kE, .ref kF, .ref kX, .ref kY, .int 0, .ref kT, .ref kU, .int 2, .int 0, .int 0]))] := hD
    refine lv_if_eq (tgt := 18) hx hb dX7_pinsOn_6 (by decide) (fun _ => ?_) (fun h9 => absurd (by decide) h9)
    refine lv_iconst (v := (-1)) hx hb dX7_pinsOn_18 (by decide) ?_
    exact ret _ 2 _ _ _ _ _ _ (Or.inr (⟨rfl, (fun h9 => h9 (hq2))⟩)) (hP.sub [1] rfl) (hK.sub [] rfl) (hD.sub [1] (by decide) rfl) hS (Nat.le_of_ble_eq_true rfl) (Nat.le_of_ble_eq_true rfl) dX7_pinsOn_19

set_option maxHeartbeats 4000000 in
set_option maxRecDepth 100000 in
/-- the model: distance on a fresh one -/
theorem kX7_distance (l : Launch) (dC : Nat → ClassId) (dI : Nat → Nat → Nat) (k0 kN kA kO kK kV kG kP kC kD kE kF kX kY kT kU : Nat) (cI : ClassId) (p0 p1 : Int32) (sz : Nat) : fMi l yX7_distance wsX7_distance ({ frames := 3, cells := 0, slots := 0, locals := 69 } : Room) dC dI [.ref k0, .int p0, .int p1] [(k0, .inr (10, [.ref kN, .ref kA, .ref kO, .ref kK, .ref kV, .ref kG, .ref kP, .ref kC, .ref kD, .ref kE, .ref kF, .ref kX, .ref kY, .int 0, .ref kT, .ref kU, .int 0, .int 0, .int 0])), (kN, .inl (cI, 2, .inl (fun _ => 0))), (kA, .inl (cI, 2, .inl (fun _ => 0)))] [(cI, .int)] sz (fun (r : Int32) (u : Int32) => u = 1 ∧ (¬ ((p0 = 0) ∨ (p0 = 1))) ∨ u = 2 ∧ (¬ (¬ ((p0 = 0) ∨ (p0 = 1))))) (fun u => [(k0, .inr (10, [.ref kN, .ref kA, .ref kO, .ref kK, .ref kV, .ref kG, .ref kP, .ref kC, .ref kD, .ref kE, .ref kF, .ref kX, .ref kY, .int 0, .ref kT, .ref kU, .int u, .int 0, .int 0]))]) (fun u => []) := by
  refine oP_i (y := yX7_distance) (cc := cX7_distance) (maxL := 3) (by decide) rfl (Nat.le_of_ble_eq_true rfl) ?_
  intro p e s m args below meth c ls A Q hx hb hr hml hown hts hN hZ hA hin hlk hP hK hD hl ret
  have hS : va_S A s.heap s.heap [] := va_S.rf
  have hl : lv_has ls 3 [(0, .ref k0), (1, .int p0), (2, .int p1)] := hl
  have hP : va_P (dC, dI) vwCl [(k0, .inr (10, [.ref kN, .ref kA, .ref kO, .ref kK, .ref kV, .ref kG, .ref kP, .ref kC, .ref kD, .ref kE, .ref kF, .ref kX, .ref kY, .int 0, .ref kT, .ref kU, .int 0, .int 0, .int 0])), (kN, .inl (cI, 2, .inl (fun _ => 0))), (kA, .inl (cI, 2, .inl (fun _ => 0)))] _ := hP
  have hD : va_D A [(k0, .inr (10, [.ref kN, .ref kA, .ref kO, .ref kK, .ref kV, .ref kG, .ref kP, .ref kC, .ref kD, .ref kE, .ref kF, .ref kX, .ref kY, .int 0, .ref kT, .ref kU, .int 0, .int 0, .int 0])), (kN, .inl (cI, 2, .inl (fun _ => 0))), (kA, .inl (cI, 2, .inl (fun _ => 0)))] := hD
  refine lv_aload_n hx hb dX7_distance_0 rfl (lv_at hl 0 rfl) ?_
  refine lv_iload_n hx hb dX7_distance_1 rfl (lv_at hl 1 rfl) ?_
  refine lv_iload_n hx hb dX7_distance_2 rfl (lv_at hl 2 rfl) ?_
  have hPc := hP.sub (ws' := [(k0, .inr (10, [.ref kN, .ref kA, .ref kO, .ref kK, .ref kV, .ref kG, .ref kP, .ref kC, .ref kD, .ref kE, .ref kF, .ref kX, .ref kY, .int 0, .ref kT, .ref kU, .int 0, .int 0, .int 0])), (kN, .inl (cI, 2, .inl (fun _ => 0)))]) [0, 1] rfl
  have hDc := hD.sub (ws' := [(k0, .inr (10, [.ref kN, .ref kA, .ref kO, .ref kK, .ref kV, .ref kG, .ref kP, .ref kC, .ref kD, .ref kE, .ref kF, .ref kX, .ref kY, .int 0, .ref kT, .ref kU, .int 0, .int 0, .int 0])), (kN, .inl (cI, 2, .inl (fun _ => 0)))]) [0, 1] (by decide) rfl
  have hKc := hK.sub (tys' := [(cI, .int)]) [0] rfl
  have hFc := va_free (wc := [(k0, .inr (10, [.ref kN, .ref kA, .ref kO, .ref kK, .ref kV, .ref kG, .ref kP, .ref kC, .ref kD, .ref kE, .ref kF, .ref kX, .ref kY, .int 0, .ref kT, .ref kU, .int 0, .int 0, .int 0])), (kN, .inl (cI, 2, .inl (fun _ => 0)))]) hD hS hA [0, 1] rfl
  refine va_calli (va_runV (As := [.int p0, .int p1]) (rest := []) ⟨hx, hb, hml, hown, hts⟩ (kX7_isNetAsked l dC dI k0 kN kA kO kK kV kG kP kC kD kE kF kX kY kT kU cI p0 p1 s.heap.size) (cwV 2 hts gX7_distance_X7_isNetAsked rfl rfl rfl (by decide +kernel) ⟨Nat.le_of_ble_eq_true rfl, Nat.le_of_ble_eq_true rfl⟩) (fPreV hN hZ hS (fun q h => hFc q h) hPc hKc hDc (ci := 10) (q0 := 0) rfl rfl) rfl rfl hl.1 rfl (lv_room (Nat.le_of_ble_eq_true rfl)) dX7_distance_3 ⟨Nat.le_of_ble_eq_true rfl, Nat.le_of_ble_eq_true rfl⟩) hS (fun q _ h => hFc q h) hFc (fun r u t H1 locs ht hvm hw hB hz1 hk1 hS => ?_)
  obtain ⟨hP1, hK1, hD1⟩ := hB
  rw [ht] at hP1
  have hK1 := va_K.moved hvm.symm hK1
  obtain ⟨hP, hD⟩ := va_join (wr := [(kA, .inl (cI, 2, .inl (fun _ => 0)))]) (w1 := [(k0, .inr (10, [.ref kN, .ref kA, .ref kO, .ref kK, .ref kV, .ref kG, .ref kP, .ref kC, .ref kD, .ref kE, .ref kF, .ref kX, .ref kY, .int 0, .ref kT, .ref kU, .int u, .int 0, .int 0]))]) hP hD [0, 1] [2] rfl rfl (by decide) (by decide) hk1 hFc hP1 hD1
  generalize H1 = H at hP hS ⊢
  have hP : va_P (dC, dI) vwCl [(kA, .inl (cI, 2, .inl (fun _ => 0))), (k0, .inr (10, [.ref kN, .ref kA, .ref kO, .ref kK, .ref kV, .ref kG, .ref kP, .ref kC, .ref kD, .ref kE, .ref kF, .ref kX, .ref kY, .int 0, .ref kT, .ref kU, .int u, .int 0, .int 0]))] _ := hP
  have hD : va_D A [(kA, .inl (cI, 2, .inl (fun _ => 0))), (k0, .inr (10, [.ref kN, .ref kA, .ref kO, .ref kK, .ref kV, .ref kG, .ref kP, .ref kC, .ref kD, .ref kE, .ref kF, .ref kX, .ref kY, .int 0, .ref kT, .ref kU, .int u, .int 0, .int 0]))] := hD
  rcases hw with ⟨rfl, ⟨rfl, hq⟩ | ⟨rfl, hq⟩⟩
  · skip
    have hq1 := hq
    have hP : va_P (dC, dI) vwCl [(kA, .inl (cI, 2, .inl (fun _ => 0))), (k0, .inr (10, [.ref kN, .ref kA, .ref kO, .ref kK, .ref kV, .ref kG, .ref kP, .ref kC, .ref kD, .ref kE, .ref kF, .ref kX, .ref kY, .int 0, .ref kT, .ref kU, .int 1, .int 0, .int 0]))] _ := hP
    have hD : va_D A [(kA, .inl (cI, 2, .inl (fun _ => 0))), (k0, .inr (10, [.ref kN, .ref kA, .ref kO, .ref kK, .ref kV, .ref kG, .ref kP, .ref kC, .ref kD, .ref kE, .ref kF, .ref kX, .ref kY, .int 0, .ref kT, .ref kU, .int 1, .int 0, .int 0]))] := hD
    refine lv_if_eq (tgt := 18) hx hb dX7_distance_6 (by decide) (fun _ => ?_) (fun h9 => absurd (by decide) h9)
    refine lv_iconst (v := (-1)) hx hb dX7_distance_18 (by decide) ?_
    exact ret _ 1 _ _ _ _ _ _ (Or.inl (⟨rfl, hq1⟩)) (hP.sub [1] rfl) (hK.sub [] rfl) (hD.sub [1] (by decide) rfl) hS (Nat.le_of_ble_eq_true rfl) (Nat.le_of_ble_eq_true rfl) dX7_distance_19
  · skip
    have hq2 := hq
    have hP : va_P (dC, dI) vwCl [(kA, .inl (cI, 2, .inl (fun _ => 0))), (k0, .inr (10, [.ref kN, .ref kA, .ref kO, .ref kK, .ref kV, .ref kG, .ref kP, .ref kC, .ref kD, .ref kE, .ref kF, .ref kX, .ref kY, .int 0, .ref kT, .ref kU, .int 2, .int 0, .int 0]))] _ := hP
    have hD : va_D A [(kA, .inl (cI, 2, .inl (fun _ => 0))), (k0, .inr (10, [.ref kN, .ref kA, .ref kO, .ref kK, .ref kV, .ref kG, .ref kP, .ref kC, .ref kD, .ref kE, .ref kF, .ref kX, .ref kY, .int 0, .ref kT, .ref kU, .int 2, .int 0, .int 0]))] := hD
    refine lv_if_eq (tgt := 18) hx hb dX7_distance_6 (by decide) (fun _ => ?_) (fun h9 => absurd (by decide) h9)
    refine lv_iconst (v := (-1)) hx hb dX7_distance_18 (by decide) ?_
    exact ret _ 2 _ _ _ _ _ _ (Or.inr (⟨rfl, (fun h9 => h9 (hq2))⟩)) (hP.sub [1] rfl) (hK.sub [] rfl) (hD.sub [1] (by decide) rfl) hS (Nat.le_of_ble_eq_true rfl) (Nat.le_of_ble_eq_true rfl) dX7_distance_19

set_option maxHeartbeats 4000000 in
set_option maxRecDepth 100000 in
/-- the model: labelLength on a fresh one -/
theorem kX7_labelLength (l : Launch) (dC : Nat → ClassId) (dI : Nat → Nat → Nat) (k0 kN kA kO kK kV kG kP kC kD kE kF kX kY kT kU : Nat) (cI : ClassId) (p0 p1 : Int32) (sz : Nat) : fMi l yX7_labelLength wsX7_labelLength ({ frames := 3, cells := 0, slots := 0, locals := 69 } : Room) dC dI [.ref k0, .int p0, .int p1] [(k0, .inr (10, [.ref kN, .ref kA, .ref kO, .ref kK, .ref kV, .ref kG, .ref kP, .ref kC, .ref kD, .ref kE, .ref kF, .ref kX, .ref kY, .int 0, .ref kT, .ref kU, .int 0, .int 0, .int 0])), (kN, .inl (cI, 2, .inl (fun _ => 0))), (kA, .inl (cI, 2, .inl (fun _ => 0)))] [(cI, .int)] sz (fun (r : Int32) (u : Int32) => u = 1 ∧ (¬ ((p0 = 0) ∨ (p0 = 1))) ∨ u = 2 ∧ (¬ (¬ ((p0 = 0) ∨ (p0 = 1))))) (fun u => [(k0, .inr (10, [.ref kN, .ref kA, .ref kO, .ref kK, .ref kV, .ref kG, .ref kP, .ref kC, .ref kD, .ref kE, .ref kF, .ref kX, .ref kY, .int 0, .ref kT, .ref kU, .int u, .int 0, .int 0]))]) (fun u => []) := by
  refine oP_i (y := yX7_labelLength) (cc := cX7_labelLength) (maxL := 3) (by decide) rfl (Nat.le_of_ble_eq_true rfl) ?_
  intro p e s m args below meth c ls A Q hx hb hr hml hown hts hN hZ hA hin hlk hP hK hD hl ret
  have hS : va_S A s.heap s.heap [] := va_S.rf
  have hl : lv_has ls 3 [(0, .ref k0), (1, .int p0), (2, .int p1)] := hl
  have hP : va_P (dC, dI) vwCl [(k0, .inr (10, [.ref kN, .ref kA, .ref kO, .ref kK, .ref kV, .ref kG, .ref kP, .ref kC, .ref kD, .ref kE, .ref kF, .ref kX, .ref kY, .int 0, .ref kT, .ref kU, .int 0, .int 0, .int 0])), (kN, .inl (cI, 2, .inl (fun _ => 0))), (kA, .inl (cI, 2, .inl (fun _ => 0)))] _ := hP
  have hD : va_D A [(k0, .inr (10, [.ref kN, .ref kA, .ref kO, .ref kK, .ref kV, .ref kG, .ref kP, .ref kC, .ref kD, .ref kE, .ref kF, .ref kX, .ref kY, .int 0, .ref kT, .ref kU, .int 0, .int 0, .int 0])), (kN, .inl (cI, 2, .inl (fun _ => 0))), (kA, .inl (cI, 2, .inl (fun _ => 0)))] := hD
  refine lv_aload_n hx hb dX7_labelLength_0 rfl (lv_at hl 0 rfl) ?_
  refine lv_iload_n hx hb dX7_labelLength_1 rfl (lv_at hl 1 rfl) ?_
  refine lv_iload_n hx hb dX7_labelLength_2 rfl (lv_at hl 2 rfl) ?_
  have hPc := hP.sub (ws' := [(k0, .inr (10, [.ref kN, .ref kA, .ref kO, .ref kK, .ref kV, .ref kG, .ref kP, .ref kC, .ref kD, .ref kE, .ref kF, .ref kX, .ref kY, .int 0, .ref kT, .ref kU, .int 0, .int 0, .int 0])), (kA, .inl (cI, 2, .inl (fun _ => 0)))]) [0, 2] rfl
  have hDc := hD.sub (ws' := [(k0, .inr (10, [.ref kN, .ref kA, .ref kO, .ref kK, .ref kV, .ref kG, .ref kP, .ref kC, .ref kD, .ref kE, .ref kF, .ref kX, .ref kY, .int 0, .ref kT, .ref kU, .int 0, .int 0, .int 0])), (kA, .inl (cI, 2, .inl (fun _ => 0)))]) [0, 2] (by decide) rfl
  have hKc := hK.sub (tys' := [(cI, .int)]) [0] rfl
  have hFc := va_free (wc := [(k0, .inr (10, [.ref kN, .ref kA, .ref kO, .ref kK, .ref kV, .ref kG, .ref kP, .ref kC, .ref kD, .ref kE, .ref kF, .ref kX, .ref kY, .int 0, .ref kT, .ref kU, .int 0, .int 0, .int 0])), (kA, .inl (cI, 2, .inl (fun _ => 0)))]) hD hS hA [0, 2] rfl
  refine va_calli (va_runV (As := [.int p0, .int p1]) (rest := []) ⟨hx, hb, hml, hown, hts⟩ (kX7_isAsked l dC dI k0 kN kA kO kK kV kG kP kC kD kE kF kX kY kT kU cI p0 p1 s.heap.size) (cwV 2 hts gX7_labelLength_X7_isAsked rfl rfl rfl (by decide +kernel) ⟨Nat.le_of_ble_eq_true rfl, Nat.le_of_ble_eq_true rfl⟩) (fPreV hN hZ hS (fun q h => hFc q h) hPc hKc hDc (ci := 10) (q0 := 0) rfl rfl) rfl rfl hl.1 rfl (lv_room (Nat.le_of_ble_eq_true rfl)) dX7_labelLength_3 ⟨Nat.le_of_ble_eq_true rfl, Nat.le_of_ble_eq_true rfl⟩) hS (fun q _ h => hFc q h) hFc (fun r u t H1 locs ht hvm hw hB hz1 hk1 hS => ?_)
  obtain ⟨hP1, hK1, hD1⟩ := hB
  rw [ht] at hP1
  have hK1 := va_K.moved hvm.symm hK1
  obtain ⟨hP, hD⟩ := va_join (wr := [(kN, .inl (cI, 2, .inl (fun _ => 0)))]) (w1 := [(k0, .inr (10, [.ref kN, .ref kA, .ref kO, .ref kK, .ref kV, .ref kG, .ref kP, .ref kC, .ref kD, .ref kE, .ref kF, .ref kX, .ref kY, .int 0, .ref kT, .ref kU, .int u, .int 0, .int 0]))]) hP hD [0, 2] [1] rfl rfl (by decide) (by decide) hk1 hFc hP1 hD1
  generalize H1 = H at hP hS ⊢
  have hP : va_P (dC, dI) vwCl [(kN, .inl (cI, 2, .inl (fun _ => 0))), (k0, .inr (10, [.ref kN, .ref kA, .ref kO, .ref kK, .ref kV, .ref kG, .ref kP, .ref kC, .ref kD, .ref kE, .ref kF, .ref kX, .ref kY, .int 0, .ref kT, .ref kU, .int u, .int 0, .int 0]))] _ := hP
  have hD : va_D A [(kN, .inl (cI, 2, .inl (fun _ => 0))), (k0, .inr (10, [.ref kN, .ref kA, .ref kO, .ref kK, .ref kV, .ref kG, .ref kP, .ref kC, .ref kD, .ref kE, .ref kF, .ref kX, .ref kY, .int 0, .ref kT, .ref kU, .int u, .int 0, .int 0]))] := hD
  rcases hw with ⟨rfl, ⟨rfl, hq⟩ | ⟨rfl, hq⟩⟩
  · skip
    have hq1 := hq
    have hP : va_P (dC, dI) vwCl [(kN, .inl (cI, 2, .inl (fun _ => 0))), (k0, .inr (10, [.ref kN, .ref kA, .ref kO, .ref kK, .ref kV, .ref kG, .ref kP, .ref kC, .ref kD, .ref kE, .ref kF, .ref kX, .ref kY, .int 0, .ref kT, .ref kU, .int 1, .int 0, .int 0]))] _ := hP
    have hD : va_D A [(kN, .inl (cI, 2, .inl (fun _ => 0))), (k0, .inr (10, [.ref kN, .ref kA, .ref kO, .ref kK, .ref kV, .ref kG, .ref kP, .ref kC, .ref kD, .ref kE, .ref kF, .ref kX, .ref kY, .int 0, .ref kT, .ref kU, .int 1, .int 0, .int 0]))] := hD
    refine lv_if_eq (tgt := 21) hx hb dX7_labelLength_6 (by decide) (fun _ => ?_) (fun h9 => absurd (by decide) h9)
    refine lv_iconst (v := (-1)) hx hb dX7_labelLength_21 (by decide) ?_
    exact ret _ 1 _ _ _ _ _ _ (Or.inl (⟨rfl, hq1⟩)) (hP.sub [1] rfl) (hK.sub [] rfl) (hD.sub [1] (by decide) rfl) hS (Nat.le_of_ble_eq_true rfl) (Nat.le_of_ble_eq_true rfl) dX7_labelLength_22
  · skip
    have hq2 := hq
    have hP : va_P (dC, dI) vwCl [(kN, .inl (cI, 2, .inl (fun _ => 0))), (k0, .inr (10, [.ref kN, .ref kA, .ref kO, .ref kK, .ref kV, .ref kG, .ref kP, .ref kC, .ref kD, .ref kE, .ref kF, .ref kX, .ref kY, .int 0, .ref kT, .ref kU, .int 2, .int 0, .int 0]))] _ := hP
    have hD : va_D A [(kN, .inl (cI, 2, .inl (fun _ => 0))), (k0, .inr (10, [.ref kN, .ref kA, .ref kO, .ref kK, .ref kV, .ref kG, .ref kP, .ref kC, .ref kD, .ref kE, .ref kF, .ref kX, .ref kY, .int 0, .ref kT, .ref kU, .int 2, .int 0, .int 0]))] := hD
    refine lv_if_eq (tgt := 21) hx hb dX7_labelLength_6 (by decide) (fun _ => ?_) (fun h9 => absurd (by decide) h9)
    refine lv_iconst (v := (-1)) hx hb dX7_labelLength_21 (by decide) ?_
    exact ret _ 2 _ _ _ _ _ _ (Or.inr (⟨rfl, (fun h9 => h9 (hq2))⟩)) (hP.sub [1] rfl) (hK.sub [] rfl) (hD.sub [1] (by decide) rfl) hS (Nat.le_of_ble_eq_true rfl) (Nat.le_of_ble_eq_true rfl) dX7_labelLength_22

set_option maxHeartbeats 4000000 in
set_option maxRecDepth 100000 in
/-- the model: canJoin on a fresh one -/
theorem kX7_canJoin (l : Launch) (dC : Nat → ClassId) (dI : Nat → Nat → Nat) (k0 kN kA kO kK kV kG kP kC kD kE kF kX kY kT kU : Nat) (cI : ClassId) (p0 p1 p2 : Int32) (sz : Nat) : fMi l yX7_canJoin wsX7_canJoin ({ frames := 3, cells := 0, slots := 0, locals := 70 } : Room) dC dI [.ref k0, .int p0, .int p1, .int p2] [(k0, .inr (10, [.ref kN, .ref kA, .ref kO, .ref kK, .ref kV, .ref kG, .ref kP, .ref kC, .ref kD, .ref kE, .ref kF, .ref kX, .ref kY, .int 0, .ref kT, .ref kU, .int 0, .int 0, .int 0])), (kN, .inl (cI, 2, .inl (fun _ => 0))), (kA, .inl (cI, 2, .inl (fun _ => 0)))] [(cI, .int)] sz (fun (r : Int32) (u : Int32) => u = 1 ∧ (¬ ((p0 = 0) ∨ (p0 = 1))) ∨ u = 2 ∧ (¬ (¬ ((p0 = 0) ∨ (p0 = 1))))) (fun u => [(k0, .inr (10, [.ref kN, .ref kA, .ref kO, .ref kK, .ref kV, .ref kG, .ref kP, .ref kC, .ref kD, .ref kE, .ref kF, .ref kX, .ref kY, .int 0, .ref kT, .ref kU, .int u, .int 0, .int 0]))]) (fun u => []) := by
  refine oP_z (y := yX7_canJoin) (cc := cX7_canJoin) (maxL := 4) (by decide) rfl (Nat.le_of_ble_eq_true rfl) ?_
  intro p e s m args below meth c ls A Q hx hb hr hml hown hts hN hZ hA hin hlk hP hK hD hl ret
  have hS : va_S A s.heap s.heap [] := va_S.rf
  have hl : lv_has ls 4 [(0, .ref k0), (1, .int p0), (2, .int p1), (3, .int p2)] := hl
  have hP : va_P (dC, dI) vwCl [(k0, .inr (10, [.ref kN, .ref kA, .ref kO, .ref kK, .ref kV, .ref kG, .ref kP, .ref kC, .ref kD, .ref kE, .ref kF, .ref kX, .ref kY, .int 0, .ref kT, .ref kU, .int 0, .int 0, .int 0])), (kN, .inl (cI, 2, .inl (fun _ => 0))), (kA, .inl (cI, 2, .inl (fun _ => 0)))] _ := hP
  have hD : va_D A [(k0, .inr (10, [.ref kN, .ref kA, .ref kO, .ref kK, .ref kV, .ref kG, .ref kP, .ref kC, .ref kD, .ref kE, .ref kF, .ref kX, .ref kY, .int 0, .ref kT, .ref kU, .int 0, .int 0, .int 0])), (kN, .inl (cI, 2, .inl (fun _ => 0))), (kA, .inl (cI, 2, .inl (fun _ => 0)))] := hD
  refine lv_aload_n hx hb dX7_canJoin_0 rfl (lv_at hl 0 rfl) ?_
  refine lv_iload_n hx hb dX7_canJoin_1 rfl (lv_at hl 1 rfl) ?_
  refine lv_iload_n hx hb dX7_canJoin_2 rfl (lv_at hl 2 rfl) ?_
  refine lv_iload_n hx hb dX7_canJoin_3 rfl (lv_at hl 3 rfl) ?_
  have hPc := hP.sub (ws' := [(k0, .inr (10, [.ref kN, .ref kA, .ref kO, .ref kK, .ref kV, .ref kG, .ref kP, .ref kC, .ref kD, .ref kE, .ref kF, .ref kX, .ref kY, .int 0, .ref kT, .ref kU, .int 0, .int 0, .int 0])), (kA, .inl (cI, 2, .inl (fun _ => 0)))]) [0, 2] rfl
  have hDc := hD.sub (ws' := [(k0, .inr (10, [.ref kN, .ref kA, .ref kO, .ref kK, .ref kV, .ref kG, .ref kP, .ref kC, .ref kD, .ref kE, .ref kF, .ref kX, .ref kY, .int 0, .ref kT, .ref kU, .int 0, .int 0, .int 0])), (kA, .inl (cI, 2, .inl (fun _ => 0)))]) [0, 2] (by decide) rfl
  have hKc := hK.sub (tys' := [(cI, .int)]) [0] rfl
  have hFc := va_free (wc := [(k0, .inr (10, [.ref kN, .ref kA, .ref kO, .ref kK, .ref kV, .ref kG, .ref kP, .ref kC, .ref kD, .ref kE, .ref kF, .ref kX, .ref kY, .int 0, .ref kT, .ref kU, .int 0, .int 0, .int 0])), (kA, .inl (cI, 2, .inl (fun _ => 0)))]) hD hS hA [0, 2] rfl
  refine va_calli (va_runV (As := [.int p0, .int p1, .int p2]) (rest := []) ⟨hx, hb, hml, hown, hts⟩ (kX7_areAsked l dC dI k0 kN kA kO kK kV kG kP kC kD kE kF kX kY kT kU cI p0 p1 p2 s.heap.size) (cwV 3 hts gX7_canJoin_X7_areAsked rfl rfl rfl (by decide +kernel) ⟨Nat.le_of_ble_eq_true rfl, Nat.le_of_ble_eq_true rfl⟩) (fPreV hN hZ hS (fun q h => hFc q h) hPc hKc hDc (ci := 10) (q0 := 0) rfl rfl) rfl rfl hl.1 rfl (lv_room (Nat.le_of_ble_eq_true rfl)) dX7_canJoin_4 ⟨Nat.le_of_ble_eq_true rfl, Nat.le_of_ble_eq_true rfl⟩) hS (fun q _ h => hFc q h) hFc (fun r u t H1 locs ht hvm hw hB hz1 hk1 hS => ?_)
  obtain ⟨hP1, hK1, hD1⟩ := hB
  rw [ht] at hP1
  have hK1 := va_K.moved hvm.symm hK1
  obtain ⟨hP, hD⟩ := va_join (wr := [(kN, .inl (cI, 2, .inl (fun _ => 0)))]) (w1 := [(k0, .inr (10, [.ref kN, .ref kA, .ref kO, .ref kK, .ref kV, .ref kG, .ref kP, .ref kC, .ref kD, .ref kE, .ref kF, .ref kX, .ref kY, .int 0, .ref kT, .ref kU, .int u, .int 0, .int 0]))]) hP hD [0, 2] [1] rfl rfl (by decide) (by decide) hk1 hFc hP1 hD1
  generalize H1 = H at hP hS ⊢
  have hP : va_P (dC, dI) vwCl [(kN, .inl (cI, 2, .inl (fun _ => 0))), (k0, .inr (10, [.ref kN, .ref kA, .ref kO, .ref kK, .ref kV, .ref kG, .ref kP, .ref kC, .ref kD, .ref kE, .ref kF, .ref kX, .ref kY, .int 0, .ref kT, .ref kU, .int u, .int 0, .int 0]))] _ := hP
  have hD : va_D A [(kN, .inl (cI, 2, .inl (fun _ => 0))), (k0, .inr (10, [.ref kN, .ref kA, .ref kO, .ref kK, .ref kV, .ref kG, .ref kP, .ref kC, .ref kD, .ref kE, .ref kF, .ref kX, .ref kY, .int 0, .ref kT, .ref kU, .int u, .int 0, .int 0]))] := hD
  rcases hw with ⟨rfl, ⟨rfl, hq⟩ | ⟨rfl, hq⟩⟩
  · skip
    have hq1 := hq
    have hP : va_P (dC, dI) vwCl [(kN, .inl (cI, 2, .inl (fun _ => 0))), (k0, .inr (10, [.ref kN, .ref kA, .ref kO, .ref kK, .ref kV, .ref kG, .ref kP, .ref kC, .ref kD, .ref kE, .ref kF, .ref kX, .ref kY, .int 0, .ref kT, .ref kU, .int 1, .int 0, .int 0]))] _ := hP
    have hD : va_D A [(kN, .inl (cI, 2, .inl (fun _ => 0))), (k0, .inr (10, [.ref kN, .ref kA, .ref kO, .ref kK, .ref kV, .ref kG, .ref kP, .ref kC, .ref kD, .ref kE, .ref kF, .ref kX, .ref kY, .int 0, .ref kT, .ref kU, .int 1, .int 0, .int 0]))] := hD
    refine lv_if_eq (tgt := 20) hx hb dX7_canJoin_7 (by decide) (fun _ => ?_) (fun h9 => absurd (by decide) h9)
    refine lv_bipush (v := 32) hx hb dX7_canJoin_20 (by decide) ?_
    exact ret _ 1 _ _ _ _ _ _ (by decide) (Or.inl (⟨rfl, hq1⟩)) (hP.sub [1] rfl) (hK.sub [] rfl) (hD.sub [1] (by decide) rfl) hS (Nat.le_of_ble_eq_true rfl) (Nat.le_of_ble_eq_true rfl) dX7_canJoin_22
  · skip
    have hq2 := hq
    have hP : va_P (dC, dI) vwCl [(kN, .inl (cI, 2, .inl (fun _ => 0))), (k0, .inr (10, [.ref kN, .ref kA, .ref kO, .ref kK, .ref kV, .ref kG, .ref kP, .ref kC, .ref kD, .ref kE, .ref kF, .ref kX, .ref kY, .int 0, .ref kT, .ref kU, .int 2, .int 0, .int 0]))] _ := hP
    have hD : va_D A [(kN, .inl (cI, 2, .inl (fun _ => 0))), (k0, .inr (10, [.ref kN, .ref kA, .ref kO, .ref kK, .ref kV, .ref kG, .ref kP, .ref kC, .ref kD, .ref kE, .ref kF, .ref kX, .ref kY, .int 0, .ref kT, .ref kU, .int 2, .int 0, .int 0]))] := hD
    refine lv_if_eq (tgt := 20) hx hb dX7_canJoin_7 (by decide) (fun _ => ?_) (fun h9 => absurd (by decide) h9)
    refine lv_bipush (v := 32) hx hb dX7_canJoin_20 (by decide) ?_
    exact ret _ 2 _ _ _ _ _ _ (by decide) (Or.inr (⟨rfl, (fun h9 => h9 (hq2))⟩)) (hP.sub [1] rfl) (hK.sub [] rfl) (hD.sub [1] (by decide) rfl) hS (Nat.le_of_ble_eq_true rfl) (Nat.le_of_ble_eq_true rfl) dX7_canJoin_22

set_option maxHeartbeats 4000000 in
set_option maxRecDepth 100000 in
/-- the model: kindOf on a fresh one -/
theorem kX7_kindOf (l : Launch) (dC : Nat → ClassId) (dI : Nat → Nat → Nat) (k0 kN kA kO kK kV kG kP kC kD kE kF kX kY kT kU : Nat) (cI : ClassId) (p0 p1 : Int32) (sz : Nat) : fMi l yX7_kindOf wsX7_kindOf ({ frames := 3, cells := 0, slots := 0, locals := 69 } : Room) dC dI [.ref k0, .int p0, .int p1] [(k0, .inr (10, [.ref kN, .ref kA, .ref kO, .ref kK, .ref kV, .ref kG, .ref kP, .ref kC, .ref kD, .ref kE, .ref kF, .ref kX, .ref kY, .int 0, .ref kT, .ref kU, .int 0, .int 0, .int 0])), (kN, .inl (cI, 2, .inl (fun _ => 0))), (kA, .inl (cI, 2, .inl (fun _ => 0)))] [(cI, .int)] sz (fun (r : Int32) (u : Int32) => u = 1 ∧ (¬ ((p0 = 0) ∨ (p0 = 1))) ∨ u = 2 ∧ (¬ (¬ ((p0 = 0) ∨ (p0 = 1))))) (fun u => [(k0, .inr (10, [.ref kN, .ref kA, .ref kO, .ref kK, .ref kV, .ref kG, .ref kP, .ref kC, .ref kD, .ref kE, .ref kF, .ref kX, .ref kY, .int 0, .ref kT, .ref kU, .int u, .int 0, .int 0]))]) (fun u => []) := by
  refine oP_z (y := yX7_kindOf) (cc := cX7_kindOf) (maxL := 3) (by decide) rfl (Nat.le_of_ble_eq_true rfl) ?_
  intro p e s m args below meth c ls A Q hx hb hr hml hown hts hN hZ hA hin hlk hP hK hD hl ret
  have hS : va_S A s.heap s.heap [] := va_S.rf
  have hl : lv_has ls 3 [(0, .ref k0), (1, .int p0), (2, .int p1)] := hl
  have hP : va_P (dC, dI) vwCl [(k0, .inr (10, [.ref kN, .ref kA, .ref kO, .ref kK, .ref kV, .ref kG, .ref kP, .ref kC, .ref kD, .ref kE, .ref kF, .ref kX, .ref kY, .int 0, .ref kT, .ref kU, .int 0, .int 0, .int 0])), (kN, .inl (cI, 2, .inl (fun _ => 0))), (kA, .inl (cI, 2, .inl (fun _ => 0)))] _ := hP
  have hD : va_D A [(k0, .inr (10, [.ref kN, .ref kA, .ref kO, .ref kK, .ref kV, .ref kG, .ref kP, .ref kC, .ref kD, .ref kE, .ref kF, .ref kX, .ref kY, .int 0, .ref kT, .ref kU, .int 0, .int 0, .int 0])), (kN, .inl (cI, 2, .inl (fun _ => 0))), (kA, .inl (cI, 2, .inl (fun _ => 0)))] := hD
  refine lv_aload_n hx hb dX7_kindOf_0 rfl (lv_at hl 0 rfl) ?_
  refine lv_iload_n hx hb dX7_kindOf_1 rfl (lv_at hl 1 rfl) ?_
  refine lv_iload_n hx hb dX7_kindOf_2 rfl (lv_at hl 2 rfl) ?_
  have hPc := hP.sub (ws' := [(k0, .inr (10, [.ref kN, .ref kA, .ref kO, .ref kK, .ref kV, .ref kG, .ref kP, .ref kC, .ref kD, .ref kE, .ref kF, .ref kX, .ref kY, .int 0, .ref kT, .ref kU, .int 0, .int 0, .int 0])), (kA, .inl (cI, 2, .inl (fun _ => 0)))]) [0, 2] rfl
  have hDc := hD.sub (ws' := [(k0, .inr (10, [.ref kN, .ref kA, .ref kO, .ref kK, .ref kV, .ref kG, .ref kP, .ref kC, .ref kD, .ref kE, .ref kF, .ref kX, .ref kY, .int 0, .ref kT, .ref kU, .int 0, .int 0, .int 0])), (kA, .inl (cI, 2, .inl (fun _ => 0)))]) [0, 2] (by decide) rfl
  have hKc := hK.sub (tys' := [(cI, .int)]) [0] rfl
  have hFc := va_free (wc := [(k0, .inr (10, [.ref kN, .ref kA, .ref kO, .ref kK, .ref kV, .ref kG, .ref kP, .ref kC, .ref kD, .ref kE, .ref kF, .ref kX, .ref kY, .int 0, .ref kT, .ref kU, .int 0, .int 0, .int 0])), (kA, .inl (cI, 2, .inl (fun _ => 0)))]) hD hS hA [0, 2] rfl
  refine va_calli (va_runV (As := [.int p0, .int p1]) (rest := []) ⟨hx, hb, hml, hown, hts⟩ (kX7_isAsked l dC dI k0 kN kA kO kK kV kG kP kC kD kE kF kX kY kT kU cI p0 p1 s.heap.size) (cwV 2 hts gX7_kindOf_X7_isAsked rfl rfl rfl (by decide +kernel) ⟨Nat.le_of_ble_eq_true rfl, Nat.le_of_ble_eq_true rfl⟩) (fPreV hN hZ hS (fun q h => hFc q h) hPc hKc hDc (ci := 10) (q0 := 0) rfl rfl) rfl rfl hl.1 rfl (lv_room (Nat.le_of_ble_eq_true rfl)) dX7_kindOf_3 ⟨Nat.le_of_ble_eq_true rfl, Nat.le_of_ble_eq_true rfl⟩) hS (fun q _ h => hFc q h) hFc (fun r u t H1 locs ht hvm hw hB hz1 hk1 hS => ?_)
  obtain ⟨hP1, hK1, hD1⟩ := hB
  rw [ht] at hP1
  have hK1 := va_K.moved hvm.symm hK1
  obtain ⟨hP, hD⟩ := va_join (wr := [(kN, .inl (cI, 2, .inl (fun _ => 0)))]) (w1 := [(k0, .inr (10, [.ref kN, .ref kA, .ref kO, .ref kK, .ref kV, .ref kG, .ref kP, .ref kC, .ref kD, .ref kE, .ref kF, .ref kX, .ref kY, .int 0, .ref kT, .ref kU, .int u, .int 0, .int 0]))]) hP hD [0, 2] [1] rfl rfl (by decide) (by decide) hk1 hFc hP1 hD1
  generalize H1 = H at hP hS ⊢
  have hP : va_P (dC, dI) vwCl [(kN, .inl (cI, 2, .inl (fun _ => 0))), (k0, .inr (10, [.ref kN, .ref kA, .ref kO, .ref kK, .ref kV, .ref kG, .ref kP, .ref kC, .ref kD, .ref kE, .ref kF, .ref kX, .ref kY, .int 0, .ref kT, .ref kU, .int u, .int 0, .int 0]))] _ := hP
  have hD : va_D A [(kN, .inl (cI, 2, .inl (fun _ => 0))), (k0, .inr (10, [.ref kN, .ref kA, .ref kO, .ref kK, .ref kV, .ref kG, .ref kP, .ref kC, .ref kD, .ref kE, .ref kF, .ref kX, .ref kY, .int 0, .ref kT, .ref kU, .int u, .int 0, .int 0]))] := hD
  rcases hw with ⟨rfl, ⟨rfl, hq⟩ | ⟨rfl, hq⟩⟩
  · skip
    have hq1 := hq
    have hP : va_P (dC, dI) vwCl [(kN, .inl (cI, 2, .inl (fun _ => 0))), (k0, .inr (10, [.ref kN, .ref kA, .ref kO, .ref kK, .ref kV, .ref kG, .ref kP, .ref kC, .ref kD, .ref kE, .ref kF, .ref kX, .ref kY, .int 0, .ref kT, .ref kU, .int 1, .int 0, .int 0]))] _ := hP
    have hD : va_D A [(kN, .inl (cI, 2, .inl (fun _ => 0))), (k0, .inr (10, [.ref kN, .ref kA, .ref kO, .ref kK, .ref kV, .ref kG, .ref kP, .ref kC, .ref kD, .ref kE, .ref kF, .ref kX, .ref kY, .int 0, .ref kT, .ref kU, .int 1, .int 0, .int 0]))] := hD
    refine lv_if_eq (tgt := 18) hx hb dX7_kindOf_6 (by decide) (fun _ => ?_) (fun h9 => absurd (by decide) h9)
    refine lv_bipush (v := 32) hx hb dX7_kindOf_18 (by decide) ?_
    exact ret _ 1 _ _ _ _ _ _ (by decide) (Or.inl (⟨rfl, hq1⟩)) (hP.sub [1] rfl) (hK.sub [] rfl) (hD.sub [1] (by decide) rfl) hS (Nat.le_of_ble_eq_true rfl) (Nat.le_of_ble_eq_true rfl) dX7_kindOf_20
  · skip
    have hq2 := hq
    have hP : va_P (dC, dI) vwCl [(kN, .inl (cI, 2, .inl (fun _ => 0))), (k0, .inr (10, [.ref kN, .ref kA, .ref kO, .ref kK, .ref kV, .ref kG, .ref kP, .ref kC, .ref kD, .ref kE, .ref kF, .ref kX, .ref kY, .int 0, .ref kT, .ref kU, .int 2, .int 0, .int 0]))] _ := hP
    have hD : va_D A [(kN, .inl (cI, 2, .inl (fun _ => 0))), (k0, .inr (10, [.ref kN, .ref kA, .ref kO, .ref kK, .ref kV, .ref kG, .ref kP, .ref kC, .ref kD, .ref kE, .ref kF, .ref kX, .ref kY, .int 0, .ref kT, .ref kU, .int 2, .int 0, .int 0]))] := hD
    refine lv_if_eq (tgt := 18) hx hb dX7_kindOf_6 (by decide) (fun _ => ?_) (fun h9 => absurd (by decide) h9)
    refine lv_bipush (v := 32) hx hb dX7_kindOf_18 (by decide) ?_
    exact ret _ 2 _ _ _ _ _ _ (by decide) (Or.inr (⟨rfl, (fun h9 => h9 (hq2))⟩)) (hP.sub [1] rfl) (hK.sub [] rfl) (hD.sub [1] (by decide) rfl) hS (Nat.le_of_ble_eq_true rfl) (Nat.le_of_ble_eq_true rfl) dX7_kindOf_20

set_option maxHeartbeats 4000000 in
set_option maxRecDepth 100000 in
/-- the model: portOf on a fresh one -/
theorem kX7_portOf (l : Launch) (dC : Nat → ClassId) (dI : Nat → Nat → Nat) (k0 kN kA kO kK kV kG kP kC kD kE kF kX kY kT kU : Nat) (cI : ClassId) (p0 p1 : Int32) (sz : Nat) : fMi l yX7_portOf wsX7_portOf ({ frames := 3, cells := 0, slots := 0, locals := 69 } : Room) dC dI [.ref k0, .int p0, .int p1] [(k0, .inr (10, [.ref kN, .ref kA, .ref kO, .ref kK, .ref kV, .ref kG, .ref kP, .ref kC, .ref kD, .ref kE, .ref kF, .ref kX, .ref kY, .int 0, .ref kT, .ref kU, .int 0, .int 0, .int 0])), (kN, .inl (cI, 2, .inl (fun _ => 0))), (kA, .inl (cI, 2, .inl (fun _ => 0)))] [(cI, .int)] sz (fun (r : Int32) (u : Int32) => u = 1 ∧ (¬ ((p0 = 0) ∨ (p0 = 1))) ∨ u = 2 ∧ (¬ (¬ ((p0 = 0) ∨ (p0 = 1))))) (fun u => [(k0, .inr (10, [.ref kN, .ref kA, .ref kO, .ref kK, .ref kV, .ref kG, .ref kP, .ref kC, .ref kD, .ref kE, .ref kF, .ref kX, .ref kY, .int 0, .ref kT, .ref kU, .int u, .int 0, .int 0]))]) (fun u => []) := by
  refine oP_z (y := yX7_portOf) (cc := cX7_portOf) (maxL := 3) (by decide) rfl (Nat.le_of_ble_eq_true rfl) ?_
  intro p e s m args below meth c ls A Q hx hb hr hml hown hts hN hZ hA hin hlk hP hK hD hl ret
  have hS : va_S A s.heap s.heap [] := va_S.rf
  have hl : lv_has ls 3 [(0, .ref k0), (1, .int p0), (2, .int p1)] := hl
  have hP : va_P (dC, dI) vwCl [(k0, .inr (10, [.ref kN, .ref kA, .ref kO, .ref kK, .ref kV, .ref kG, .ref kP, .ref kC, .ref kD, .ref kE, .ref kF, .ref kX, .ref kY, .int 0, .ref kT, .ref kU, .int 0, .int 0, .int 0])), (kN, .inl (cI, 2, .inl (fun _ => 0))), (kA, .inl (cI, 2, .inl (fun _ => 0)))] _ := hP
  have hD : va_D A [(k0, .inr (10, [.ref kN, .ref kA, .ref kO, .ref kK, .ref kV, .ref kG, .ref kP, .ref kC, .ref kD, .ref kE, .ref kF, .ref kX, .ref kY, .int 0, .ref kT, .ref kU, .int 0, .int 0, .int 0])), (kN, .inl (cI, 2, .inl (fun _ => 0))), (kA, .inl (cI, 2, .inl (fun _ => 0)))] := hD
  refine lv_aload_n hx hb dX7_portOf_0 rfl (lv_at hl 0 rfl) ?_
  refine lv_iload_n hx hb dX7_portOf_1 rfl (lv_at hl 1 rfl) ?_
  refine lv_iload_n hx hb dX7_portOf_2 rfl (lv_at hl 2 rfl) ?_
  have hPc := hP.sub (ws' := [(k0, .inr (10, [.ref kN, .ref kA, .ref kO, .ref kK, .ref kV, .ref kG, .ref kP, .ref kC, .ref kD, .ref kE, .ref kF, .ref kX, .ref kY, .int 0, .ref kT, .ref kU, .int 0, .int 0, .int 0])), (kN, .inl (cI, 2, .inl (fun _ => 0)))]) [0, 1] rfl
  have hDc := hD.sub (ws' := [(k0, .inr (10, [.ref kN, .ref kA, .ref kO, .ref kK, .ref kV, .ref kG, .ref kP, .ref kC, .ref kD, .ref kE, .ref kF, .ref kX, .ref kY, .int 0, .ref kT, .ref kU, .int 0, .int 0, .int 0])), (kN, .inl (cI, 2, .inl (fun _ => 0)))]) [0, 1] (by decide) rfl
  have hKc := hK.sub (tys' := [(cI, .int)]) [0] rfl
  have hFc := va_free (wc := [(k0, .inr (10, [.ref kN, .ref kA, .ref kO, .ref kK, .ref kV, .ref kG, .ref kP, .ref kC, .ref kD, .ref kE, .ref kF, .ref kX, .ref kY, .int 0, .ref kT, .ref kU, .int 0, .int 0, .int 0])), (kN, .inl (cI, 2, .inl (fun _ => 0)))]) hD hS hA [0, 1] rfl
  refine va_calli (va_runV (As := [.int p0, .int p1]) (rest := []) ⟨hx, hb, hml, hown, hts⟩ (kX7_isNetAsked l dC dI k0 kN kA kO kK kV kG kP kC kD kE kF kX kY kT kU cI p0 p1 s.heap.size) (cwV 2 hts gX7_portOf_X7_isNetAsked rfl rfl rfl (by decide +kernel) ⟨Nat.le_of_ble_eq_true rfl, Nat.le_of_ble_eq_true rfl⟩) (fPreV hN hZ hS (fun q h => hFc q h) hPc hKc hDc (ci := 10) (q0 := 0) rfl rfl) rfl rfl hl.1 rfl (lv_room (Nat.le_of_ble_eq_true rfl)) dX7_portOf_3 ⟨Nat.le_of_ble_eq_true rfl, Nat.le_of_ble_eq_true rfl⟩) hS (fun q _ h => hFc q h) hFc (fun r u t H1 locs ht hvm hw hB hz1 hk1 hS => ?_)
  obtain ⟨hP1, hK1, hD1⟩ := hB
  rw [ht] at hP1
  have hK1 := va_K.moved hvm.symm hK1
  obtain ⟨hP, hD⟩ := va_join (wr := [(kA, .inl (cI, 2, .inl (fun _ => 0)))]) (w1 := [(k0, .inr (10, [.ref kN, .ref kA, .ref kO, .ref kK, .ref kV, .ref kG, .ref kP, .ref kC, .ref kD, .ref kE, .ref kF, .ref kX, .ref kY, .int 0, .ref kT, .ref kU, .int u, .int 0, .int 0]))]) hP hD [0, 1] [2] rfl rfl (by decide) (by decide) hk1 hFc hP1 hD1
  generalize H1 = H at hP hS ⊢
  have hP : va_P (dC, dI) vwCl [(kA, .inl (cI, 2, .inl (fun _ => 0))), (k0, .inr (10, [.ref kN, .ref kA, .ref kO, .ref kK, .ref kV, .ref kG, .ref kP, .ref kC, .ref kD, .ref kE, .ref kF, .ref kX, .ref kY, .int 0, .ref kT, .ref kU, .int u, .int 0, .int 0]))] _ := hP
  have hD : va_D A [(kA, .inl (cI, 2, .inl (fun _ => 0))), (k0, .inr (10, [.ref kN, .ref kA, .ref kO, .ref kK, .ref kV, .ref kG, .ref kP, .ref kC, .ref kD, .ref kE, .ref kF, .ref kX, .ref kY, .int 0, .ref kT, .ref kU, .int u, .int 0, .int 0]))] := hD
  rcases hw with ⟨rfl, ⟨rfl, hq⟩ | ⟨rfl, hq⟩⟩
  · skip
    have hq1 := hq
    have hP : va_P (dC, dI) vwCl [(kA, .inl (cI, 2, .inl (fun _ => 0))), (k0, .inr (10, [.ref kN, .ref kA, .ref kO, .ref kK, .ref kV, .ref kG, .ref kP, .ref kC, .ref kD, .ref kE, .ref kF, .ref kX, .ref kY, .int 0, .ref kT, .ref kU, .int 1, .int 0, .int 0]))] _ := hP
    have hD : va_D A [(kA, .inl (cI, 2, .inl (fun _ => 0))), (k0, .inr (10, [.ref kN, .ref kA, .ref kO, .ref kK, .ref kV, .ref kG, .ref kP, .ref kC, .ref kD, .ref kE, .ref kF, .ref kX, .ref kY, .int 0, .ref kT, .ref kU, .int 1, .int 0, .int 0]))] := hD
    refine lv_if_eq (tgt := 23) hx hb dX7_portOf_6 (by decide) (fun _ => ?_) (fun h9 => absurd (by decide) h9)
    refine lv_bipush (v := 32) hx hb dX7_portOf_23 (by decide) ?_
    exact ret _ 1 _ _ _ _ _ _ (by decide) (Or.inl (⟨rfl, hq1⟩)) (hP.sub [1] rfl) (hK.sub [] rfl) (hD.sub [1] (by decide) rfl) hS (Nat.le_of_ble_eq_true rfl) (Nat.le_of_ble_eq_true rfl) dX7_portOf_25
  · skip
    have hq2 := hq
    have hP : va_P (dC, dI) vwCl [(kA, .inl (cI, 2, .inl (fun _ => 0))), (k0, .inr (10, [.ref kN, .ref kA, .ref kO, .ref kK, .ref kV, .ref kG, .ref kP, .ref kC, .ref kD, .ref kE, .ref kF, .ref kX, .ref kY, .int 0, .ref kT, .ref kU, .int 2, .int 0, .int 0]))] _ := hP
    have hD : va_D A [(kA, .inl (cI, 2, .inl (fun _ => 0))), (k0, .inr (10, [.ref kN, .ref kA, .ref kO, .ref kK, .ref kV, .ref kG, .ref kP, .ref kC, .ref kD, .ref kE, .ref kF, .ref kX, .ref kY, .int 0, .ref kT, .ref kU, .int 2, .int 0, .int 0]))] := hD
    refine lv_if_eq (tgt := 23) hx hb dX7_portOf_6 (by decide) (fun _ => ?_) (fun h9 => absurd (by decide) h9)
    refine lv_bipush (v := 32) hx hb dX7_portOf_23 (by decide) ?_
    exact ret _ 2 _ _ _ _ _ _ (by decide) (Or.inr (⟨rfl, (fun h9 => h9 (hq2))⟩)) (hP.sub [1] rfl) (hK.sub [] rfl) (hD.sub [1] (by decide) rfl) hS (Nat.le_of_ble_eq_true rfl) (Nat.le_of_ble_eq_true rfl) dX7_portOf_25

set_option maxHeartbeats 4000000 in
set_option maxRecDepth 100000 in
/-- the model: labelAt on a fresh one -/
theorem kX7_labelAt (l : Launch) (dC : Nat → ClassId) (dI : Nat → Nat → Nat) (k0 kN kA kO kK kV kG kP kC kD kE kF kX kY kT kU : Nat) (cI : ClassId) (p0 p1 p2 : Int32) (sz : Nat) : fMi l yX7_labelAt wsX7_labelAt ({ frames := 3, cells := 0, slots := 0, locals := 69 } : Room) dC dI [.ref k0, .int p0, .int p1, .int p2] [(k0, .inr (10, [.ref kN, .ref kA, .ref kO, .ref kK, .ref kV, .ref kG, .ref kP, .ref kC, .ref kD, .ref kE, .ref kF, .ref kX, .ref kY, .int 0, .ref kT, .ref kU, .int 0, .int 0, .int 0])), (kN, .inl (cI, 2, .inl (fun _ => 0))), (kA, .inl (cI, 2, .inl (fun _ => 0)))] [(cI, .int)] sz (fun (r : Int32) (u : Int32) => u = 1 ∧ (¬ ((p0 = 0) ∨ (p0 = 1))) ∨ u = 2 ∧ (¬ (¬ ((p0 = 0) ∨ (p0 = 1))))) (fun u => [(k0, .inr (10, [.ref kN, .ref kA, .ref kO, .ref kK, .ref kV, .ref kG, .ref kP, .ref kC, .ref kD, .ref kE, .ref kF, .ref kX, .ref kY, .int 0, .ref kT, .ref kU, .int u, .int 0, .int 0]))]) (fun u => []) := by
  refine oP_z (y := yX7_labelAt) (cc := cX7_labelAt) (maxL := 5) (by decide) rfl (Nat.le_of_ble_eq_true rfl) ?_
  intro p e s m args below meth c ls A Q hx hb hr hml hown hts hN hZ hA hin hlk hP hK hD hl ret
  have hS : va_S A s.heap s.heap [] := va_S.rf
  have hl : lv_has ls 5 [(0, .ref k0), (1, .int p0), (2, .int p1), (3, .int p2)] := hl
  have hP : va_P (dC, dI) vwCl [(k0, .inr (10, [.ref kN, .ref kA, .ref kO, .ref kK, .ref kV, .ref kG, .ref kP, .ref kC, .ref kD, .ref kE, .ref kF, .ref kX, .ref kY, .int 0, .ref kT, .ref kU, .int 0, .int 0, .int 0])), (kN, .inl (cI, 2, .inl (fun _ => 0))), (kA, .inl (cI, 2, .inl (fun _ => 0)))] _ := hP
  have hD : va_D A [(k0, .inr (10, [.ref kN, .ref kA, .ref kO, .ref kK, .ref kV, .ref kG, .ref kP, .ref kC, .ref kD, .ref kE, .ref kF, .ref kX, .ref kY, .int 0, .ref kT, .ref kU, .int 0, .int 0, .int 0])), (kN, .inl (cI, 2, .inl (fun _ => 0))), (kA, .inl (cI, 2, .inl (fun _ => 0)))] := hD
  refine lv_aload_n hx hb dX7_labelAt_0 rfl (lv_at hl 0 rfl) ?_
  refine lv_iload_n hx hb dX7_labelAt_1 rfl (lv_at hl 1 rfl) ?_
  refine lv_iload_n hx hb dX7_labelAt_2 rfl (lv_at hl 2 rfl) ?_
  have hPc := hP.sub (ws' := [(k0, .inr (10, [.ref kN, .ref kA, .ref kO, .ref kK, .ref kV, .ref kG, .ref kP, .ref kC, .ref kD, .ref kE, .ref kF, .ref kX, .ref kY, .int 0, .ref kT, .ref kU, .int 0, .int 0, .int 0])), (kA, .inl (cI, 2, .inl (fun _ => 0)))]) [0, 2] rfl
  have hDc := hD.sub (ws' := [(k0, .inr (10, [.ref kN, .ref kA, .ref kO, .ref kK, .ref kV, .ref kG, .ref kP, .ref kC, .ref kD, .ref kE, .ref kF, .ref kX, .ref kY, .int 0, .ref kT, .ref kU, .int 0, .int 0, .int 0])), (kA, .inl (cI, 2, .inl (fun _ => 0)))]) [0, 2] (by decide) rfl
  have hKc := hK.sub (tys' := [(cI, .int)]) [0] rfl
  have hFc := va_free (wc := [(k0, .inr (10, [.ref kN, .ref kA, .ref kO, .ref kK, .ref kV, .ref kG, .ref kP, .ref kC, .ref kD, .ref kE, .ref kF, .ref kX, .ref kY, .int 0, .ref kT, .ref kU, .int 0, .int 0, .int 0])), (kA, .inl (cI, 2, .inl (fun _ => 0)))]) hD hS hA [0, 2] rfl
  refine va_calli (va_runV (As := [.int p0, .int p1]) (rest := []) ⟨hx, hb, hml, hown, hts⟩ (kX7_isAsked l dC dI k0 kN kA kO kK kV kG kP kC kD kE kF kX kY kT kU cI p0 p1 s.heap.size) (cwV 2 hts gX7_labelAt_X7_isAsked rfl rfl rfl (by decide +kernel) ⟨Nat.le_of_ble_eq_true rfl, Nat.le_of_ble_eq_true rfl⟩) (fPreV hN hZ hS (fun q h => hFc q h) hPc hKc hDc (ci := 10) (q0 := 0) rfl rfl) rfl rfl hl.1 rfl (lv_room (Nat.le_of_ble_eq_true rfl)) dX7_labelAt_3 ⟨Nat.le_of_ble_eq_true rfl, Nat.le_of_ble_eq_true rfl⟩) hS (fun q _ h => hFc q h) hFc (fun r u t H1 locs ht hvm hw hB hz1 hk1 hS => ?_)
  obtain ⟨hP1, hK1, hD1⟩ := hB
  rw [ht] at hP1
  have hK1 := va_K.moved hvm.symm hK1
  obtain ⟨hP, hD⟩ := va_join (wr := [(kN, .inl (cI, 2, .inl (fun _ => 0)))]) (w1 := [(k0, .inr (10, [.ref kN, .ref kA, .ref kO, .ref kK, .ref kV, .ref kG, .ref kP, .ref kC, .ref kD, .ref kE, .ref kF, .ref kX, .ref kY, .int 0, .ref kT, .ref kU, .int u, .int 0, .int 0]))]) hP hD [0, 2] [1] rfl rfl (by decide) (by decide) hk1 hFc hP1 hD1
  generalize H1 = H at hP hS ⊢
  have hP : va_P (dC, dI) vwCl [(kN, .inl (cI, 2, .inl (fun _ => 0))), (k0, .inr (10, [.ref kN, .ref kA, .ref kO, .ref kK, .ref kV, .ref kG, .ref kP, .ref kC, .ref kD, .ref kE, .ref kF, .ref kX, .ref kY, .int 0, .ref kT, .ref kU, .int u, .int 0, .int 0]))] _ := hP
  have hD : va_D A [(kN, .inl (cI, 2, .inl (fun _ => 0))), (k0, .inr (10, [.ref kN, .ref kA, .ref kO, .ref kK, .ref kV, .ref kG, .ref kP, .ref kC, .ref kD, .ref kE, .ref kF, .ref kX, .ref kY, .int 0, .ref kT, .ref kU, .int u, .int 0, .int 0]))] := hD
  rcases hw with ⟨rfl, ⟨rfl, hq⟩ | ⟨rfl, hq⟩⟩
  · skip
    have hq1 := hq
    have hP : va_P (dC, dI) vwCl [(kN, .inl (cI, 2, .inl (fun _ => 0))), (k0, .inr (10, [.ref kN, .ref kA, .ref kO, .ref kK, .ref kV, .ref kG, .ref kP, .ref kC, .ref kD, .ref kE, .ref kF, .ref kX, .ref kY, .int 0, .ref kT, .ref kU, .int 1, .int 0, .int 0]))] _ := hP
    have hD : va_D A [(kN, .inl (cI, 2, .inl (fun _ => 0))), (k0, .inr (10, [.ref kN, .ref kA, .ref kO, .ref kK, .ref kV, .ref kG, .ref kP, .ref kC, .ref kD, .ref kE, .ref kF, .ref kX, .ref kY, .int 0, .ref kT, .ref kU, .int 1, .int 0, .int 0]))] := hD
    refine lv_if_ne (tgt := 12) hx hb dX7_labelAt_6 (by decide) (fun h9 => absurd (by decide) h9) (fun _ => ?_)
    refine lv_bipush (v := 32) hx hb dX7_labelAt_9 (by decide) ?_
    exact ret _ 1 _ _ _ _ _ _ (by decide) (Or.inl (⟨rfl, hq1⟩)) (hP.sub [1] rfl) (hK.sub [] rfl) (hD.sub [1] (by decide) rfl) hS (Nat.le_of_ble_eq_true rfl) (Nat.le_of_ble_eq_true rfl) dX7_labelAt_11
  · skip
    have hq2 := hq
    have hP : va_P (dC, dI) vwCl [(kN, .inl (cI, 2, .inl (fun _ => 0))), (k0, .inr (10, [.ref kN, .ref kA, .ref kO, .ref kK, .ref kV, .ref kG, .ref kP, .ref kC, .ref kD, .ref kE, .ref kF, .ref kX, .ref kY, .int 0, .ref kT, .ref kU, .int 2, .int 0, .int 0]))] _ := hP
    have hD : va_D A [(kN, .inl (cI, 2, .inl (fun _ => 0))), (k0, .inr (10, [.ref kN, .ref kA, .ref kO, .ref kK, .ref kV, .ref kG, .ref kP, .ref kC, .ref kD, .ref kE, .ref kF, .ref kX, .ref kY, .int 0, .ref kT, .ref kU, .int 2, .int 0, .int 0]))] := hD
    refine lv_if_ne (tgt := 12) hx hb dX7_labelAt_6 (by decide) (fun h9 => absurd (by decide) h9) (fun _ => ?_)
    refine lv_bipush (v := 32) hx hb dX7_labelAt_9 (by decide) ?_
    exact ret _ 2 _ _ _ _ _ _ (by decide) (Or.inr (⟨rfl, (fun h9 => h9 (hq2))⟩)) (hP.sub [1] rfl) (hK.sub [] rfl) (hD.sub [1] (by decide) rfl) hS (Nat.le_of_ble_eq_true rfl) (Nat.le_of_ble_eq_true rfl) dX7_labelAt_11

set_option maxHeartbeats 4000000 in
set_option maxRecDepth 100000 in
/-- the model: setValue on a fresh one -/
theorem kX7_setValue (l : Launch) (dC : Nat → ClassId) (dI : Nat → Nat → Nat) (k0 kN kA kO kK kV kG kP kC kD kE kF kX kY kT kU : Nat) (cI : ClassId) (p0 p1 p2 : Int32) (sz : Nat) : fMi l yX7_setValue wsX7_setValue ({ frames := 2, cells := 0, slots := 0, locals := 47 } : Room) dC dI [.ref k0, .int p0, .int p1, .int p2] [(k0, .inr (10, [.ref kN, .ref kA, .ref kO, .ref kK, .ref kV, .ref kG, .ref kP, .ref kC, .ref kD, .ref kE, .ref kF, .ref kX, .ref kY, .int 0, .ref kT, .ref kU, .int 0, .int 0, .int 0])), (kN, .inl (cI, 2, .inl (fun _ => 0))), (kA, .inl (cI, 2, .inl (fun _ => 0)))] [(cI, .int)] sz (fun (r : Int32) (u : Int32) => u = 1 ∧ ((¬ ((p0 = 0) ∨ (p0 = 1))) ∨ (¬ ((¬ (p2 < 1)) ∧ (¬ (999 < p2))))) ∨ u = 2 ∧ (¬ ((¬ ((p0 = 0) ∨ (p0 = 1))) ∨ (¬ ((¬ (p2 < 1)) ∧ (¬ (999 < p2))))))) (fun u => [(k0, .inr (10, [.ref kN, .ref kA, .ref kO, .ref kK, .ref kV, .ref kG, .ref kP, .ref kC, .ref kD, .ref kE, .ref kF, .ref kX, .ref kY, .int 0, .ref kT, .ref kU, .int u, .int 0, .int 0]))]) (fun u => []) := by
  refine oP_i (y := yX7_setValue) (cc := cX7_setValue) (maxL := 5) (by decide) rfl (Nat.le_of_ble_eq_true rfl) ?_
  intro p e s m args below meth c ls A Q hx hb hr hml hown hts hN hZ hA hin hlk hP hK hD hl ret
  have hS : va_S A s.heap s.heap [] := va_S.rf
  have hl : lv_has ls 5 [(0, .ref k0), (1, .int p0), (2, .int p1), (3, .int p2)] := hl
  have hP : va_P (dC, dI) vwCl [(k0, .inr (10, [.ref kN, .ref kA, .ref kO, .ref kK, .ref kV, .ref kG, .ref kP, .ref kC, .ref kD, .ref kE, .ref kF, .ref kX, .ref kY, .int 0, .ref kT, .ref kU, .int 0, .int 0, .int 0])), (kN, .inl (cI, 2, .inl (fun _ => 0))), (kA, .inl (cI, 2, .inl (fun _ => 0)))] _ := hP
  have hD : va_D A [(k0, .inr (10, [.ref kN, .ref kA, .ref kO, .ref kK, .ref kV, .ref kG, .ref kP, .ref kC, .ref kD, .ref kE, .ref kF, .ref kX, .ref kY, .int 0, .ref kT, .ref kU, .int 0, .int 0, .int 0])), (kN, .inl (cI, 2, .inl (fun _ => 0))), (kA, .inl (cI, 2, .inl (fun _ => 0)))] := hD
  refine lv_aload_n hx hb dX7_setValue_0 rfl (lv_at hl 0 rfl) ?_
  refine lv_iload_n hx hb dX7_setValue_1 rfl (lv_at hl 1 rfl) ?_
  have hPc := hP.sub (ws' := []) [] rfl
  have hDc := hD.sub (ws' := []) [] (by decide) rfl
  have hKc := hK.sub (tys' := []) [] rfl
  have hFc := va_free (wc := []) hD hS hA [] rfl
  refine va_calli (va_runS (As := [.int p0]) (rest := [.ref k0]) ⟨hx, hb, hml, hown, hts⟩ (kX7_isCircuit l dC dI p0 s.heap.size) (va_cwS 1 hts gX7_setValue_X7_isCircuit rfl rfl rfl (by decide +kernel) ⟨Nat.le_of_ble_eq_true rfl, Nat.le_of_ble_eq_true rfl⟩) (fPreS hN hZ hS (fun q h => hFc q h) hPc hKc hDc) rfl rfl hl.1 rfl (lv_room (Nat.le_of_ble_eq_true rfl)) dX7_setValue_2 ⟨Nat.le_of_ble_eq_true rfl, Nat.le_of_ble_eq_true rfl⟩) hS (fun q _ h => hFc q h) hFc (fun r u t H1 locs ht hvm hw hB hz1 hk1 hS => ?_)
  obtain ⟨hP1, hK1, hD1⟩ := hB
  rw [ht] at hP1
  have hK1 := va_K.moved hvm.symm hK1
  obtain ⟨hP, hD⟩ := va_join (wr := [(k0, .inr (10, [.ref kN, .ref kA, .ref kO, .ref kK, .ref kV, .ref kG, .ref kP, .ref kC, .ref kD, .ref kE, .ref kF, .ref kX, .ref kY, .int 0, .ref kT, .ref kU, .int 0, .int 0, .int 0])), (kN, .inl (cI, 2, .inl (fun _ => 0))), (kA, .inl (cI, 2, .inl (fun _ => 0)))]) (w1 := []) hP hD [] [0, 1, 2] rfl rfl (by decide) (by decide) hk1 hFc hP1 hD1
  generalize H1 = H at hP hS ⊢
  have hP : va_P (dC, dI) vwCl [(k0, .inr (10, [.ref kN, .ref kA, .ref kO, .ref kK, .ref kV, .ref kG, .ref kP, .ref kC, .ref kD, .ref kE, .ref kF, .ref kX, .ref kY, .int 0, .ref kT, .ref kU, .int 0, .int 0, .int 0])), (kN, .inl (cI, 2, .inl (fun _ => 0))), (kA, .inl (cI, 2, .inl (fun _ => 0)))] _ := hP
  have hD : va_D A [(k0, .inr (10, [.ref kN, .ref kA, .ref kO, .ref kK, .ref kV, .ref kG, .ref kP, .ref kC, .ref kD, .ref kE, .ref kF, .ref kX, .ref kY, .int 0, .ref kT, .ref kU, .int 0, .int 0, .int 0])), (kN, .inl (cI, 2, .inl (fun _ => 0))), (kA, .inl (cI, 2, .inl (fun _ => 0)))] := hD
  rcases hw with ⟨rfl, hc | hc⟩ | ⟨rfl, hc⟩
  · skip
    subst hc
    have hP : va_P (dC, dI) vwCl [(k0, .inr (10, [.ref kN, .ref kA, .ref kO, .ref kK, .ref kV, .ref kG, .ref kP, .ref kC, .ref kD, .ref kE, .ref kF, .ref kX, .ref kY, .int 0, .ref kT, .ref kU, .int 0, .int 0, .int 0])), (kN, .inl (cI, 2, .inl (fun _ => 0))), (kA, .inl (cI, 2, .inl (fun _ => 0)))] _ := hP
    have hD : va_D A [(k0, .inr (10, [.ref kN, .ref kA, .ref kO, .ref kK, .ref kV, .ref kG, .ref kP, .ref kC, .ref kD, .ref kE, .ref kF, .ref kX, .ref kY, .int 0, .ref kT, .ref kU, .int 0, .int 0, .int 0])), (kN, .inl (cI, 2, .inl (fun _ => 0))), (kA, .inl (cI, 2, .inl (fun _ => 0)))] := hD
    refine lv_if_eq (tgt := 20) hx hb dX7_setValue_5 (by decide) (fun h9 => absurd h9 (by decide)) (fun _ => ?_)
    refine lv_iload_n hx hb dX7_setValue_8 rfl (lv_at hl 3 rfl) ?_
    refine lv_i2l (v := p2.toInt64) hx hb dX7_setValue_9 rfl ?_
    refine lv_lconst (v := 1) hx hb dX7_setValue_10 (by decide) ?_
    refine lv_ldc2 (v := 999) hx hb hown (hts (.constantLong RX7 92 (999)) (List.mem_cons_of_mem _ (List.mem_append_left _ (List.mem_append_left _ (List.mem_of_getElem? (i := 0) rfl))))) dX7_setValue_11 ?_
    have hPc := hP.sub (ws' := []) [] rfl
    have hDc := hD.sub (ws' := []) [] (by decide) rfl
    have hKc := hK.sub (tys' := []) [] rfl
    have hFc := va_free (wc := []) hD hS hA [] rfl
    refine va_calli (va_runS (As := [.long p2.toInt64, .long 1, .long 999]) (rest := [.ref k0]) ⟨hx, hb, hml, hown, hts⟩ (kX7_in l dC dI p2.toInt64 1 999 H.size) (va_cwS 3 hts gX7_setValue_X7_in rfl rfl rfl (by decide +kernel) ⟨Nat.le_of_ble_eq_true rfl, Nat.le_of_ble_eq_true rfl⟩) (fPreS hN hZ hS (fun q h => hFc q h) hPc hKc hDc) rfl rfl hl.1 rfl (lv_room (Nat.le_of_ble_eq_true rfl)) dX7_setValue_14 ⟨Nat.le_of_ble_eq_true rfl, Nat.le_of_ble_eq_true rfl⟩) hS (fun q _ h => hFc q h) hFc (fun r u t H1 locs ht hvm hw hB hz1 hk1 hS => ?_)
    obtain ⟨hP1, hK1, hD1⟩ := hB
    rw [ht] at hP1
    have hK1 := va_K.moved hvm.symm hK1
    obtain ⟨hP, hD⟩ := va_join (wr := [(k0, .inr (10, [.ref kN, .ref kA, .ref kO, .ref kK, .ref kV, .ref kG, .ref kP, .ref kC, .ref kD, .ref kE, .ref kF, .ref kX, .ref kY, .int 0, .ref kT, .ref kU, .int 0, .int 0, .int 0])), (kN, .inl (cI, 2, .inl (fun _ => 0))), (kA, .inl (cI, 2, .inl (fun _ => 0)))]) (w1 := []) hP hD [] [0, 1, 2] rfl rfl (by decide) (by decide) hk1 hFc hP1 hD1
    generalize H1 = H at hP hS ⊢
    have hP : va_P (dC, dI) vwCl [(k0, .inr (10, [.ref kN, .ref kA, .ref kO, .ref kK, .ref kV, .ref kG, .ref kP, .ref kC, .ref kD, .ref kE, .ref kF, .ref kX, .ref kY, .int 0, .ref kT, .ref kU, .int 0, .int 0, .int 0])), (kN, .inl (cI, 2, .inl (fun _ => 0))), (kA, .inl (cI, 2, .inl (fun _ => 0)))] _ := hP
    have hD : va_D A [(k0, .inr (10, [.ref kN, .ref kA, .ref kO, .ref kK, .ref kV, .ref kG, .ref kP, .ref kC, .ref kD, .ref kE, .ref kF, .ref kX, .ref kY, .int 0, .ref kT, .ref kU, .int 0, .int 0, .int 0])), (kN, .inl (cI, 2, .inl (fun _ => 0))), (kA, .inl (cI, 2, .inl (fun _ => 0)))] := hD
    rcases hw with ⟨rfl, hi9⟩ | ⟨rfl, hi9⟩
    · skip
      have hi1 : ((¬ (p2 < 1)) ∧ (¬ (999 < p2))) := (fIn p2 1 999 1 999 (by decide) (by decide)).mp hi9
      refine lv_if_ne (tgt := 24) hx hb dX7_setValue_17 (by decide) (fun _ => ?_) (fun h9 => absurd h9 (by decide))
      refine lv_aload_n hx hb dX7_setValue_24 rfl (lv_at hl 0 rfl) ?_
      refine lv_iload_n hx hb dX7_setValue_25 rfl (lv_at hl 1 rfl) ?_
      refine lv_iload_n hx hb dX7_setValue_26 rfl (lv_at hl 2 rfl) ?_
      have hPc := hP.sub (ws' := [(k0, .inr (10, [.ref kN, .ref kA, .ref kO, .ref kK, .ref kV, .ref kG, .ref kP, .ref kC, .ref kD, .ref kE, .ref kF, .ref kX, .ref kY, .int 0, .ref kT, .ref kU, .int 0, .int 0, .int 0])), (kA, .inl (cI, 2, .inl (fun _ => 0)))]) [0, 2] rfl
      have hDc := hD.sub (ws' := [(k0, .inr (10, [.ref kN, .ref kA, .ref kO, .ref kK, .ref kV, .ref kG, .ref kP, .ref kC, .ref kD, .ref kE, .ref kF, .ref kX, .ref kY, .int 0, .ref kT, .ref kU, .int 0, .int 0, .int 0])), (kA, .inl (cI, 2, .inl (fun _ => 0)))]) [0, 2] (by decide) rfl
      have hKc := hK.sub (tys' := [(cI, .int)]) [0] rfl
      have hFc := va_free (wc := [(k0, .inr (10, [.ref kN, .ref kA, .ref kO, .ref kK, .ref kV, .ref kG, .ref kP, .ref kC, .ref kD, .ref kE, .ref kF, .ref kX, .ref kY, .int 0, .ref kT, .ref kU, .int 0, .int 0, .int 0])), (kA, .inl (cI, 2, .inl (fun _ => 0)))]) hD hS hA [0, 2] rfl
      refine va_calli (va_runV (As := [.int 0, .int p1]) (rest := [.ref k0]) ⟨hx, hb, hml, hown, hts⟩ (kX7_isPart0 l dC dI k0 kN kA kO kK kV kG kP kC kD kE kF kX kY kT kU cI p1 H.size) (cwV 2 hts gX7_setValue_X7_isPart rfl rfl rfl (by decide +kernel) ⟨Nat.le_of_ble_eq_true rfl, Nat.le_of_ble_eq_true rfl⟩) (fPreV hN hZ hS (fun q h => hFc q h) hPc hKc hDc (ci := 10) (q0 := 0) rfl rfl) rfl rfl hl.1 rfl (lv_room (Nat.le_of_ble_eq_true rfl)) dX7_setValue_27 ⟨Nat.le_of_ble_eq_true rfl, Nat.le_of_ble_eq_true rfl⟩) hS (fun q _ h => hFc q h) hFc (fun r u t H1 locs ht hvm hw hB hz1 hk1 hS => ?_)
      obtain ⟨hP1, hK1, hD1⟩ := hB
      rw [ht] at hP1
      have hK1 := va_K.moved hvm.symm hK1
      obtain ⟨hP, hD⟩ := va_join (wr := [(kN, .inl (cI, 2, .inl (fun _ => 0)))]) (w1 := [(k0, .inr (10, [.ref kN, .ref kA, .ref kO, .ref kK, .ref kV, .ref kG, .ref kP, .ref kC, .ref kD, .ref kE, .ref kF, .ref kX, .ref kY, .int 0, .ref kT, .ref kU, .int 0, .int 0, .int 0])), (kA, .inl (cI, 2, .inl (fun _ => 0)))]) hP hD [0, 2] [1] rfl rfl (by decide) (by decide) hk1 hFc hP1 hD1
      generalize H1 = H at hP hS ⊢
      have hP : va_P (dC, dI) vwCl [(kN, .inl (cI, 2, .inl (fun _ => 0))), (k0, .inr (10, [.ref kN, .ref kA, .ref kO, .ref kK, .ref kV, .ref kG, .ref kP, .ref kC, .ref kD, .ref kE, .ref kF, .ref kX, .ref kY, .int 0, .ref kT, .ref kU, .int 0, .int 0, .int 0])), (kA, .inl (cI, 2, .inl (fun _ => 0)))] _ := hP
      have hD : va_D A [(kN, .inl (cI, 2, .inl (fun _ => 0))), (k0, .inr (10, [.ref kN, .ref kA, .ref kO, .ref kK, .ref kV, .ref kG, .ref kP, .ref kC, .ref kD, .ref kE, .ref kF, .ref kX, .ref kY, .int 0, .ref kT, .ref kU, .int 0, .int 0, .int 0])), (kA, .inl (cI, 2, .inl (fun _ => 0)))] := hD
      subst hw
      refine lv_if_ne (tgt := 37) hx hb dX7_setValue_30 (by decide) (fun h9 => absurd (by decide) h9) (fun _ => ?_)
      refine lv_iconst (v := 2) hx hb dX7_setValue_33 (by decide) ?_
      refine lv_goto (tgt := 38) hx hb dX7_setValue_34 (by decide) ?_
      refine va_put (D := (dC, dI)) (ci := 10) (v := .int 2) (ty := .int) (C := RX7) (T := TX7) (N := 19) hx hb hts (fun w h => List.mem_cons_of_mem _ (List.mem_append_left _ (List.mem_append_right _ (h)))) tyX7 tyX7_ok nmX7 hown hK hP hD hS 1 rfl rfl 16 (by decide) (hts (.fieldLink RX7 57 "NetcompareModel" "thrown" "I") (List.mem_cons_of_mem _ (List.mem_append_left _ (List.mem_append_left _ (List.mem_of_getElem? (i := 1) rfl))))) (fun _ h9 => h9) rfl (by decide +kernel) rfl rfl (Nat.le_of_ble_eq_true rfl) dX7_setValue_38 (fun H locs hP hD hS => ?_)
      have hP : va_P (dC, dI) vwCl [(kN, .inl (cI, 2, .inl (fun _ => 0))), (k0, .inr (10, [.ref kN, .ref kA, .ref kO, .ref kK, .ref kV, .ref kG, .ref kP, .ref kC, .ref kD, .ref kE, .ref kF, .ref kX, .ref kY, .int 0, .ref kT, .ref kU, .int 2, .int 0, .int 0])), (kA, .inl (cI, 2, .inl (fun _ => 0)))] _ := hP
      have hD : va_D A [(kN, .inl (cI, 2, .inl (fun _ => 0))), (k0, .inr (10, [.ref kN, .ref kA, .ref kO, .ref kK, .ref kV, .ref kG, .ref kP, .ref kC, .ref kD, .ref kE, .ref kF, .ref kX, .ref kY, .int 0, .ref kT, .ref kU, .int 2, .int 0, .int 0])), (kA, .inl (cI, 2, .inl (fun _ => 0)))] := hD
      refine lv_aload_n hx hb dX7_setValue_41 rfl (lv_at hl 0 rfl) ?_
      refine va_get (D := (dC, dI)) (ci := 10) (v := .int 2) (C := RX7) (T := TX7) (N := 19) hx hb hts (fun w h => List.mem_cons_of_mem _ (List.mem_append_left _ (List.mem_append_right _ (h)))) hown hK hP 1 rfl rfl 16 (by decide) (hts (.fieldLink RX7 57 "NetcompareModel" "thrown" "I") (List.mem_cons_of_mem _ (List.mem_append_left _ (List.mem_append_left _ (List.mem_of_getElem? (i := 1) rfl))))) (fun _ h9 => h9) rfl dX7_setValue_42 ?_
      refine lv_if_le (tgt := 50) hx hb dX7_setValue_45 (by decide) (fun h9 => absurd h9 (by decide)) (fun _ => ?_)
      refine lv_iconst (v := (-1)) hx hb dX7_setValue_48 (by decide) ?_
      exact ret _ 2 _ _ _ _ _ _ (Or.inr (⟨rfl, (fun h9 => h9.elim ((fun h9 => h9 (Or.inl (rfl)))) ((fun h9 => h9 (hi1))))⟩)) (hP.sub [1] rfl) (hK.sub [] rfl) (hD.sub [1] (by decide) rfl) hS (Nat.le_of_ble_eq_true rfl) (Nat.le_of_ble_eq_true rfl) dX7_setValue_49
    · skip
      have hi2 : ¬ ((¬ (p2 < 1)) ∧ (¬ (999 < p2))) := fun q => hi9 ((fIn p2 1 999 1 999 (by decide) (by decide)).mpr q)
      refine lv_if_ne (tgt := 24) hx hb dX7_setValue_17 (by decide) (fun h9 => absurd (by decide) h9) (fun _ => ?_)
      refine lv_iconst (v := 1) hx hb dX7_setValue_20 (by decide) ?_
      refine lv_goto (tgt := 38) hx hb dX7_setValue_21 (by decide) ?_
      refine va_put (D := (dC, dI)) (ci := 10) (v := .int 1) (ty := .int) (C := RX7) (T := TX7) (N := 19) hx hb hts (fun w h => List.mem_cons_of_mem _ (List.mem_append_left _ (List.mem_append_right _ (h)))) tyX7 tyX7_ok nmX7 hown hK hP hD hS 0 rfl rfl 16 (by decide) (hts (.fieldLink RX7 57 "NetcompareModel" "thrown" "I") (List.mem_cons_of_mem _ (List.mem_append_left _ (List.mem_append_left _ (List.mem_of_getElem? (i := 1) rfl))))) (fun _ h9 => h9) rfl (by decide +kernel) rfl rfl (Nat.le_of_ble_eq_true rfl) dX7_setValue_38 (fun H locs hP hD hS => ?_)
      have hP : va_P (dC, dI) vwCl [(k0, .inr (10, [.ref kN, .ref kA, .ref kO, .ref kK, .ref kV, .ref kG, .ref kP, .ref kC, .ref kD, .ref kE, .ref kF, .ref kX, .ref kY, .int 0, .ref kT, .ref kU, .int 1, .int 0, .int 0])), (kN, .inl (cI, 2, .inl (fun _ => 0))), (kA, .inl (cI, 2, .inl (fun _ => 0)))] _ := hP
      have hD : va_D A [(k0, .inr (10, [.ref kN, .ref kA, .ref kO, .ref kK, .ref kV, .ref kG, .ref kP, .ref kC, .ref kD, .ref kE, .ref kF, .ref kX, .ref kY, .int 0, .ref kT, .ref kU, .int 1, .int 0, .int 0])), (kN, .inl (cI, 2, .inl (fun _ => 0))), (kA, .inl (cI, 2, .inl (fun _ => 0)))] := hD
      refine lv_aload_n hx hb dX7_setValue_41 rfl (lv_at hl 0 rfl) ?_
      refine va_get (D := (dC, dI)) (ci := 10) (v := .int 1) (C := RX7) (T := TX7) (N := 19) hx hb hts (fun w h => List.mem_cons_of_mem _ (List.mem_append_left _ (List.mem_append_right _ (h)))) hown hK hP 0 rfl rfl 16 (by decide) (hts (.fieldLink RX7 57 "NetcompareModel" "thrown" "I") (List.mem_cons_of_mem _ (List.mem_append_left _ (List.mem_append_left _ (List.mem_of_getElem? (i := 1) rfl))))) (fun _ h9 => h9) rfl dX7_setValue_42 ?_
      refine lv_if_le (tgt := 50) hx hb dX7_setValue_45 (by decide) (fun h9 => absurd h9 (by decide)) (fun _ => ?_)
      refine lv_iconst (v := (-1)) hx hb dX7_setValue_48 (by decide) ?_
      exact ret _ 1 _ _ _ _ _ _ (Or.inl (⟨rfl, Or.inr (hi2)⟩)) (hP.sub [0] rfl) (hK.sub [] rfl) (hD.sub [0] (by decide) rfl) hS (Nat.le_of_ble_eq_true rfl) (Nat.le_of_ble_eq_true rfl) dX7_setValue_49
  · skip
    subst hc
    have hP : va_P (dC, dI) vwCl [(k0, .inr (10, [.ref kN, .ref kA, .ref kO, .ref kK, .ref kV, .ref kG, .ref kP, .ref kC, .ref kD, .ref kE, .ref kF, .ref kX, .ref kY, .int 0, .ref kT, .ref kU, .int 0, .int 0, .int 0])), (kN, .inl (cI, 2, .inl (fun _ => 0))), (kA, .inl (cI, 2, .inl (fun _ => 0)))] _ := hP
    have hD : va_D A [(k0, .inr (10, [.ref kN, .ref kA, .ref kO, .ref kK, .ref kV, .ref kG, .ref kP, .ref kC, .ref kD, .ref kE, .ref kF, .ref kX, .ref kY, .int 0, .ref kT, .ref kU, .int 0, .int 0, .int 0])), (kN, .inl (cI, 2, .inl (fun _ => 0))), (kA, .inl (cI, 2, .inl (fun _ => 0)))] := hD
    refine lv_if_eq (tgt := 20) hx hb dX7_setValue_5 (by decide) (fun h9 => absurd h9 (by decide)) (fun _ => ?_)
    refine lv_iload_n hx hb dX7_setValue_8 rfl (lv_at hl 3 rfl) ?_
    refine lv_i2l (v := p2.toInt64) hx hb dX7_setValue_9 rfl ?_
    refine lv_lconst (v := 1) hx hb dX7_setValue_10 (by decide) ?_
    refine lv_ldc2 (v := 999) hx hb hown (hts (.constantLong RX7 92 (999)) (List.mem_cons_of_mem _ (List.mem_append_left _ (List.mem_append_left _ (List.mem_of_getElem? (i := 0) rfl))))) dX7_setValue_11 ?_
    have hPc := hP.sub (ws' := []) [] rfl
    have hDc := hD.sub (ws' := []) [] (by decide) rfl
    have hKc := hK.sub (tys' := []) [] rfl
    have hFc := va_free (wc := []) hD hS hA [] rfl
    refine va_calli (va_runS (As := [.long p2.toInt64, .long 1, .long 999]) (rest := [.ref k0]) ⟨hx, hb, hml, hown, hts⟩ (kX7_in l dC dI p2.toInt64 1 999 H.size) (va_cwS 3 hts gX7_setValue_X7_in rfl rfl rfl (by decide +kernel) ⟨Nat.le_of_ble_eq_true rfl, Nat.le_of_ble_eq_true rfl⟩) (fPreS hN hZ hS (fun q h => hFc q h) hPc hKc hDc) rfl rfl hl.1 rfl (lv_room (Nat.le_of_ble_eq_true rfl)) dX7_setValue_14 ⟨Nat.le_of_ble_eq_true rfl, Nat.le_of_ble_eq_true rfl⟩) hS (fun q _ h => hFc q h) hFc (fun r u t H1 locs ht hvm hw hB hz1 hk1 hS => ?_)
    obtain ⟨hP1, hK1, hD1⟩ := hB
    rw [ht] at hP1
    have hK1 := va_K.moved hvm.symm hK1
    obtain ⟨hP, hD⟩ := va_join (wr := [(k0, .inr (10, [.ref kN, .ref kA, .ref kO, .ref kK, .ref kV, .ref kG, .ref kP, .ref kC, .ref kD, .ref kE, .ref kF, .ref kX, .ref kY, .int 0, .ref kT, .ref kU, .int 0, .int 0, .int 0])), (kN, .inl (cI, 2, .inl (fun _ => 0))), (kA, .inl (cI, 2, .inl (fun _ => 0)))]) (w1 := []) hP hD [] [0, 1, 2] rfl rfl (by decide) (by decide) hk1 hFc hP1 hD1
    generalize H1 = H at hP hS ⊢
    have hP : va_P (dC, dI) vwCl [(k0, .inr (10, [.ref kN, .ref kA, .ref kO, .ref kK, .ref kV, .ref kG, .ref kP, .ref kC, .ref kD, .ref kE, .ref kF, .ref kX, .ref kY, .int 0, .ref kT, .ref kU, .int 0, .int 0, .int 0])), (kN, .inl (cI, 2, .inl (fun _ => 0))), (kA, .inl (cI, 2, .inl (fun _ => 0)))] _ := hP
    have hD : va_D A [(k0, .inr (10, [.ref kN, .ref kA, .ref kO, .ref kK, .ref kV, .ref kG, .ref kP, .ref kC, .ref kD, .ref kE, .ref kF, .ref kX, .ref kY, .int 0, .ref kT, .ref kU, .int 0, .int 0, .int 0])), (kN, .inl (cI, 2, .inl (fun _ => 0))), (kA, .inl (cI, 2, .inl (fun _ => 0)))] := hD
    rcases hw with ⟨rfl, hi9⟩ | ⟨rfl, hi9⟩
    · skip
      have hi3 : ((¬ (p2 < 1)) ∧ (¬ (999 < p2))) := (fIn p2 1 999 1 999 (by decide) (by decide)).mp hi9
      refine lv_if_ne (tgt := 24) hx hb dX7_setValue_17 (by decide) (fun _ => ?_) (fun h9 => absurd h9 (by decide))
      refine lv_aload_n hx hb dX7_setValue_24 rfl (lv_at hl 0 rfl) ?_
      refine lv_iload_n hx hb dX7_setValue_25 rfl (lv_at hl 1 rfl) ?_
      refine lv_iload_n hx hb dX7_setValue_26 rfl (lv_at hl 2 rfl) ?_
      have hPc := hP.sub (ws' := [(k0, .inr (10, [.ref kN, .ref kA, .ref kO, .ref kK, .ref kV, .ref kG, .ref kP, .ref kC, .ref kD, .ref kE, .ref kF, .ref kX, .ref kY, .int 0, .ref kT, .ref kU, .int 0, .int 0, .int 0])), (kA, .inl (cI, 2, .inl (fun _ => 0)))]) [0, 2] rfl
      have hDc := hD.sub (ws' := [(k0, .inr (10, [.ref kN, .ref kA, .ref kO, .ref kK, .ref kV, .ref kG, .ref kP, .ref kC, .ref kD, .ref kE, .ref kF, .ref kX, .ref kY, .int 0, .ref kT, .ref kU, .int 0, .int 0, .int 0])), (kA, .inl (cI, 2, .inl (fun _ => 0)))]) [0, 2] (by decide) rfl
      have hKc := hK.sub (tys' := [(cI, .int)]) [0] rfl
      have hFc := va_free (wc := [(k0, .inr (10, [.ref kN, .ref kA, .ref kO, .ref kK, .ref kV, .ref kG, .ref kP, .ref kC, .ref kD, .ref kE, .ref kF, .ref kX, .ref kY, .int 0, .ref kT, .ref kU, .int 0, .int 0, .int 0])), (kA, .inl (cI, 2, .inl (fun _ => 0)))]) hD hS hA [0, 2] rfl
      refine va_calli (va_runV (As := [.int 1, .int p1]) (rest := [.ref k0]) ⟨hx, hb, hml, hown, hts⟩ (kX7_isPart1 l dC dI k0 kN kA kO kK kV kG kP kC kD kE kF kX kY kT kU cI p1 H.size) (cwV 2 hts gX7_setValue_X7_isPart rfl rfl rfl (by decide +kernel) ⟨Nat.le_of_ble_eq_true rfl, Nat.le_of_ble_eq_true rfl⟩) (fPreV hN hZ hS (fun q h => hFc q h) hPc hKc hDc (ci := 10) (q0 := 0) rfl rfl) rfl rfl hl.1 rfl (lv_room (Nat.le_of_ble_eq_true rfl)) dX7_setValue_27 ⟨Nat.le_of_ble_eq_true rfl, Nat.le_of_ble_eq_true rfl⟩) hS (fun q _ h => hFc q h) hFc (fun r u t H1 locs ht hvm hw hB hz1 hk1 hS => ?_)
      obtain ⟨hP1, hK1, hD1⟩ := hB
      rw [ht] at hP1
      have hK1 := va_K.moved hvm.symm hK1
      obtain ⟨hP, hD⟩ := va_join (wr := [(kN, .inl (cI, 2, .inl (fun _ => 0)))]) (w1 := [(k0, .inr (10, [.ref kN, .ref kA, .ref kO, .ref kK, .ref kV, .ref kG, .ref kP, .ref kC, .ref kD, .ref kE, .ref kF, .ref kX, .ref kY, .int 0, .ref kT, .ref kU, .int 0, .int 0, .int 0])), (kA, .inl (cI, 2, .inl (fun _ => 0)))]) hP hD [0, 2] [1] rfl rfl (by decide) (by decide) hk1 hFc hP1 hD1
      generalize H1 = H at hP hS ⊢
      have hP : va_P (dC, dI) vwCl [(kN, .inl (cI, 2, .inl (fun _ => 0))), (k0, .inr (10, [.ref kN, .ref kA, .ref kO, .ref kK, .ref kV, .ref kG, .ref kP, .ref kC, .ref kD, .ref kE, .ref kF, .ref kX, .ref kY, .int 0, .ref kT, .ref kU, .int 0, .int 0, .int 0])), (kA, .inl (cI, 2, .inl (fun _ => 0)))] _ := hP
      have hD : va_D A [(kN, .inl (cI, 2, .inl (fun _ => 0))), (k0, .inr (10, [.ref kN, .ref kA, .ref kO, .ref kK, .ref kV, .ref kG, .ref kP, .ref kC, .ref kD, .ref kE, .ref kF, .ref kX, .ref kY, .int 0, .ref kT, .ref kU, .int 0, .int 0, .int 0])), (kA, .inl (cI, 2, .inl (fun _ => 0)))] := hD
      subst hw
      refine lv_if_ne (tgt := 37) hx hb dX7_setValue_30 (by decide) (fun h9 => absurd (by decide) h9) (fun _ => ?_)
      refine lv_iconst (v := 2) hx hb dX7_setValue_33 (by decide) ?_
      refine lv_goto (tgt := 38) hx hb dX7_setValue_34 (by decide) ?_
      refine va_put (D := (dC, dI)) (ci := 10) (v := .int 2) (ty := .int) (C := RX7) (T := TX7) (N := 19) hx hb hts (fun w h => List.mem_cons_of_mem _ (List.mem_append_left _ (List.mem_append_right _ (h)))) tyX7 tyX7_ok nmX7 hown hK hP hD hS 1 rfl rfl 16 (by decide) (hts (.fieldLink RX7 57 "NetcompareModel" "thrown" "I") (List.mem_cons_of_mem _ (List.mem_append_left _ (List.mem_append_left _ (List.mem_of_getElem? (i := 1) rfl))))) (fun _ h9 => h9) rfl (by decide +kernel) rfl rfl (Nat.le_of_ble_eq_true rfl) dX7_setValue_38 (fun H locs hP hD hS => ?_)
      have hP : va_P (dC, dI) vwCl [(kN, .inl (cI, 2, .inl (fun _ => 0))), (k0, .inr (10, [.ref kN, .ref kA, .ref kO, .ref kK, .ref kV, .ref kG, .ref kP, .ref kC, .ref kD, .ref kE, .ref kF, .ref kX, .ref kY, .int 0, .ref kT, .ref kU, .int 2, .int 0, .int 0])), (kA, .inl (cI, 2, .inl (fun _ => 0)))] _ := hP
      have hD : va_D A [(kN, .inl (cI, 2, .inl (fun _ => 0))), (k0, .inr (10, [.ref kN, .ref kA, .ref kO, .ref kK, .ref kV, .ref kG, .ref kP, .ref kC, .ref kD, .ref kE, .ref kF, .ref kX, .ref kY, .int 0, .ref kT, .ref kU, .int 2, .int 0, .int 0])), (kA, .inl (cI, 2, .inl (fun _ => 0)))] := hD
      refine lv_aload_n hx hb dX7_setValue_41 rfl (lv_at hl 0 rfl) ?_
      refine va_get (D := (dC, dI)) (ci := 10) (v := .int 2) (C := RX7) (T := TX7) (N := 19) hx hb hts (fun w h => List.mem_cons_of_mem _ (List.mem_append_left _ (List.mem_append_right _ (h)))) hown hK hP 1 rfl rfl 16 (by decide) (hts (.fieldLink RX7 57 "NetcompareModel" "thrown" "I") (List.mem_cons_of_mem _ (List.mem_append_left _ (List.mem_append_left _ (List.mem_of_getElem? (i := 1) rfl))))) (fun _ h9 => h9) rfl dX7_setValue_42 ?_
      refine lv_if_le (tgt := 50) hx hb dX7_setValue_45 (by decide) (fun h9 => absurd h9 (by decide)) (fun _ => ?_)
      refine lv_iconst (v := (-1)) hx hb dX7_setValue_48 (by decide) ?_
      exact ret _ 2 _ _ _ _ _ _ (Or.inr (⟨rfl, (fun h9 => h9.elim ((fun h9 => h9 (Or.inr (rfl)))) ((fun h9 => h9 (hi3))))⟩)) (hP.sub [1] rfl) (hK.sub [] rfl) (hD.sub [1] (by decide) rfl) hS (Nat.le_of_ble_eq_true rfl) (Nat.le_of_ble_eq_true rfl) dX7_setValue_49
    · skip
      have hi4 : ¬ ((¬ (p2 < 1)) ∧ (¬ (999 < p2))) := fun q => hi9 ((fIn p2 1 999 1 999 (by decide) (by decide)).mpr q)
      refine lv_if_ne (tgt := 24) hx hb dX7_setValue_17 (by decide) (fun h9 => absurd (by decide) h9) (fun _ => ?_)
      refine lv_iconst (v := 1) hx hb dX7_setValue_20 (by decide) ?_
      refine lv_goto (tgt := 38) hx hb dX7_setValue_21 (by decide) ?_
      refine va_put (D := (dC, dI)) (ci := 10) (v := .int 1) (ty := .int) (C := RX7) (T := TX7) (N := 19) hx hb hts (fun w h => List.mem_cons_of_mem _ (List.mem_append_left _ (List.mem_append_right _ (h)))) tyX7 tyX7_ok nmX7 hown hK hP hD hS 0 rfl rfl 16 (by decide) (hts (.fieldLink RX7 57 "NetcompareModel" "thrown" "I") (List.mem_cons_of_mem _ (List.mem_append_left _ (List.mem_append_left _ (List.mem_of_getElem? (i := 1) rfl))))) (fun _ h9 => h9) rfl (by decide +kernel) rfl rfl (Nat.le_of_ble_eq_true rfl) dX7_setValue_38 (fun H locs hP hD hS => ?_)
      have hP : va_P (dC, dI) vwCl [(k0, .inr (10, [.ref kN, .ref kA, .ref kO, .ref kK, .ref kV, .ref kG, .ref kP, .ref kC, .ref kD, .ref kE, .ref kF, .ref kX, .ref kY, .int 0, .ref kT, .ref kU, .int 1, .int 0, .int 0])), (kN, .inl (cI, 2, .inl (fun _ => 0))), (kA, .inl (cI, 2, .inl (fun _ => 0)))] _ := hP
      have hD : va_D A [(k0, .inr (10, [.ref kN, .ref kA, .ref kO, .ref kK, .ref kV, .ref kG, .ref kP, .ref kC, .ref kD, .ref kE, .ref kF, .ref kX, .ref kY, .int 0, .ref kT, .ref kU, .int 1, .int 0, .int 0])), (kN, .inl (cI, 2, .inl (fun _ => 0))), (kA, .inl (cI, 2, .inl (fun _ => 0)))] := hD
      refine lv_aload_n hx hb dX7_setValue_41 rfl (lv_at hl 0 rfl) ?_
      refine va_get (D := (dC, dI)) (ci := 10) (v := .int 1) (C := RX7) (T := TX7) (N := 19) hx hb hts (fun w h => List.mem_cons_of_mem _ (List.mem_append_left _ (List.mem_append_right _ (h)))) hown hK hP 0 rfl rfl 16 (by decide) (hts (.fieldLink RX7 57 "NetcompareModel" "thrown" "I") (List.mem_cons_of_mem _ (List.mem_append_left _ (List.mem_append_left _ (List.mem_of_getElem? (i := 1) rfl))))) (fun _ h9 => h9) rfl dX7_setValue_42 ?_
      refine lv_if_le (tgt := 50) hx hb dX7_setValue_45 (by decide) (fun h9 => absurd h9 (by decide)) (fun _ => ?_)
      refine lv_iconst (v := (-1)) hx hb dX7_setValue_48 (by decide) ?_
      exact ret _ 1 _ _ _ _ _ _ (Or.inl (⟨rfl, Or.inr (hi4)⟩)) (hP.sub [0] rfl) (hK.sub [] rfl) (hD.sub [0] (by decide) rfl) hS (Nat.le_of_ble_eq_true rfl) (Nat.le_of_ble_eq_true rfl) dX7_setValue_49
  · skip
    have hc5 := hc
    refine lv_if_eq (tgt := 20) hx hb dX7_setValue_5 (by decide) (fun _ => ?_) (fun h9 => absurd (by decide) h9)
    refine lv_iconst (v := 1) hx hb dX7_setValue_20 (by decide) ?_
    refine lv_goto (tgt := 38) hx hb dX7_setValue_21 (by decide) ?_
    refine va_put (D := (dC, dI)) (ci := 10) (v := .int 1) (ty := .int) (C := RX7) (T := TX7) (N := 19) hx hb hts (fun w h => List.mem_cons_of_mem _ (List.mem_append_left _ (List.mem_append_right _ (h)))) tyX7 tyX7_ok nmX7 hown hK hP hD hS 0 rfl rfl 16 (by decide) (hts (.fieldLink RX7 57 "NetcompareModel" "thrown" "I") (List.mem_cons_of_mem _ (List.mem_append_left _ (List.mem_append_left _ (List.mem_of_getElem? (i := 1) rfl))))) (fun _ h9 => h9) rfl (by decide +kernel) rfl rfl (Nat.le_of_ble_eq_true rfl) dX7_setValue_38 (fun H locs hP hD hS => ?_)
    have hP : va_P (dC, dI) vwCl [(k0, .inr (10, [.ref kN, .ref kA, .ref kO, .ref kK, .ref kV, .ref kG, .ref kP, .ref kC, .ref kD, .ref kE, .ref kF, .ref kX, .ref kY, .int 0, .ref kT, .ref kU, .int 1, .int 0, .int 0])), (kN, .inl (cI, 2, .inl (fun _ => 0))), (kA, .inl (cI, 2, .inl (fun _ => 0)))] _ := hP
    have hD : va_D A [(k0, .inr (10, [.ref kN, .ref kA, .ref kO, .ref kK, .ref kV, .ref kG, .ref kP, .ref kC, .ref kD, .ref kE, .ref kF, .ref kX, .ref kY, .int 0, .ref kT, .ref kU, .int 1, .int 0, .int 0])), (kN, .inl (cI, 2, .inl (fun _ => 0))), (kA, .inl (cI, 2, .inl (fun _ => 0)))] := hD
    refine lv_aload_n hx hb dX7_setValue_41 rfl (lv_at hl 0 rfl) ?_
    refine va_get (D := (dC, dI)) (ci := 10) (v := .int 1) (C := RX7) (T := TX7) (N := 19) hx hb hts (fun w h => List.mem_cons_of_mem _ (List.mem_append_left _ (List.mem_append_right _ (h)))) hown hK hP 0 rfl rfl 16 (by decide) (hts (.fieldLink RX7 57 "NetcompareModel" "thrown" "I") (List.mem_cons_of_mem _ (List.mem_append_left _ (List.mem_append_left _ (List.mem_of_getElem? (i := 1) rfl))))) (fun _ h9 => h9) rfl dX7_setValue_42 ?_
    refine lv_if_le (tgt := 50) hx hb dX7_setValue_45 (by decide) (fun h9 => absurd h9 (by decide)) (fun _ => ?_)
    refine lv_iconst (v := (-1)) hx hb dX7_setValue_48 (by decide) ?_
    exact ret _ 1 _ _ _ _ _ _ (Or.inl (⟨rfl, Or.inl (hc5)⟩)) (hP.sub [0] rfl) (hK.sub [] rfl) (hD.sub [0] (by decide) rfl) hS (Nat.le_of_ble_eq_true rfl) (Nat.le_of_ble_eq_true rfl) dX7_setValue_49

set_option maxHeartbeats 4000000 in
set_option maxRecDepth 100000 in
/-- the model: copyWished on a fresh one -/
theorem kX7_copyWished (l : Launch) (dC : Nat → ClassId) (dI : Nat → Nat → Nat) (k0 kN kA kO kK kV kG kP kC kD kE kF kX kY kT kU : Nat) (cI cC cZ : ClassId) (sz : Nat) : fMi l yX7_copyWished wsX7_copyWished ({ frames := 1, cells := 0, slots := 0, locals := 23 } : Room) dC dI [.ref k0] [(k0, .inr (10, [.ref kN, .ref kA, .ref kO, .ref kK, .ref kV, .ref kG, .ref kP, .ref kC, .ref kD, .ref kE, .ref kF, .ref kX, .ref kY, .int 0, .ref kT, .ref kU, .int 0, .int 0, .int 0])), (kN, .inl (cI, 2, .inl (fun _ => 0))), (kA, .inl (cI, 2, .inl (fun _ => 0))), (kO, .inl (cC, 20, .inl (fun _ => 0))), (kK, .inl (cC, 20, .inl (fun _ => 0))), (kV, .inl (cI, 20, .inl (fun _ => 0))), (kG, .inl (cZ, 20, .inl (fun _ => 0))), (kP, .inl (cI, 60, .inl (fun _ => 0)))] [(cI, .int), (cC, .char), (cZ, .boolean)] sz (fun (r : Int32) (u : Int32) => u = 0 ∧ r = 0) (fun u => [(k0, .inr (10, [.ref kN, .ref kA, .ref kO, .ref kK, .ref kV, .ref kG, .ref kP, .ref kC, .ref kD, .ref kE, .ref kF, .ref kX, .ref kY, .int 0, .ref kT, .ref kU, .int u, .int 0, .int 0]))]) (fun u => []) := by
  refine oP_i (y := yX7_copyWished) (cc := cX7_copyWished) (maxL := 2) (by decide) rfl (Nat.le_of_ble_eq_true rfl) ?_
  intro p e s m args below meth c ls A Q hx hb hr hml hown hts hN hZ hA hin hlk hP hK hD hl ret
  have hS : va_S A s.heap s.heap [] := va_S.rf
  have hl : lv_has ls 2 [(0, .ref k0)] := hl
  have hP : va_P (dC, dI) vwCl [(k0, .inr (10, [.ref kN, .ref kA, .ref kO, .ref kK, .ref kV, .ref kG, .ref kP, .ref kC, .ref kD, .ref kE, .ref kF, .ref kX, .ref kY, .int 0, .ref kT, .ref kU, .int 0, .int 0, .int 0])), (kN, .inl (cI, 2, .inl (fun _ => 0))), (kA, .inl (cI, 2, .inl (fun _ => 0))), (kO, .inl (cC, 20, .inl (fun _ => 0))), (kK, .inl (cC, 20, .inl (fun _ => 0))), (kV, .inl (cI, 20, .inl (fun _ => 0))), (kG, .inl (cZ, 20, .inl (fun _ => 0))), (kP, .inl (cI, 60, .inl (fun _ => 0)))] _ := hP
  have hD : va_D A [(k0, .inr (10, [.ref kN, .ref kA, .ref kO, .ref kK, .ref kV, .ref kG, .ref kP, .ref kC, .ref kD, .ref kE, .ref kF, .ref kX, .ref kY, .int 0, .ref kT, .ref kU, .int 0, .int 0, .int 0])), (kN, .inl (cI, 2, .inl (fun _ => 0))), (kA, .inl (cI, 2, .inl (fun _ => 0))), (kO, .inl (cC, 20, .inl (fun _ => 0))), (kK, .inl (cC, 20, .inl (fun _ => 0))), (kV, .inl (cI, 20, .inl (fun _ => 0))), (kG, .inl (cZ, 20, .inl (fun _ => 0))), (kP, .inl (cI, 60, .inl (fun _ => 0)))] := hD
  refine lv_aload_n hx hb dX7_copyWished_0 rfl (lv_at hl 0 rfl) ?_
  refine lv_iconst (v := 0) hx hb dX7_copyWished_1 (by decide) ?_
  refine va_put (D := (dC, dI)) (ci := 10) (v := .int 0) (ty := .int) (C := RX7) (T := TX7) (N := 19) hx hb hts (fun w h => List.mem_cons_of_mem _ (List.mem_append_left _ (List.mem_append_right _ (h)))) tyX7 tyX7_ok nmX7 hown hK hP hD hS 0 rfl rfl 16 (by decide) (hts (.fieldLink RX7 57 "NetcompareModel" "thrown" "I") (List.mem_cons_of_mem _ (List.mem_append_left _ (List.mem_append_left _ (List.mem_of_getElem? (i := 0) rfl))))) (fun _ h9 => h9) rfl (by decide +kernel) rfl rfl (Nat.le_of_ble_eq_true rfl) dX7_copyWished_2 (fun H locs hP hD hS => ?_)
  have hP : va_P (dC, dI) vwCl [(k0, .inr (10, [.ref kN, .ref kA, .ref kO, .ref kK, .ref kV, .ref kG, .ref kP, .ref kC, .ref kD, .ref kE, .ref kF, .ref kX, .ref kY, .int 0, .ref kT, .ref kU, .int 0, .int 0, .int 0])), (kN, .inl (cI, 2, .inl (fun _ => 0))), (kA, .inl (cI, 2, .inl (fun _ => 0))), (kO, .inl (cC, 20, .inl (fun _ => 0))), (kK, .inl (cC, 20, .inl (fun _ => 0))), (kV, .inl (cI, 20, .inl (fun _ => 0))), (kG, .inl (cZ, 20, .inl (fun _ => 0))), (kP, .inl (cI, 60, .inl (fun _ => 0)))] _ := hP
  have hD : va_D A [(k0, .inr (10, [.ref kN, .ref kA, .ref kO, .ref kK, .ref kV, .ref kG, .ref kP, .ref kC, .ref kD, .ref kE, .ref kF, .ref kX, .ref kY, .int 0, .ref kT, .ref kU, .int 0, .int 0, .int 0])), (kN, .inl (cI, 2, .inl (fun _ => 0))), (kA, .inl (cI, 2, .inl (fun _ => 0))), (kO, .inl (cC, 20, .inl (fun _ => 0))), (kK, .inl (cC, 20, .inl (fun _ => 0))), (kV, .inl (cI, 20, .inl (fun _ => 0))), (kG, .inl (cZ, 20, .inl (fun _ => 0))), (kP, .inl (cI, 60, .inl (fun _ => 0)))] := hD
  refine lv_aload_n hx hb dX7_copyWished_5 rfl (lv_at hl 0 rfl) ?_
  refine va_get (D := (dC, dI)) (ci := 10) (v := .ref kN) (C := RX7) (T := TX7) (N := 19) hx hb hts (fun w h => List.mem_cons_of_mem _ (List.mem_append_left _ (List.mem_append_right _ (h)))) hown hK hP 0 rfl rfl 0 (by decide) (hts (.fieldLink RX7 7 "NetcompareModel" "nets" "[I") (List.mem_cons_of_mem _ (List.mem_append_left _ (List.mem_append_left _ (List.mem_of_getElem? (i := 1) rfl))))) (fun _ h9 => h9) rfl dX7_copyWished_6 ?_
  refine lv_iconst (v := 1) hx hb dX7_copyWished_9 (by decide) ?_
  refine lv_aload_n hx hb dX7_copyWished_10 rfl (lv_at hl 0 rfl) ?_
  refine va_get (D := (dC, dI)) (ci := 10) (v := .ref kN) (C := RX7) (T := TX7) (N := 19) hx hb hts (fun w h => List.mem_cons_of_mem _ (List.mem_append_left _ (List.mem_append_right _ (h)))) hown hK hP 0 rfl rfl 0 (by decide) (hts (.fieldLink RX7 7 "NetcompareModel" "nets" "[I") (List.mem_cons_of_mem _ (List.mem_append_left _ (List.mem_append_left _ (List.mem_of_getElem? (i := 1) rfl))))) (fun _ h9 => h9) rfl dX7_copyWished_11 ?_
  refine lv_iconst (v := 0) hx hb dX7_copyWished_14 (by decide) ?_
  refine va_iald hx hb hK hP 1 0 rfl rfl (show ¬ (_ ∨ _) by decide) dX7_copyWished_15 ?_
  refine W.eq (g2 := F0 m 16 ls [.int 0, .int 1, .ref kN]) rfl ?_
  refine va_iast hx hb hK hP hD hS 1 0 rfl rfl (show ¬ (_ ∨ _) by decide) dX7_copyWished_16 (fun H locs hP hD hS => ?_)
  have hP : va_P (dC, dI) vwCl [(k0, .inr (10, [.ref kN, .ref kA, .ref kO, .ref kK, .ref kV, .ref kG, .ref kP, .ref kC, .ref kD, .ref kE, .ref kF, .ref kX, .ref kY, .int 0, .ref kT, .ref kU, .int 0, .int 0, .int 0])), (kN, .inl (cI, 2, .inl (upd (fun _ => 0) 1 0))), (kA, .inl (cI, 2, .inl (fun _ => 0))), (kO, .inl (cC, 20, .inl (fun _ => 0))), (kK, .inl (cC, 20, .inl (fun _ => 0))), (kV, .inl (cI, 20, .inl (fun _ => 0))), (kG, .inl (cZ, 20, .inl (fun _ => 0))), (kP, .inl (cI, 60, .inl (fun _ => 0)))] _ := hP
  have hD : va_D A [(k0, .inr (10, [.ref kN, .ref kA, .ref kO, .ref kK, .ref kV, .ref kG, .ref kP, .ref kC, .ref kD, .ref kE, .ref kF, .ref kX, .ref kY, .int 0, .ref kT, .ref kU, .int 0, .int 0, .int 0])), (kN, .inl (cI, 2, .inl (upd (fun _ => 0) 1 0))), (kA, .inl (cI, 2, .inl (fun _ => 0))), (kO, .inl (cC, 20, .inl (fun _ => 0))), (kK, .inl (cC, 20, .inl (fun _ => 0))), (kV, .inl (cI, 20, .inl (fun _ => 0))), (kG, .inl (cZ, 20, .inl (fun _ => 0))), (kP, .inl (cI, 60, .inl (fun _ => 0)))] := hD
  rw [fU_c] at hP hD
  have hP : va_P (dC, dI) vwCl [(k0, .inr (10, [.ref kN, .ref kA, .ref kO, .ref kK, .ref kV, .ref kG, .ref kP, .ref kC, .ref kD, .ref kE, .ref kF, .ref kX, .ref kY, .int 0, .ref kT, .ref kU, .int 0, .int 0, .int 0])), (kN, .inl (cI, 2, .inl (fun _ => 0))), (kA, .inl (cI, 2, .inl (fun _ => 0))), (kO, .inl (cC, 20, .inl (fun _ => 0))), (kK, .inl (cC, 20, .inl (fun _ => 0))), (kV, .inl (cI, 20, .inl (fun _ => 0))), (kG, .inl (cZ, 20, .inl (fun _ => 0))), (kP, .inl (cI, 60, .inl (fun _ => 0)))] _ := hP
  have hD : va_D A [(k0, .inr (10, [.ref kN, .ref kA, .ref kO, .ref kK, .ref kV, .ref kG, .ref kP, .ref kC, .ref kD, .ref kE, .ref kF, .ref kX, .ref kY, .int 0, .ref kT, .ref kU, .int 0, .int 0, .int 0])), (kN, .inl (cI, 2, .inl (fun _ => 0))), (kA, .inl (cI, 2, .inl (fun _ => 0))), (kO, .inl (cC, 20, .inl (fun _ => 0))), (kK, .inl (cC, 20, .inl (fun _ => 0))), (kV, .inl (cI, 20, .inl (fun _ => 0))), (kG, .inl (cZ, 20, .inl (fun _ => 0))), (kP, .inl (cI, 60, .inl (fun _ => 0)))] := hD
  refine lv_aload_n hx hb dX7_copyWished_17 rfl (lv_at hl 0 rfl) ?_
  refine va_get (D := (dC, dI)) (ci := 10) (v := .ref kA) (C := RX7) (T := TX7) (N := 19) hx hb hts (fun w h => List.mem_cons_of_mem _ (List.mem_append_left _ (List.mem_append_right _ (h)))) hown hK hP 0 rfl rfl 1 (by decide) (hts (.fieldLink RX7 13 "NetcompareModel" "added" "[I") (List.mem_cons_of_mem _ (List.mem_append_left _ (List.mem_append_left _ (List.mem_of_getElem? (i := 2) rfl))))) (fun _ h9 => h9) rfl dX7_copyWished_18 ?_
  refine lv_iconst (v := 1) hx hb dX7_copyWished_21 (by decide) ?_
  refine lv_aload_n hx hb dX7_copyWished_22 rfl (lv_at hl 0 rfl) ?_
  refine va_get (D := (dC, dI)) (ci := 10) (v := .ref kA) (C := RX7) (T := TX7) (N := 19) hx hb hts (fun w h => List.mem_cons_of_mem _ (List.mem_append_left _ (List.mem_append_right _ (h)))) hown hK hP 0 rfl rfl 1 (by decide) (hts (.fieldLink RX7 13 "NetcompareModel" "added" "[I") (List.mem_cons_of_mem _ (List.mem_append_left _ (List.mem_append_left _ (List.mem_of_getElem? (i := 2) rfl))))) (fun _ h9 => h9) rfl dX7_copyWished_23 ?_
  refine lv_iconst (v := 0) hx hb dX7_copyWished_26 (by decide) ?_
  refine va_iald hx hb hK hP 2 0 rfl rfl (show ¬ (_ ∨ _) by decide) dX7_copyWished_27 ?_
  refine W.eq (g2 := F0 m 28 ls [.int 0, .int 1, .ref kA]) rfl ?_
  refine va_iast hx hb hK hP hD hS 2 0 rfl rfl (show ¬ (_ ∨ _) by decide) dX7_copyWished_28 (fun H locs hP hD hS => ?_)
  have hP : va_P (dC, dI) vwCl [(k0, .inr (10, [.ref kN, .ref kA, .ref kO, .ref kK, .ref kV, .ref kG, .ref kP, .ref kC, .ref kD, .ref kE, .ref kF, .ref kX, .ref kY, .int 0, .ref kT, .ref kU, .int 0, .int 0, .int 0])), (kN, .inl (cI, 2, .inl (fun _ => 0))), (kA, .inl (cI, 2, .inl (upd (fun _ => 0) 1 0))), (kO, .inl (cC, 20, .inl (fun _ => 0))), (kK, .inl (cC, 20, .inl (fun _ => 0))), (kV, .inl (cI, 20, .inl (fun _ => 0))), (kG, .inl (cZ, 20, .inl (fun _ => 0))), (kP, .inl (cI, 60, .inl (fun _ => 0)))] _ := hP
  have hD : va_D A [(k0, .inr (10, [.ref kN, .ref kA, .ref kO, .ref kK, .ref kV, .ref kG, .ref kP, .ref kC, .ref kD, .ref kE, .ref kF, .ref kX, .ref kY, .int 0, .ref kT, .ref kU, .int 0, .int 0, .int 0])), (kN, .inl (cI, 2, .inl (fun _ => 0))), (kA, .inl (cI, 2, .inl (upd (fun _ => 0) 1 0))), (kO, .inl (cC, 20, .inl (fun _ => 0))), (kK, .inl (cC, 20, .inl (fun _ => 0))), (kV, .inl (cI, 20, .inl (fun _ => 0))), (kG, .inl (cZ, 20, .inl (fun _ => 0))), (kP, .inl (cI, 60, .inl (fun _ => 0)))] := hD
  rw [fU_c] at hP hD
  have hP : va_P (dC, dI) vwCl [(k0, .inr (10, [.ref kN, .ref kA, .ref kO, .ref kK, .ref kV, .ref kG, .ref kP, .ref kC, .ref kD, .ref kE, .ref kF, .ref kX, .ref kY, .int 0, .ref kT, .ref kU, .int 0, .int 0, .int 0])), (kN, .inl (cI, 2, .inl (fun _ => 0))), (kA, .inl (cI, 2, .inl (fun _ => 0))), (kO, .inl (cC, 20, .inl (fun _ => 0))), (kK, .inl (cC, 20, .inl (fun _ => 0))), (kV, .inl (cI, 20, .inl (fun _ => 0))), (kG, .inl (cZ, 20, .inl (fun _ => 0))), (kP, .inl (cI, 60, .inl (fun _ => 0)))] _ := hP
  have hD : va_D A [(k0, .inr (10, [.ref kN, .ref kA, .ref kO, .ref kK, .ref kV, .ref kG, .ref kP, .ref kC, .ref kD, .ref kE, .ref kF, .ref kX, .ref kY, .int 0, .ref kT, .ref kU, .int 0, .int 0, .int 0])), (kN, .inl (cI, 2, .inl (fun _ => 0))), (kA, .inl (cI, 2, .inl (fun _ => 0))), (kO, .inl (cC, 20, .inl (fun _ => 0))), (kK, .inl (cC, 20, .inl (fun _ => 0))), (kV, .inl (cI, 20, .inl (fun _ => 0))), (kG, .inl (cZ, 20, .inl (fun _ => 0))), (kP, .inl (cI, 60, .inl (fun _ => 0)))] := hD
  refine lv_iconst (v := 0) hx hb dX7_copyWished_29 (by decide) ?_
  refine lv_istore_n (lv' := [(1, .int 0), (0, .ref k0)]) hx hb dX7_copyWished_30 rfl hl (Nat.le_of_ble_eq_true rfl) rfl (fun ls hl => ?_)
  have lp31 : ∀ (n i : Nat), i ≤ 10 → 10 - i < n → ∀  (ls : Array Slot) (H : Heap) (locs : List Loc), lv_has ls 2 [(1, .int (nI i)), (0, .ref k0)] → va_P (dC, dI) vwCl [(k0, .inr (10, [.ref kN, .ref kA, .ref kO, .ref kK, .ref kV, .ref kG, .ref kP, .ref kC, .ref kD, .ref kE, .ref kF, .ref kX, .ref kY, .int 0, .ref kT, .ref kU, .int 0, .int 0, .int 0])), (kN, .inl (cI, 2, .inl (fun _ => 0))), (kA, .inl (cI, 2, .inl (fun _ => 0))), (kO, .inl (cC, 20, .inl (fun _ => 0))), (kK, .inl (cC, 20, .inl (fun _ => 0))), (kV, .inl (cI, 20, .inl (fun _ => 0))), (kG, .inl (cZ, 20, .inl (fun _ => 0))), (kP, .inl (cI, 60, .inl (fun _ => 0)))] H → va_D A [(k0, .inr (10, [.ref kN, .ref kA, .ref kO, .ref kK, .ref kV, .ref kG, .ref kP, .ref kC, .ref kD, .ref kE, .ref kF, .ref kX, .ref kY, .int 0, .ref kT, .ref kU, .int 0, .int 0, .int 0])), (kN, .inl (cI, 2, .inl (fun _ => 0))), (kA, .inl (cI, 2, .inl (fun _ => 0))), (kO, .inl (cC, 20, .inl (fun _ => 0))), (kK, .inl (cC, 20, .inl (fun _ => 0))), (kV, .inl (cI, 20, .inl (fun _ => 0))), (kG, .inl (cZ, 20, .inl (fun _ => 0))), (kP, .inl (cI, 60, .inl (fun _ => 0)))] → va_S A s.heap H locs → W p l e ({ frames := 1, cells := 0, slots := 0, locals := 23 } : Room) s m args below meth c H locs 0 0 Q (F0 m 31 ls []) := by
    intro n
    induction n with
    | zero => intro i _ h9; exact absurd h9 (Nat.not_lt_zero _)
    | succ n ih =>
      intro i hi hn  ls H locs hl hP hD hS
      rcases Nat.lt_or_ge i 10 with hlt | hge
      · skip
        refine lv_iload_n hx hb dX7_copyWished_31 rfl (lv_at hl 0 rfl) ?_
        refine lv_bipush (v := 10) hx hb dX7_copyWished_32 (by decide) ?_
        refine lv_icmp_ge (tgt := 103) hx hb dX7_copyWished_34 (by decide) (fun h9 => absurd h9 (show ¬ nI 10 ≤ nI i from nI_ge hlt (by decide))) (fun _ => ?_)
        refine lv_aload_n hx hb dX7_copyWished_37 rfl (lv_at hl 1 rfl) ?_
        refine va_get (D := (dC, dI)) (ci := 10) (v := .ref kO) (C := RX7) (T := TX7) (N := 19) hx hb hts (fun w h => List.mem_cons_of_mem _ (List.mem_append_left _ (List.mem_append_right _ (h)))) hown hK hP 0 rfl rfl 2 (by decide) (hts (.fieldLink RX7 16 "NetcompareModel" "ports" "[C") (List.mem_cons_of_mem _ (List.mem_append_left _ (List.mem_append_left _ (List.mem_of_getElem? (i := 3) rfl))))) (fun _ h9 => h9) rfl dX7_copyWished_38 ?_
        refine lv_bipush (v := 10) hx hb dX7_copyWished_41 (by decide) ?_
        refine lv_iload_n hx hb dX7_copyWished_43 rfl (lv_at hl 0 rfl) ?_
        refine lv_iadd hx hb dX7_copyWished_44 ?_
        refine lv_topi (fun y1 ey1 => ?_)
        obtain rfl : y1 = nI (10 + i) := ey1.trans (nI_add 10 i)
        refine lv_aload_n hx hb dX7_copyWished_45 rfl (lv_at hl 1 rfl) ?_
        refine va_get (D := (dC, dI)) (ci := 10) (v := .ref kO) (C := RX7) (T := TX7) (N := 19) hx hb hts (fun w h => List.mem_cons_of_mem _ (List.mem_append_left _ (List.mem_append_right _ (h)))) hown hK hP 0 rfl rfl 2 (by decide) (hts (.fieldLink RX7 16 "NetcompareModel" "ports" "[C") (List.mem_cons_of_mem _ (List.mem_append_left _ (List.mem_append_left _ (List.mem_of_getElem? (i := 3) rfl))))) (fun _ h9 => h9) rfl dX7_copyWished_46 ?_
        refine lv_iload_n hx hb dX7_copyWished_49 rfl (lv_at hl 0 rfl) ?_
        refine va_cald hx hb hK hP 3 1 rfl rfl (vp_in_nI (Nat.lt_of_lt_of_le hlt (by decide)) (by decide)) dX7_copyWished_50 ?_
        refine W.eq (g2 := F0 m 51 ls [.int 0, .int (nI (10 + i)), .ref kO]) rfl ?_
        refine va_cast hx hb hK hP hD hS 3 1 rfl rfl (vp_in_nI (show (10 + i) < 20 by omega) (by decide)) dX7_copyWished_51 (fun H locs hP hD hS => ?_)
        rw [nI_clamp (show (10 + i) < 2 ^ 31 by omega)] at hP hD
        have hP : va_P (dC, dI) vwCl [(k0, .inr (10, [.ref kN, .ref kA, .ref kO, .ref kK, .ref kV, .ref kG, .ref kP, .ref kC, .ref kD, .ref kE, .ref kF, .ref kX, .ref kY, .int 0, .ref kT, .ref kU, .int 0, .int 0, .int 0])), (kN, .inl (cI, 2, .inl (fun _ => 0))), (kA, .inl (cI, 2, .inl (fun _ => 0))), (kO, .inl (cC, 20, .inl (upd (fun _ => 0) (10 + i) (vp_nar .char 0)))), (kK, .inl (cC, 20, .inl (fun _ => 0))), (kV, .inl (cI, 20, .inl (fun _ => 0))), (kG, .inl (cZ, 20, .inl (fun _ => 0))), (kP, .inl (cI, 60, .inl (fun _ => 0)))] _ := hP
        have hD : va_D A [(k0, .inr (10, [.ref kN, .ref kA, .ref kO, .ref kK, .ref kV, .ref kG, .ref kP, .ref kC, .ref kD, .ref kE, .ref kF, .ref kX, .ref kY, .int 0, .ref kT, .ref kU, .int 0, .int 0, .int 0])), (kN, .inl (cI, 2, .inl (fun _ => 0))), (kA, .inl (cI, 2, .inl (fun _ => 0))), (kO, .inl (cC, 20, .inl (upd (fun _ => 0) (10 + i) (vp_nar .char 0)))), (kK, .inl (cC, 20, .inl (fun _ => 0))), (kV, .inl (cI, 20, .inl (fun _ => 0))), (kG, .inl (cZ, 20, .inl (fun _ => 0))), (kP, .inl (cI, 60, .inl (fun _ => 0)))] := hD
        rw [show vp_nar .char 0 = 0 from rfl] at hP hD
        have hP : va_P (dC, dI) vwCl [(k0, .inr (10, [.ref kN, .ref kA, .ref kO, .ref kK, .ref kV, .ref kG, .ref kP, .ref kC, .ref kD, .ref kE, .ref kF, .ref kX, .ref kY, .int 0, .ref kT, .ref kU, .int 0, .int 0, .int 0])), (kN, .inl (cI, 2, .inl (fun _ => 0))), (kA, .inl (cI, 2, .inl (fun _ => 0))), (kO, .inl (cC, 20, .inl (upd (fun _ => 0) (10 + i) 0))), (kK, .inl (cC, 20, .inl (fun _ => 0))), (kV, .inl (cI, 20, .inl (fun _ => 0))), (kG, .inl (cZ, 20, .inl (fun _ => 0))), (kP, .inl (cI, 60, .inl (fun _ => 0)))] _ := hP
        have hD : va_D A [(k0, .inr (10, [.ref kN, .ref kA, .ref kO, .ref kK, .ref kV, .ref kG, .ref kP, .ref kC, .ref kD, .ref kE, .ref kF, .ref kX, .ref kY, .int 0, .ref kT, .ref kU, .int 0, .int 0, .int 0])), (kN, .inl (cI, 2, .inl (fun _ => 0))), (kA, .inl (cI, 2, .inl (fun _ => 0))), (kO, .inl (cC, 20, .inl (upd (fun _ => 0) (10 + i) 0))), (kK, .inl (cC, 20, .inl (fun _ => 0))), (kV, .inl (cI, 20, .inl (fun _ => 0))), (kG, .inl (cZ, 20, .inl (fun _ => 0))), (kP, .inl (cI, 60, .inl (fun _ => 0)))] := hD
        rw [fU_c] at hP hD
        have hP : va_P (dC, dI) vwCl [(k0, .inr (10, [.ref kN, .ref kA, .ref kO, .ref kK, .ref kV, .ref kG, .ref kP, .ref kC, .ref kD, .ref kE, .ref kF, .ref kX, .ref kY, .int 0, .ref kT, .ref kU, .int 0, .int 0, .int 0])), (kN, .inl (cI, 2, .inl (fun _ => 0))), (kA, .inl (cI, 2, .inl (fun _ => 0))), (kO, .inl (cC, 20, .inl (fun _ => 0))), (kK, .inl (cC, 20, .inl (fun _ => 0))), (kV, .inl (cI, 20, .inl (fun _ => 0))), (kG, .inl (cZ, 20, .inl (fun _ => 0))), (kP, .inl (cI, 60, .inl (fun _ => 0)))] _ := hP
        have hD : va_D A [(k0, .inr (10, [.ref kN, .ref kA, .ref kO, .ref kK, .ref kV, .ref kG, .ref kP, .ref kC, .ref kD, .ref kE, .ref kF, .ref kX, .ref kY, .int 0, .ref kT, .ref kU, .int 0, .int 0, .int 0])), (kN, .inl (cI, 2, .inl (fun _ => 0))), (kA, .inl (cI, 2, .inl (fun _ => 0))), (kO, .inl (cC, 20, .inl (fun _ => 0))), (kK, .inl (cC, 20, .inl (fun _ => 0))), (kV, .inl (cI, 20, .inl (fun _ => 0))), (kG, .inl (cZ, 20, .inl (fun _ => 0))), (kP, .inl (cI, 60, .inl (fun _ => 0)))] := hD
        refine lv_aload_n hx hb dX7_copyWished_52 rfl (lv_at hl 1 rfl) ?_
        refine va_get (D := (dC, dI)) (ci := 10) (v := .ref kK) (C := RX7) (T := TX7) (N := 19) hx hb hts (fun w h => List.mem_cons_of_mem _ (List.mem_append_left _ (List.mem_append_right _ (h)))) hown hK hP 0 rfl rfl 3 (by decide) (hts (.fieldLink RX7 20 "NetcompareModel" "kinds" "[C") (List.mem_cons_of_mem _ (List.mem_append_left _ (List.mem_append_left _ (List.mem_of_getElem? (i := 4) rfl))))) (fun _ h9 => h9) rfl dX7_copyWished_53 ?_
        refine lv_bipush (v := 10) hx hb dX7_copyWished_56 (by decide) ?_
        refine lv_iload_n hx hb dX7_copyWished_58 rfl (lv_at hl 0 rfl) ?_
        refine lv_iadd hx hb dX7_copyWished_59 ?_
        refine lv_topi (fun y2 ey2 => ?_)
        obtain rfl : y2 = nI (10 + i) := ey2.trans (nI_add 10 i)
        refine lv_aload_n hx hb dX7_copyWished_60 rfl (lv_at hl 1 rfl) ?_
        refine va_get (D := (dC, dI)) (ci := 10) (v := .ref kK) (C := RX7) (T := TX7) (N := 19) hx hb hts (fun w h => List.mem_cons_of_mem _ (List.mem_append_left _ (List.mem_append_right _ (h)))) hown hK hP 0 rfl rfl 3 (by decide) (hts (.fieldLink RX7 20 "NetcompareModel" "kinds" "[C") (List.mem_cons_of_mem _ (List.mem_append_left _ (List.mem_append_left _ (List.mem_of_getElem? (i := 4) rfl))))) (fun _ h9 => h9) rfl dX7_copyWished_61 ?_
        refine lv_iload_n hx hb dX7_copyWished_64 rfl (lv_at hl 0 rfl) ?_
        refine va_cald hx hb hK hP 4 1 rfl rfl (vp_in_nI (Nat.lt_of_lt_of_le hlt (by decide)) (by decide)) dX7_copyWished_65 ?_
        refine W.eq (g2 := F0 m 66 ls [.int 0, .int (nI (10 + i)), .ref kK]) rfl ?_
        refine va_cast hx hb hK hP hD hS 4 1 rfl rfl (vp_in_nI (show (10 + i) < 20 by omega) (by decide)) dX7_copyWished_66 (fun H locs hP hD hS => ?_)
        rw [nI_clamp (show (10 + i) < 2 ^ 31 by omega)] at hP hD
        have hP : va_P (dC, dI) vwCl [(k0, .inr (10, [.ref kN, .ref kA, .ref kO, .ref kK, .ref kV, .ref kG, .ref kP, .ref kC, .ref kD, .ref kE, .ref kF, .ref kX, .ref kY, .int 0, .ref kT, .ref kU, .int 0, .int 0, .int 0])), (kN, .inl (cI, 2, .inl (fun _ => 0))), (kA, .inl (cI, 2, .inl (fun _ => 0))), (kO, .inl (cC, 20, .inl (fun _ => 0))), (kK, .inl (cC, 20, .inl (upd (fun _ => 0) (10 + i) (vp_nar .char 0)))), (kV, .inl (cI, 20, .inl (fun _ => 0))), (kG, .inl (cZ, 20, .inl (fun _ => 0))), (kP, .inl (cI, 60, .inl (fun _ => 0)))] _ := hP
        have hD : va_D A [(k0, .inr (10, [.ref kN, .ref kA, .ref kO, .ref kK, .ref kV, .ref kG, .ref kP, .ref kC, .ref kD, .ref kE, .ref kF, .ref kX, .ref kY, .int 0, .ref kT, .ref kU, .int 0, .int 0, .int 0])), (kN, .inl (cI, 2, .inl (fun _ => 0))), (kA, .inl (cI, 2, .inl (fun _ => 0))), (kO, .inl (cC, 20, .inl (fun _ => 0))), (kK, .inl (cC, 20, .inl (upd (fun _ => 0) (10 + i) (vp_nar .char 0)))), (kV, .inl (cI, 20, .inl (fun _ => 0))), (kG, .inl (cZ, 20, .inl (fun _ => 0))), (kP, .inl (cI, 60, .inl (fun _ => 0)))] := hD
        rw [show vp_nar .char 0 = 0 from rfl] at hP hD
        have hP : va_P (dC, dI) vwCl [(k0, .inr (10, [.ref kN, .ref kA, .ref kO, .ref kK, .ref kV, .ref kG, .ref kP, .ref kC, .ref kD, .ref kE, .ref kF, .ref kX, .ref kY, .int 0, .ref kT, .ref kU, .int 0, .int 0, .int 0])), (kN, .inl (cI, 2, .inl (fun _ => 0))), (kA, .inl (cI, 2, .inl (fun _ => 0))), (kO, .inl (cC, 20, .inl (fun _ => 0))), (kK, .inl (cC, 20, .inl (upd (fun _ => 0) (10 + i) 0))), (kV, .inl (cI, 20, .inl (fun _ => 0))), (kG, .inl (cZ, 20, .inl (fun _ => 0))), (kP, .inl (cI, 60, .inl (fun _ => 0)))] _ := hP
        have hD : va_D A [(k0, .inr (10, [.ref kN, .ref kA, .ref kO, .ref kK, .ref kV, .ref kG, .ref kP, .ref kC, .ref kD, .ref kE, .ref kF, .ref kX, .ref kY, .int 0, .ref kT, .ref kU, .int 0, .int 0, .int 0])), (kN, .inl (cI, 2, .inl (fun _ => 0))), (kA, .inl (cI, 2, .inl (fun _ => 0))), (kO, .inl (cC, 20, .inl (fun _ => 0))), (kK, .inl (cC, 20, .inl (upd (fun _ => 0) (10 + i) 0))), (kV, .inl (cI, 20, .inl (fun _ => 0))), (kG, .inl (cZ, 20, .inl (fun _ => 0))), (kP, .inl (cI, 60, .inl (fun _ => 0)))] := hD
        rw [fU_c] at hP hD
        have hP : va_P (dC, dI) vwCl [(k0, .inr (10, [.ref kN, .ref kA, .ref kO, .ref kK, .ref kV, .ref kG, .ref kP, .ref kC, .ref kD, .ref kE, .ref kF, .ref kX, .ref kY, .int 0, .ref kT, .ref kU, .int 0, .int 0, .int 0])), (kN, .inl (cI, 2, .inl (fun _ => 0))), (kA, .inl (cI, 2, .inl (fun _ => 0))), (kO, .inl (cC, 20, .inl (fun _ => 0))), (kK, .inl (cC, 20, .inl (fun _ => 0))), (kV, .inl (cI, 20, .inl (fun _ => 0))), (kG, .inl (cZ, 20, .inl (fun _ => 0))), (kP, .inl (cI, 60, .inl (fun _ => 0)))] _ := hP
        have hD : va_D A [(k0, .inr (10, [.ref kN, .ref kA, .ref kO, .ref kK, .ref kV, .ref kG, .ref kP, .ref kC, .ref kD, .ref kE, .ref kF, .ref kX, .ref kY, .int 0, .ref kT, .ref kU, .int 0, .int 0, .int 0])), (kN, .inl (cI, 2, .inl (fun _ => 0))), (kA, .inl (cI, 2, .inl (fun _ => 0))), (kO, .inl (cC, 20, .inl (fun _ => 0))), (kK, .inl (cC, 20, .inl (fun _ => 0))), (kV, .inl (cI, 20, .inl (fun _ => 0))), (kG, .inl (cZ, 20, .inl (fun _ => 0))), (kP, .inl (cI, 60, .inl (fun _ => 0)))] := hD
        refine lv_aload_n hx hb dX7_copyWished_67 rfl (lv_at hl 1 rfl) ?_
        refine va_get (D := (dC, dI)) (ci := 10) (v := .ref kV) (C := RX7) (T := TX7) (N := 19) hx hb hts (fun w h => List.mem_cons_of_mem _ (List.mem_append_left _ (List.mem_append_right _ (h)))) hown hK hP 0 rfl rfl 4 (by decide) (hts (.fieldLink RX7 23 "NetcompareModel" "values" "[I") (List.mem_cons_of_mem _ (List.mem_append_left _ (List.mem_append_left _ (List.mem_of_getElem? (i := 5) rfl))))) (fun _ h9 => h9) rfl dX7_copyWished_68 ?_
        refine lv_bipush (v := 10) hx hb dX7_copyWished_71 (by decide) ?_
        refine lv_iload_n hx hb dX7_copyWished_73 rfl (lv_at hl 0 rfl) ?_
        refine lv_iadd hx hb dX7_copyWished_74 ?_
        refine lv_topi (fun y3 ey3 => ?_)
        obtain rfl : y3 = nI (10 + i) := ey3.trans (nI_add 10 i)
        refine lv_aload_n hx hb dX7_copyWished_75 rfl (lv_at hl 1 rfl) ?_
        refine va_get (D := (dC, dI)) (ci := 10) (v := .ref kV) (C := RX7) (T := TX7) (N := 19) hx hb hts (fun w h => List.mem_cons_of_mem _ (List.mem_append_left _ (List.mem_append_right _ (h)))) hown hK hP 0 rfl rfl 4 (by decide) (hts (.fieldLink RX7 23 "NetcompareModel" "values" "[I") (List.mem_cons_of_mem _ (List.mem_append_left _ (List.mem_append_left _ (List.mem_of_getElem? (i := 5) rfl))))) (fun _ h9 => h9) rfl dX7_copyWished_76 ?_
        refine lv_iload_n hx hb dX7_copyWished_79 rfl (lv_at hl 0 rfl) ?_
        refine va_iald hx hb hK hP 5 0 rfl rfl (vp_in_nI (Nat.lt_of_lt_of_le hlt (by decide)) (by decide)) dX7_copyWished_80 ?_
        refine W.eq (g2 := F0 m 81 ls [.int 0, .int (nI (10 + i)), .ref kV]) rfl ?_
        refine va_iast hx hb hK hP hD hS 5 0 rfl rfl (vp_in_nI (show (10 + i) < 20 by omega) (by decide)) dX7_copyWished_81 (fun H locs hP hD hS => ?_)
        rw [nI_clamp (show (10 + i) < 2 ^ 31 by omega)] at hP hD
        have hP : va_P (dC, dI) vwCl [(k0, .inr (10, [.ref kN, .ref kA, .ref kO, .ref kK, .ref kV, .ref kG, .ref kP, .ref kC, .ref kD, .ref kE, .ref kF, .ref kX, .ref kY, .int 0, .ref kT, .ref kU, .int 0, .int 0, .int 0])), (kN, .inl (cI, 2, .inl (fun _ => 0))), (kA, .inl (cI, 2, .inl (fun _ => 0))), (kO, .inl (cC, 20, .inl (fun _ => 0))), (kK, .inl (cC, 20, .inl (fun _ => 0))), (kV, .inl (cI, 20, .inl (upd (fun _ => 0) (10 + i) 0))), (kG, .inl (cZ, 20, .inl (fun _ => 0))), (kP, .inl (cI, 60, .inl (fun _ => 0)))] _ := hP
        have hD : va_D A [(k0, .inr (10, [.ref kN, .ref kA, .ref kO, .ref kK, .ref kV, .ref kG, .ref kP, .ref kC, .ref kD, .ref kE, .ref kF, .ref kX, .ref kY, .int 0, .ref kT, .ref kU, .int 0, .int 0, .int 0])), (kN, .inl (cI, 2, .inl (fun _ => 0))), (kA, .inl (cI, 2, .inl (fun _ => 0))), (kO, .inl (cC, 20, .inl (fun _ => 0))), (kK, .inl (cC, 20, .inl (fun _ => 0))), (kV, .inl (cI, 20, .inl (upd (fun _ => 0) (10 + i) 0))), (kG, .inl (cZ, 20, .inl (fun _ => 0))), (kP, .inl (cI, 60, .inl (fun _ => 0)))] := hD
        rw [fU_c] at hP hD
        have hP : va_P (dC, dI) vwCl [(k0, .inr (10, [.ref kN, .ref kA, .ref kO, .ref kK, .ref kV, .ref kG, .ref kP, .ref kC, .ref kD, .ref kE, .ref kF, .ref kX, .ref kY, .int 0, .ref kT, .ref kU, .int 0, .int 0, .int 0])), (kN, .inl (cI, 2, .inl (fun _ => 0))), (kA, .inl (cI, 2, .inl (fun _ => 0))), (kO, .inl (cC, 20, .inl (fun _ => 0))), (kK, .inl (cC, 20, .inl (fun _ => 0))), (kV, .inl (cI, 20, .inl (fun _ => 0))), (kG, .inl (cZ, 20, .inl (fun _ => 0))), (kP, .inl (cI, 60, .inl (fun _ => 0)))] _ := hP
        have hD : va_D A [(k0, .inr (10, [.ref kN, .ref kA, .ref kO, .ref kK, .ref kV, .ref kG, .ref kP, .ref kC, .ref kD, .ref kE, .ref kF, .ref kX, .ref kY, .int 0, .ref kT, .ref kU, .int 0, .int 0, .int 0])), (kN, .inl (cI, 2, .inl (fun _ => 0))), (kA, .inl (cI, 2, .inl (fun _ => 0))), (kO, .inl (cC, 20, .inl (fun _ => 0))), (kK, .inl (cC, 20, .inl (fun _ => 0))), (kV, .inl (cI, 20, .inl (fun _ => 0))), (kG, .inl (cZ, 20, .inl (fun _ => 0))), (kP, .inl (cI, 60, .inl (fun _ => 0)))] := hD
        refine lv_aload_n hx hb dX7_copyWished_82 rfl (lv_at hl 1 rfl) ?_
        refine va_get (D := (dC, dI)) (ci := 10) (v := .ref kG) (C := RX7) (T := TX7) (N := 19) hx hb hts (fun w h => List.mem_cons_of_mem _ (List.mem_append_left _ (List.mem_append_right _ (h)))) hown hK hP 0 rfl rfl 5 (by decide) (hts (.fieldLink RX7 26 "NetcompareModel" "isGone" "[Z") (List.mem_cons_of_mem _ (List.mem_append_left _ (List.mem_append_left _ (List.mem_of_getElem? (i := 6) rfl))))) (fun _ h9 => h9) rfl dX7_copyWished_83 ?_
        refine lv_bipush (v := 10) hx hb dX7_copyWished_86 (by decide) ?_
        refine lv_iload_n hx hb dX7_copyWished_88 rfl (lv_at hl 0 rfl) ?_
        refine lv_iadd hx hb dX7_copyWished_89 ?_
        refine lv_topi (fun y4 ey4 => ?_)
        obtain rfl : y4 = nI (10 + i) := ey4.trans (nI_add 10 i)
        refine lv_aload_n hx hb dX7_copyWished_90 rfl (lv_at hl 1 rfl) ?_
        refine va_get (D := (dC, dI)) (ci := 10) (v := .ref kG) (C := RX7) (T := TX7) (N := 19) hx hb hts (fun w h => List.mem_cons_of_mem _ (List.mem_append_left _ (List.mem_append_right _ (h)))) hown hK hP 0 rfl rfl 5 (by decide) (hts (.fieldLink RX7 26 "NetcompareModel" "isGone" "[Z") (List.mem_cons_of_mem _ (List.mem_append_left _ (List.mem_append_left _ (List.mem_of_getElem? (i := 6) rfl))))) (fun _ h9 => h9) rfl dX7_copyWished_91 ?_
        refine lv_iload_n hx hb dX7_copyWished_94 rfl (lv_at hl 0 rfl) ?_
        refine va_zald hx hb hK hP 6 2 rfl rfl (vp_in_nI (Nat.lt_of_lt_of_le hlt (by decide)) (by decide)) dX7_copyWished_95 ?_
        refine W.eq (g2 := F0 m 96 ls [.int 0, .int (nI (10 + i)), .ref kG]) rfl ?_
        refine va_zast hx hb hK hP hD hS 6 2 rfl rfl (vp_in_nI (show (10 + i) < 20 by omega) (by decide)) dX7_copyWished_96 (fun H locs hP hD hS => ?_)
        rw [nI_clamp (show (10 + i) < 2 ^ 31 by omega)] at hP hD
        have hP : va_P (dC, dI) vwCl [(k0, .inr (10, [.ref kN, .ref kA, .ref kO, .ref kK, .ref kV, .ref kG, .ref kP, .ref kC, .ref kD, .ref kE, .ref kF, .ref kX, .ref kY, .int 0, .ref kT, .ref kU, .int 0, .int 0, .int 0])), (kN, .inl (cI, 2, .inl (fun _ => 0))), (kA, .inl (cI, 2, .inl (fun _ => 0))), (kO, .inl (cC, 20, .inl (fun _ => 0))), (kK, .inl (cC, 20, .inl (fun _ => 0))), (kV, .inl (cI, 20, .inl (fun _ => 0))), (kG, .inl (cZ, 20, .inl (upd (fun _ => 0) (10 + i) (vp_nar .boolean 0)))), (kP, .inl (cI, 60, .inl (fun _ => 0)))] _ := hP
        have hD : va_D A [(k0, .inr (10, [.ref kN, .ref kA, .ref kO, .ref kK, .ref kV, .ref kG, .ref kP, .ref kC, .ref kD, .ref kE, .ref kF, .ref kX, .ref kY, .int 0, .ref kT, .ref kU, .int 0, .int 0, .int 0])), (kN, .inl (cI, 2, .inl (fun _ => 0))), (kA, .inl (cI, 2, .inl (fun _ => 0))), (kO, .inl (cC, 20, .inl (fun _ => 0))), (kK, .inl (cC, 20, .inl (fun _ => 0))), (kV, .inl (cI, 20, .inl (fun _ => 0))), (kG, .inl (cZ, 20, .inl (upd (fun _ => 0) (10 + i) (vp_nar .boolean 0)))), (kP, .inl (cI, 60, .inl (fun _ => 0)))] := hD
        rw [show vp_nar .boolean 0 = 0 from rfl] at hP hD
        have hP : va_P (dC, dI) vwCl [(k0, .inr (10, [.ref kN, .ref kA, .ref kO, .ref kK, .ref kV, .ref kG, .ref kP, .ref kC, .ref kD, .ref kE, .ref kF, .ref kX, .ref kY, .int 0, .ref kT, .ref kU, .int 0, .int 0, .int 0])), (kN, .inl (cI, 2, .inl (fun _ => 0))), (kA, .inl (cI, 2, .inl (fun _ => 0))), (kO, .inl (cC, 20, .inl (fun _ => 0))), (kK, .inl (cC, 20, .inl (fun _ => 0))), (kV, .inl (cI, 20, .inl (fun _ => 0))), (kG, .inl (cZ, 20, .inl (upd (fun _ => 0) (10 + i) 0))), (kP, .inl (cI, 60, .inl (fun _ => 0)))] _ := hP
        have hD : va_D A [(k0, .inr (10, [.ref kN, .ref kA, .ref kO, .ref kK, .ref kV, .ref kG, .ref kP, .ref kC, .ref kD, .ref kE, .ref kF, .ref kX, .ref kY, .int 0, .ref kT, .ref kU, .int 0, .int 0, .int 0])), (kN, .inl (cI, 2, .inl (fun _ => 0))), (kA, .inl (cI, 2, .inl (fun _ => 0))), (kO, .inl (cC, 20, .inl (fun _ => 0))), (kK, .inl (cC, 20, .inl (fun _ => 0))), (kV, .inl (cI, 20, .inl (fun _ => 0))), (kG, .inl (cZ, 20, .inl (upd (fun _ => 0) (10 + i) 0))), (kP, .inl (cI, 60, .inl (fun _ => 0)))] := hD
        rw [fU_c] at hP hD
        have hP : va_P (dC, dI) vwCl [(k0, .inr (10, [.ref kN, .ref kA, .ref kO, .ref kK, .ref kV, .ref kG, .ref kP, .ref kC, .ref kD, .ref kE, .ref kF, .ref kX, .ref kY, .int 0, .ref kT, .ref kU, .int 0, .int 0, .int 0])), (kN, .inl (cI, 2, .inl (fun _ => 0))), (kA, .inl (cI, 2, .inl (fun _ => 0))), (kO, .inl (cC, 20, .inl (fun _ => 0))), (kK, .inl (cC, 20, .inl (fun _ => 0))), (kV, .inl (cI, 20, .inl (fun _ => 0))), (kG, .inl (cZ, 20, .inl (fun _ => 0))), (kP, .inl (cI, 60, .inl (fun _ => 0)))] _ := hP
        have hD : va_D A [(k0, .inr (10, [.ref kN, .ref kA, .ref kO, .ref kK, .ref kV, .ref kG, .ref kP, .ref kC, .ref kD, .ref kE, .ref kF, .ref kX, .ref kY, .int 0, .ref kT, .ref kU, .int 0, .int 0, .int 0])), (kN, .inl (cI, 2, .inl (fun _ => 0))), (kA, .inl (cI, 2, .inl (fun _ => 0))), (kO, .inl (cC, 20, .inl (fun _ => 0))), (kK, .inl (cC, 20, .inl (fun _ => 0))), (kV, .inl (cI, 20, .inl (fun _ => 0))), (kG, .inl (cZ, 20, .inl (fun _ => 0))), (kP, .inl (cI, 60, .inl (fun _ => 0)))] := hD
        refine lv_iinc (v := (nI (i + 1))) (lv' := [(1, .int (nI (i + 1))), (0, .ref k0)]) hx hb dX7_copyWished_97 hl (k := 0) rfl (nI_1 _) (Nat.le_of_ble_eq_true rfl) rfl (fun ls hl => ?_)
        refine lv_goto (tgt := 31) hx hb dX7_copyWished_100 (by decide) ?_
        exact ih (i + 1) hlt (by omega) _ _ _ (lv_sub hl [0, 1] rfl) (hP.sub [0, 1, 2, 3, 4, 5, 6, 7] rfl) (hD.sub [0, 1, 2, 3, 4, 5, 6, 7] (by decide) rfl) hS
      · skip
        refine lv_iload_n hx hb dX7_copyWished_31 rfl (lv_at hl 0 rfl) ?_
        refine lv_bipush (v := 10) hx hb dX7_copyWished_32 (by decide) ?_
        refine lv_icmp_ge (tgt := 103) hx hb dX7_copyWished_34 (by decide) (fun _ => ?_) (fun h9 => absurd (show nI 10 ≤ nI i from nI_le hge (Nat.lt_of_le_of_lt hi (by decide))) h9)
        refine lv_iconst (v := 0) hx hb dX7_copyWished_103 (by decide) ?_
        refine lv_istore_n (lv' := [(1, .int 0), (0, .ref k0)]) hx hb dX7_copyWished_104 rfl hl (Nat.le_of_ble_eq_true rfl) rfl (fun ls hl => ?_)
        have lp105 : ∀ (n i : Nat), i ≤ 30 → 30 - i < n → ∀  (ls : Array Slot) (H : Heap) (locs : List Loc), lv_has ls 2 [(1, .int (nI i)), (0, .ref k0)] → va_P (dC, dI) vwCl [(k0, .inr (10, [.ref kN, .ref kA, .ref kO, .ref kK, .ref kV, .ref kG, .ref kP, .ref kC, .ref kD, .ref kE, .ref kF, .ref kX, .ref kY, .int 0, .ref kT, .ref kU, .int 0, .int 0, .int 0])), (kN, .inl (cI, 2, .inl (fun _ => 0))), (kA, .inl (cI, 2, .inl (fun _ => 0))), (kO, .inl (cC, 20, .inl (fun _ => 0))), (kK, .inl (cC, 20, .inl (fun _ => 0))), (kV, .inl (cI, 20, .inl (fun _ => 0))), (kG, .inl (cZ, 20, .inl (fun _ => 0))), (kP, .inl (cI, 60, .inl (fun _ => 0)))] H → va_D A [(k0, .inr (10, [.ref kN, .ref kA, .ref kO, .ref kK, .ref kV, .ref kG, .ref kP, .ref kC, .ref kD, .ref kE, .ref kF, .ref kX, .ref kY, .int 0, .ref kT, .ref kU, .int 0, .int 0, .int 0])), (kN, .inl (cI, 2, .inl (fun _ => 0))), (kA, .inl (cI, 2, .inl (fun _ => 0))), (kO, .inl (cC, 20, .inl (fun _ => 0))), (kK, .inl (cC, 20, .inl (fun _ => 0))), (kV, .inl (cI, 20, .inl (fun _ => 0))), (kG, .inl (cZ, 20, .inl (fun _ => 0))), (kP, .inl (cI, 60, .inl (fun _ => 0)))] → va_S A s.heap H locs → W p l e ({ frames := 1, cells := 0, slots := 0, locals := 23 } : Room) s m args below meth c H locs 0 0 Q (F0 m 105 ls []) := by
          intro n
          induction n with
          | zero => intro i _ h9; exact absurd h9 (Nat.not_lt_zero _)
          | succ n ih =>
            intro i hi hn  ls H locs hl hP hD hS
            rcases Nat.lt_or_ge i 30 with hlt | hge
            · skip
              refine lv_iload_n hx hb dX7_copyWished_105 rfl (lv_at hl 0 rfl) ?_
              refine lv_bipush (v := 30) hx hb dX7_copyWished_106 (by decide) ?_
              refine lv_icmp_ge (tgt := 132) hx hb dX7_copyWished_108 (by decide) (fun h9 => absurd h9 (show ¬ nI 30 ≤ nI i from nI_ge hlt (by decide))) (fun _ => ?_)
              refine lv_aload_n hx hb dX7_copyWished_111 rfl (lv_at hl 1 rfl) ?_
              refine va_get (D := (dC, dI)) (ci := 10) (v := .ref kP) (C := RX7) (T := TX7) (N := 19) hx hb hts (fun w h => List.mem_cons_of_mem _ (List.mem_append_left _ (List.mem_append_right _ (h)))) hown hK hP 0 rfl rfl 6 (by decide) (hts (.fieldLink RX7 30 "NetcompareModel" "pins" "[I") (List.mem_cons_of_mem _ (List.mem_append_left _ (List.mem_append_left _ (List.mem_of_getElem? (i := 7) rfl))))) (fun _ h9 => h9) rfl dX7_copyWished_112 ?_
              refine lv_bipush (v := 30) hx hb dX7_copyWished_115 (by decide) ?_
              refine lv_iload_n hx hb dX7_copyWished_117 rfl (lv_at hl 0 rfl) ?_
              refine lv_iadd hx hb dX7_copyWished_118 ?_
              refine lv_topi (fun y5 ey5 => ?_)
              obtain rfl : y5 = nI (30 + i) := ey5.trans (nI_add 30 i)
              refine lv_aload_n hx hb dX7_copyWished_119 rfl (lv_at hl 1 rfl) ?_
              refine va_get (D := (dC, dI)) (ci := 10) (v := .ref kP) (C := RX7) (T := TX7) (N := 19) hx hb hts (fun w h => List.mem_cons_of_mem _ (List.mem_append_left _ (List.mem_append_right _ (h)))) hown hK hP 0 rfl rfl 6 (by decide) (hts (.fieldLink RX7 30 "NetcompareModel" "pins" "[I") (List.mem_cons_of_mem _ (List.mem_append_left _ (List.mem_append_left _ (List.mem_of_getElem? (i := 7) rfl))))) (fun _ h9 => h9) rfl dX7_copyWished_120 ?_
              refine lv_iload_n hx hb dX7_copyWished_123 rfl (lv_at hl 0 rfl) ?_
              refine va_iald hx hb hK hP 7 0 rfl rfl (vp_in_nI (Nat.lt_of_lt_of_le hlt (by decide)) (by decide)) dX7_copyWished_124 ?_
              refine W.eq (g2 := F0 m 125 ls [.int 0, .int (nI (30 + i)), .ref kP]) rfl ?_
              refine va_iast hx hb hK hP hD hS 7 0 rfl rfl (vp_in_nI (show (30 + i) < 60 by omega) (by decide)) dX7_copyWished_125 (fun H locs hP hD hS => ?_)
              rw [nI_clamp (show (30 + i) < 2 ^ 31 by omega)] at hP hD
              have hP : va_P (dC, dI) vwCl [(k0, .inr (10, [.ref kN, .ref kA, .ref kO, .ref kK, .ref kV, .ref kG, .ref kP, .ref kC, .ref kD, .ref kE, .ref kF, .ref kX, .ref kY, .int 0, .ref kT, .ref kU, .int 0, .int 0, .int 0])), (kN, .inl (cI, 2, .inl (fun _ => 0))), (kA, .inl (cI, 2, .inl (fun _ => 0))), (kO, .inl (cC, 20, .inl (fun _ => 0))), (kK, .inl (cC, 20, .inl (fun _ => 0))), (kV, .inl (cI, 20, .inl (fun _ => 0))), (kG, .inl (cZ, 20, .inl (fun _ => 0))), (kP, .inl (cI, 60, .inl (upd (fun _ => 0) (30 + i) 0)))] _ := hP
              have hD : va_D A [(k0, .inr (10, [.ref kN, .ref kA, .ref kO, .ref kK, .ref kV, .ref kG, .ref kP, .ref kC, .ref kD, .ref kE, .ref kF, .ref kX, .ref kY, .int 0, .ref kT, .ref kU, .int 0, .int 0, .int 0])), (kN, .inl (cI, 2, .inl (fun _ => 0))), (kA, .inl (cI, 2, .inl (fun _ => 0))), (kO, .inl (cC, 20, .inl (fun _ => 0))), (kK, .inl (cC, 20, .inl (fun _ => 0))), (kV, .inl (cI, 20, .inl (fun _ => 0))), (kG, .inl (cZ, 20, .inl (fun _ => 0))), (kP, .inl (cI, 60, .inl (upd (fun _ => 0) (30 + i) 0)))] := hD
              rw [fU_c] at hP hD
              have hP : va_P (dC, dI) vwCl [(k0, .inr (10, [.ref kN, .ref kA, .ref kO, .ref kK, .ref kV, .ref kG, .ref kP, .ref kC, .ref kD, .ref kE, .ref kF, .ref kX, .ref kY, .int 0, .ref kT, .ref kU, .int 0, .int 0, .int 0])), (kN, .inl (cI, 2, .inl (fun _ => 0))), (kA, .inl (cI, 2, .inl (fun _ => 0))), (kO, .inl (cC, 20, .inl (fun _ => 0))), (kK, .inl (cC, 20, .inl (fun _ => 0))), (kV, .inl (cI, 20, .inl (fun _ => 0))), (kG, .inl (cZ, 20, .inl (fun _ => 0))), (kP, .inl (cI, 60, .inl (fun _ => 0)))] _ := hP
              have hD : va_D A [(k0, .inr (10, [.ref kN, .ref kA, .ref kO, .ref kK, .ref kV, .ref kG, .ref kP, .ref kC, .ref kD, .ref kE, .ref kF, .ref kX, .ref kY, .int 0, .ref kT, .ref kU, .int 0, .int 0, .int 0])), (kN, .inl (cI, 2, .inl (fun _ => 0))), (kA, .inl (cI, 2, .inl (fun _ => 0))), (kO, .inl (cC, 20, .inl (fun _ => 0))), (kK, .inl (cC, 20, .inl (fun _ => 0))), (kV, .inl (cI, 20, .inl (fun _ => 0))), (kG, .inl (cZ, 20, .inl (fun _ => 0))), (kP, .inl (cI, 60, .inl (fun _ => 0)))] := hD
              refine lv_iinc (v := (nI (i + 1))) (lv' := [(1, .int (nI (i + 1))), (0, .ref k0)]) hx hb dX7_copyWished_126 hl (k := 0) rfl (nI_1 _) (Nat.le_of_ble_eq_true rfl) rfl (fun ls hl => ?_)
              refine lv_goto (tgt := 105) hx hb dX7_copyWished_129 (by decide) ?_
              exact ih (i + 1) hlt (by omega) _ _ _ (lv_sub hl [0, 1] rfl) (hP.sub [0, 1, 2, 3, 4, 5, 6, 7] rfl) (hD.sub [0, 1, 2, 3, 4, 5, 6, 7] (by decide) rfl) hS
            · skip
              refine lv_iload_n hx hb dX7_copyWished_105 rfl (lv_at hl 0 rfl) ?_
              refine lv_bipush (v := 30) hx hb dX7_copyWished_106 (by decide) ?_
              refine lv_icmp_ge (tgt := 132) hx hb dX7_copyWished_108 (by decide) (fun _ => ?_) (fun h9 => absurd (show nI 30 ≤ nI i from nI_le hge (Nat.lt_of_le_of_lt hi (by decide))) h9)
              refine lv_aload_n hx hb dX7_copyWished_132 rfl (lv_at hl 1 rfl) ?_
              refine lv_iconst (v := 1) hx hb dX7_copyWished_133 (by decide) ?_
              have hPc := hP.sub (ws' := [(k0, .inr (10, [.ref kN, .ref kA, .ref kO, .ref kK, .ref kV, .ref kG, .ref kP, .ref kC, .ref kD, .ref kE, .ref kF, .ref kX, .ref kY, .int 0, .ref kT, .ref kU, .int 0, .int 0, .int 0])), (kA, .inl (cI, 2, .inl (fun _ => 0)))]) [0, 2] rfl
              have hDc := hD.sub (ws' := [(k0, .inr (10, [.ref kN, .ref kA, .ref kO, .ref kK, .ref kV, .ref kG, .ref kP, .ref kC, .ref kD, .ref kE, .ref kF, .ref kX, .ref kY, .int 0, .ref kT, .ref kU, .int 0, .int 0, .int 0])), (kA, .inl (cI, 2, .inl (fun _ => 0)))]) [0, 2] (by decide) rfl
              have hKc := hK.sub (tys' := [(cI, .int)]) [0] rfl
              have hFc := va_free (wc := [(k0, .inr (10, [.ref kN, .ref kA, .ref kO, .ref kK, .ref kV, .ref kG, .ref kP, .ref kC, .ref kD, .ref kE, .ref kF, .ref kX, .ref kY, .int 0, .ref kT, .ref kU, .int 0, .int 0, .int 0])), (kA, .inl (cI, 2, .inl (fun _ => 0)))]) hD hS hA [0, 2] rfl
              refine va_calli (va_runV (As := [.int 1]) (rest := []) ⟨hx, hb, hml, hown, hts⟩ (kX7_partMany1 l dC dI k0 kN kA kO kK kV kG kP kC kD kE kF kX kY kT kU cI H.size) (cwV 1 hts gX7_copyWished_X7_partMany rfl rfl rfl (by decide +kernel) ⟨Nat.le_of_ble_eq_true rfl, Nat.le_of_ble_eq_true rfl⟩) (fPreV hN hZ hS (fun q h => hFc q h) hPc hKc hDc (ci := 10) (q0 := 0) rfl rfl) rfl rfl hl.1 rfl (lv_room (Nat.le_of_ble_eq_true rfl)) dX7_copyWished_134 ⟨Nat.le_of_ble_eq_true rfl, Nat.le_of_ble_eq_true rfl⟩) hS (fun q _ h => hFc q h) hFc (fun r u t H1 locs ht hvm hw hB hz1 hk1 hS => ?_)
              obtain ⟨hP1, hK1, hD1⟩ := hB
              rw [ht] at hP1
              have hK1 := va_K.moved hvm.symm hK1
              obtain ⟨hP, hD⟩ := va_join (wr := [(kN, .inl (cI, 2, .inl (fun _ => 0))), (kO, .inl (cC, 20, .inl (fun _ => 0))), (kK, .inl (cC, 20, .inl (fun _ => 0))), (kV, .inl (cI, 20, .inl (fun _ => 0))), (kG, .inl (cZ, 20, .inl (fun _ => 0))), (kP, .inl (cI, 60, .inl (fun _ => 0)))]) (w1 := [(k0, .inr (10, [.ref kN, .ref kA, .ref kO, .ref kK, .ref kV, .ref kG, .ref kP, .ref kC, .ref kD, .ref kE, .ref kF, .ref kX, .ref kY, .int 0, .ref kT, .ref kU, .int 0, .int 0, .int 0])), (kA, .inl (cI, 2, .inl (fun _ => 0)))]) hP hD [0, 2] [1, 3, 4, 5, 6, 7] rfl rfl (by decide) (by decide) hk1 hFc hP1 hD1
              generalize H1 = H at hP hS ⊢
              have hP : va_P (dC, dI) vwCl [(kN, .inl (cI, 2, .inl (fun _ => 0))), (kO, .inl (cC, 20, .inl (fun _ => 0))), (kK, .inl (cC, 20, .inl (fun _ => 0))), (kV, .inl (cI, 20, .inl (fun _ => 0))), (kG, .inl (cZ, 20, .inl (fun _ => 0))), (kP, .inl (cI, 60, .inl (fun _ => 0))), (k0, .inr (10, [.ref kN, .ref kA, .ref kO, .ref kK, .ref kV, .ref kG, .ref kP, .ref kC, .ref kD, .ref kE, .ref kF, .ref kX, .ref kY, .int 0, .ref kT, .ref kU, .int 0, .int 0, .int 0])), (kA, .inl (cI, 2, .inl (fun _ => 0)))] _ := hP
              have hD : va_D A [(kN, .inl (cI, 2, .inl (fun _ => 0))), (kO, .inl (cC, 20, .inl (fun _ => 0))), (kK, .inl (cC, 20, .inl (fun _ => 0))), (kV, .inl (cI, 20, .inl (fun _ => 0))), (kG, .inl (cZ, 20, .inl (fun _ => 0))), (kP, .inl (cI, 60, .inl (fun _ => 0))), (k0, .inr (10, [.ref kN, .ref kA, .ref kO, .ref kK, .ref kV, .ref kG, .ref kP, .ref kC, .ref kD, .ref kE, .ref kF, .ref kX, .ref kY, .int 0, .ref kT, .ref kU, .int 0, .int 0, .int 0])), (kA, .inl (cI, 2, .inl (fun _ => 0)))] := hD
              subst hw
              exact ret _ 0 _ _ _ _ _ _ (⟨rfl, rfl⟩) (hP.sub [6] rfl) (hK.sub [] rfl) (hD.sub [6] (by decide) rfl) hS (Nat.le_of_ble_eq_true rfl) (Nat.le_of_ble_eq_true rfl) dX7_copyWished_137
        exact lp105 (30 + 1) 0 (Nat.le_of_ble_eq_true rfl) (by decide) _ _ _ (lv_sub hl [0, 1] rfl) (hP.sub [0, 1, 2, 3, 4, 5, 6, 7] rfl) (hD.sub [0, 1, 2, 3, 4, 5, 6, 7] (by decide) rfl) hS
  exact lp31 (10 + 1) 0 (Nat.le_of_ble_eq_true rfl) (by decide) _ _ _ (lv_sub hl [0, 1] rfl) (hP.sub [0, 1, 2, 3, 4, 5, 6, 7] rfl) (hD.sub [0, 1, 2, 3, 4, 5, 6, 7] (by decide) rfl) hS

set_option maxHeartbeats 4000000 in
set_option maxRecDepth 100000 in
/-- the model: joinAll on a fresh one -/
theorem kX7_joinAll (l : Launch) (dC : Nat → ClassId) (dI : Nat → Nat → Nat) (k0 kN kA kO kK kV kG kP kC kD kE kF kX kY kT kU : Nat) (cI : ClassId) (p0 : Int32) (sz : Nat) : fMi l yX7_joinAll wsX7_joinAll ({ frames := 1, cells := 0, slots := 0, locals := 23 } : Room) dC dI [.ref k0, .int p0] [(k0, .inr (10, [.ref kN, .ref kA, .ref kO, .ref kK, .ref kV, .ref kG, .ref kP, .ref kC, .ref kD, .ref kE, .ref kF, .ref kX, .ref kY, .int 0, .ref kT, .ref kU, .int 0, .int 0, .int 0])), (kN, .inl (cI, 2, .inl (fun _ => 0))), (kA, .inl (cI, 2, .inl (fun _ => 0)))] [(cI, .int)] sz (fun (r : Int32) (u : Int32) => u = 0 ∧ r = 0 ∧ ((p0 = 0) ∨ (p0 = 1)) ∨ u = 1 ∧ (¬ ((p0 = 0) ∨ (p0 = 1)))) (fun u => [(k0, .inr (10, [.ref kN, .ref kA, .ref kO, .ref kK, .ref kV, .ref kG, .ref kP, .ref kC, .ref kD, .ref kE, .ref kF, .ref kX, .ref kY, .int 0, .ref kT, .ref kU, .int u, .int 0, .int 0]))]) (fun u => []) := by
  refine oP_i (y := yX7_joinAll) (cc := cX7_joinAll) (maxL := 4) (by decide) rfl (Nat.le_of_ble_eq_true rfl) ?_
  intro p e s m args below meth c ls A Q hx hb hr hml hown hts hN hZ hA hin hlk hP hK hD hl ret
  have hS : va_S A s.heap s.heap [] := va_S.rf
  have hl : lv_has ls 4 [(0, .ref k0), (1, .int p0)] := hl
  have hP : va_P (dC, dI) vwCl [(k0, .inr (10, [.ref kN, .ref kA, .ref kO, .ref kK, .ref kV, .ref kG, .ref kP, .ref kC, .ref kD, .ref kE, .ref kF, .ref kX, .ref kY, .int 0, .ref kT, .ref kU, .int 0, .int 0, .int 0])), (kN, .inl (cI, 2, .inl (fun _ => 0))), (kA, .inl (cI, 2, .inl (fun _ => 0)))] _ := hP
  have hD : va_D A [(k0, .inr (10, [.ref kN, .ref kA, .ref kO, .ref kK, .ref kV, .ref kG, .ref kP, .ref kC, .ref kD, .ref kE, .ref kF, .ref kX, .ref kY, .int 0, .ref kT, .ref kU, .int 0, .int 0, .int 0])), (kN, .inl (cI, 2, .inl (fun _ => 0))), (kA, .inl (cI, 2, .inl (fun _ => 0)))] := hD
  refine lv_aload_n hx hb dX7_joinAll_0 rfl (lv_at hl 0 rfl) ?_
  refine lv_iload_n hx hb dX7_joinAll_1 rfl (lv_at hl 1 rfl) ?_
  have hPc := hP.sub (ws' := []) [] rfl
  have hDc := hD.sub (ws' := []) [] (by decide) rfl
  have hKc := hK.sub (tys' := []) [] rfl
  have hFc := va_free (wc := []) hD hS hA [] rfl
  refine va_calli (va_runS (As := [.int p0]) (rest := [.ref k0]) ⟨hx, hb, hml, hown, hts⟩ (kX7_isCircuit l dC dI p0 s.heap.size) (va_cwS 1 hts gX7_joinAll_X7_isCircuit rfl rfl rfl (by decide +kernel) ⟨Nat.le_of_ble_eq_true rfl, Nat.le_of_ble_eq_true rfl⟩) (fPreS hN hZ hS (fun q h => hFc q h) hPc hKc hDc) rfl rfl hl.1 rfl (lv_room (Nat.le_of_ble_eq_true rfl)) dX7_joinAll_2 ⟨Nat.le_of_ble_eq_true rfl, Nat.le_of_ble_eq_true rfl⟩) hS (fun q _ h => hFc q h) hFc (fun r u t H1 locs ht hvm hw hB hz1 hk1 hS => ?_)
  obtain ⟨hP1, hK1, hD1⟩ := hB
  rw [ht] at hP1
  have hK1 := va_K.moved hvm.symm hK1
  obtain ⟨hP, hD⟩ := va_join (wr := [(k0, .inr (10, [.ref kN, .ref kA, .ref kO, .ref kK, .ref kV, .ref kG, .ref kP, .ref kC, .ref kD, .ref kE, .ref kF, .ref kX, .ref kY, .int 0, .ref kT, .ref kU, .int 0, .int 0, .int 0])), (kN, .inl (cI, 2, .inl (fun _ => 0))), (kA, .inl (cI, 2, .inl (fun _ => 0)))]) (w1 := []) hP hD [] [0, 1, 2] rfl rfl (by decide) (by decide) hk1 hFc hP1 hD1
  generalize H1 = H at hP hS ⊢
  have hP : va_P (dC, dI) vwCl [(k0, .inr (10, [.ref kN, .ref kA, .ref kO, .ref kK, .ref kV, .ref kG, .ref kP, .ref kC, .ref kD, .ref kE, .ref kF, .ref kX, .ref kY, .int 0, .ref kT, .ref kU, .int 0, .int 0, .int 0])), (kN, .inl (cI, 2, .inl (fun _ => 0))), (kA, .inl (cI, 2, .inl (fun _ => 0)))] _ := hP
  have hD : va_D A [(k0, .inr (10, [.ref kN, .ref kA, .ref kO, .ref kK, .ref kV, .ref kG, .ref kP, .ref kC, .ref kD, .ref kE, .ref kF, .ref kX, .ref kY, .int 0, .ref kT, .ref kU, .int 0, .int 0, .int 0])), (kN, .inl (cI, 2, .inl (fun _ => 0))), (kA, .inl (cI, 2, .inl (fun _ => 0)))] := hD
  rcases hw with ⟨rfl, hc | hc⟩ | ⟨rfl, hc⟩
  · skip
    subst hc
    have hP : va_P (dC, dI) vwCl [(k0, .inr (10, [.ref kN, .ref kA, .ref kO, .ref kK, .ref kV, .ref kG, .ref kP, .ref kC, .ref kD, .ref kE, .ref kF, .ref kX, .ref kY, .int 0, .ref kT, .ref kU, .int 0, .int 0, .int 0])), (kN, .inl (cI, 2, .inl (fun _ => 0))), (kA, .inl (cI, 2, .inl (fun _ => 0)))] _ := hP
    have hD : va_D A [(k0, .inr (10, [.ref kN, .ref kA, .ref kO, .ref kK, .ref kV, .ref kG, .ref kP, .ref kC, .ref kD, .ref kE, .ref kF, .ref kX, .ref kY, .int 0, .ref kT, .ref kU, .int 0, .int 0, .int 0])), (kN, .inl (cI, 2, .inl (fun _ => 0))), (kA, .inl (cI, 2, .inl (fun _ => 0)))] := hD
    refine lv_if_eq (tgt := 12) hx hb dX7_joinAll_5 (by decide) (fun h9 => absurd h9 (by decide)) (fun _ => ?_)
    refine lv_iconst (v := 0) hx hb dX7_joinAll_8 (by decide) ?_
    refine lv_goto (tgt := 13) hx hb dX7_joinAll_9 (by decide) ?_
    refine va_put (D := (dC, dI)) (ci := 10) (v := .int 0) (ty := .int) (C := RX7) (T := TX7) (N := 19) hx hb hts (fun w h => List.mem_cons_of_mem _ (List.mem_append_left _ (List.mem_append_left _ (List.mem_append_right _ (h))))) tyX7 tyX7_ok nmX7 hown hK hP hD hS 0 rfl rfl 16 (by decide) (hts (.fieldLink RX7 57 "NetcompareModel" "thrown" "I") (List.mem_cons_of_mem _ (List.mem_append_left _ (List.mem_append_left _ (List.mem_append_left _ (List.mem_append_left _ (List.mem_of_getElem? (i := 0) rfl))))))) (fun _ h9 => h9) rfl (by decide +kernel) rfl rfl (Nat.le_of_ble_eq_true rfl) dX7_joinAll_13 (fun H locs hP hD hS => ?_)
    have hP : va_P (dC, dI) vwCl [(k0, .inr (10, [.ref kN, .ref kA, .ref kO, .ref kK, .ref kV, .ref kG, .ref kP, .ref kC, .ref kD, .ref kE, .ref kF, .ref kX, .ref kY, .int 0, .ref kT, .ref kU, .int 0, .int 0, .int 0])), (kN, .inl (cI, 2, .inl (fun _ => 0))), (kA, .inl (cI, 2, .inl (fun _ => 0)))] _ := hP
    have hD : va_D A [(k0, .inr (10, [.ref kN, .ref kA, .ref kO, .ref kK, .ref kV, .ref kG, .ref kP, .ref kC, .ref kD, .ref kE, .ref kF, .ref kX, .ref kY, .int 0, .ref kT, .ref kU, .int 0, .int 0, .int 0])), (kN, .inl (cI, 2, .inl (fun _ => 0))), (kA, .inl (cI, 2, .inl (fun _ => 0)))] := hD
    refine lv_aload_n hx hb dX7_joinAll_16 rfl (lv_at hl 0 rfl) ?_
    refine va_get (D := (dC, dI)) (ci := 10) (v := .int 0) (C := RX7) (T := TX7) (N := 19) hx hb hts (fun w h => List.mem_cons_of_mem _ (List.mem_append_left _ (List.mem_append_left _ (List.mem_append_right _ (h))))) hown hK hP 0 rfl rfl 16 (by decide) (hts (.fieldLink RX7 57 "NetcompareModel" "thrown" "I") (List.mem_cons_of_mem _ (List.mem_append_left _ (List.mem_append_left _ (List.mem_append_left _ (List.mem_append_left _ (List.mem_of_getElem? (i := 0) rfl))))))) (fun _ h9 => h9) rfl dX7_joinAll_17 ?_
    refine lv_if_ne (tgt := 27) hx hb dX7_joinAll_20 (by decide) (fun h9 => absurd (by decide) h9) (fun _ => ?_)
    refine lv_iconst (v := 0) hx hb dX7_joinAll_23 (by decide) ?_
    refine lv_goto (tgt := 28) hx hb dX7_joinAll_24 (by decide) ?_
    refine lv_istore_n (lv' := [(2, .int 0), (0, .ref k0), (1, .int 0)]) hx hb dX7_joinAll_28 rfl hl (Nat.le_of_ble_eq_true rfl) rfl (fun ls hl => ?_)
    refine lv_aload_n hx hb dX7_joinAll_29 rfl (lv_at hl 1 rfl) ?_
    refine va_get (D := (dC, dI)) (ci := 10) (v := .int 0) (C := RX7) (T := TX7) (N := 19) hx hb hts (fun w h => List.mem_cons_of_mem _ (List.mem_append_left _ (List.mem_append_left _ (List.mem_append_right _ (h))))) hown hK hP 0 rfl rfl 16 (by decide) (hts (.fieldLink RX7 57 "NetcompareModel" "thrown" "I") (List.mem_cons_of_mem _ (List.mem_append_left _ (List.mem_append_left _ (List.mem_append_left _ (List.mem_append_left _ (List.mem_of_getElem? (i := 0) rfl))))))) (fun _ h9 => h9) rfl dX7_joinAll_30 ?_
    refine lv_if_ne (tgt := 71) hx hb dX7_joinAll_33 (by decide) (fun h9 => absurd (by decide) h9) (fun _ => ?_)
    refine lv_aload_n hx hb dX7_joinAll_36 rfl (lv_at hl 1 rfl) ?_
    refine lv_iload_n hx hb dX7_joinAll_37 rfl (lv_at hl 2 rfl) ?_
    have hPc := hP.sub (ws' := [(k0, .inr (10, [.ref kN, .ref kA, .ref kO, .ref kK, .ref kV, .ref kG, .ref kP, .ref kC, .ref kD, .ref kE, .ref kF, .ref kX, .ref kY, .int 0, .ref kT, .ref kU, .int 0, .int 0, .int 0])), (kA, .inl (cI, 2, .inl (fun _ => 0)))]) [0, 2] rfl
    have hDc := hD.sub (ws' := [(k0, .inr (10, [.ref kN, .ref kA, .ref kO, .ref kK, .ref kV, .ref kG, .ref kP, .ref kC, .ref kD, .ref kE, .ref kF, .ref kX, .ref kY, .int 0, .ref kT, .ref kU, .int 0, .int 0, .int 0])), (kA, .inl (cI, 2, .inl (fun _ => 0)))]) [0, 2] (by decide) rfl
    have hKc := hK.sub (tys' := [(cI, .int)]) [0] rfl
    have hFc := va_free (wc := [(k0, .inr (10, [.ref kN, .ref kA, .ref kO, .ref kK, .ref kV, .ref kG, .ref kP, .ref kC, .ref kD, .ref kE, .ref kF, .ref kX, .ref kY, .int 0, .ref kT, .ref kU, .int 0, .int 0, .int 0])), (kA, .inl (cI, 2, .inl (fun _ => 0)))]) hD hS hA [0, 2] rfl
    refine va_calli (va_runV (As := [.int 0]) (rest := []) ⟨hx, hb, hml, hown, hts⟩ (kX7_firstPair0 l dC dI k0 kN kA kO kK kV kG kP kC kD kE kF kX kY kT kU cI H.size) (cwV 1 hts gX7_joinAll_X7_firstPair rfl rfl rfl (by decide +kernel) ⟨Nat.le_of_ble_eq_true rfl, Nat.le_of_ble_eq_true rfl⟩) (fPreV hN hZ hS (fun q h => hFc q h) hPc hKc hDc (ci := 10) (q0 := 0) rfl rfl) rfl rfl hl.1 rfl (lv_room (Nat.le_of_ble_eq_true rfl)) dX7_joinAll_38 ⟨Nat.le_of_ble_eq_true rfl, Nat.le_of_ble_eq_true rfl⟩) hS (fun q _ h => hFc q h) hFc (fun r u t H1 locs ht hvm hw hB hz1 hk1 hS => ?_)
    obtain ⟨hP1, hK1, hD1⟩ := hB
    rw [ht] at hP1
    have hK1 := va_K.moved hvm.symm hK1
    obtain ⟨hP, hD⟩ := va_join (wr := [(kN, .inl (cI, 2, .inl (fun _ => 0)))]) (w1 := [(k0, .inr (10, [.ref kN, .ref kA, .ref kO, .ref kK, .ref kV, .ref kG, .ref kP, .ref kC, .ref kD, .ref kE, .ref kF, .ref kX, .ref kY, .int 0, .ref kT, .ref kU, .int 0, .int 0, .int 0])), (kA, .inl (cI, 2, .inl (fun _ => 0)))]) hP hD [0, 2] [1] rfl rfl (by decide) (by decide) hk1 hFc hP1 hD1
    generalize H1 = H at hP hS ⊢
    have hP : va_P (dC, dI) vwCl [(kN, .inl (cI, 2, .inl (fun _ => 0))), (k0, .inr (10, [.ref kN, .ref kA, .ref kO, .ref kK, .ref kV, .ref kG, .ref kP, .ref kC, .ref kD, .ref kE, .ref kF, .ref kX, .ref kY, .int 0, .ref kT, .ref kU, .int 0, .int 0, .int 0])), (kA, .inl (cI, 2, .inl (fun _ => 0)))] _ := hP
    have hD : va_D A [(kN, .inl (cI, 2, .inl (fun _ => 0))), (k0, .inr (10, [.ref kN, .ref kA, .ref kO, .ref kK, .ref kV, .ref kG, .ref kP, .ref kC, .ref kD, .ref kE, .ref kF, .ref kX, .ref kY, .int 0, .ref kT, .ref kU, .int 0, .int 0, .int 0])), (kA, .inl (cI, 2, .inl (fun _ => 0)))] := hD
    subst hw
    refine lv_iconst (v := (-1)) hx hb dX7_joinAll_41 (by decide) ?_
    refine lv_icmp_eq (tgt := 71) hx hb dX7_joinAll_42 (by decide) (fun _ => ?_) (fun h9 => absurd (by decide) h9)
    refine lv_iload_n hx hb dX7_joinAll_71 rfl (lv_at hl 0 rfl) ?_
    exact ret _ 0 _ _ _ _ _ _ (Or.inl (⟨rfl, rfl, Or.inl (rfl)⟩)) (hP.sub [1] rfl) (hK.sub [] rfl) (hD.sub [1] (by decide) rfl) hS (Nat.le_of_ble_eq_true rfl) (Nat.le_of_ble_eq_true rfl) dX7_joinAll_72
  · skip
    subst hc
    have hP : va_P (dC, dI) vwCl [(k0, .inr (10, [.ref kN, .ref kA, .ref kO, .ref kK, .ref kV, .ref kG, .ref kP, .ref kC, .ref kD, .ref kE, .ref kF, .ref kX, .ref kY, .int 0, .ref kT, .ref kU, .int 0, .int 0, .int 0])), (kN, .inl (cI, 2, .inl (fun _ => 0))), (kA, .inl (cI, 2, .inl (fun _ => 0)))] _ := hP
    have hD : va_D A [(k0, .inr (10, [.ref kN, .ref kA, .ref kO, .ref kK, .ref kV, .ref kG, .ref kP, .ref kC, .ref kD, .ref kE, .ref kF, .ref kX, .ref kY, .int 0, .ref kT, .ref kU, .int 0, .int 0, .int 0])), (kN, .inl (cI, 2, .inl (fun _ => 0))), (kA, .inl (cI, 2, .inl (fun _ => 0)))] := hD
    refine lv_if_eq (tgt := 12) hx hb dX7_joinAll_5 (by decide) (fun h9 => absurd h9 (by decide)) (fun _ => ?_)
    refine lv_iconst (v := 0) hx hb dX7_joinAll_8 (by decide) ?_
    refine lv_goto (tgt := 13) hx hb dX7_joinAll_9 (by decide) ?_
    refine va_put (D := (dC, dI)) (ci := 10) (v := .int 0) (ty := .int) (C := RX7) (T := TX7) (N := 19) hx hb hts (fun w h => List.mem_cons_of_mem _ (List.mem_append_left _ (List.mem_append_left _ (List.mem_append_right _ (h))))) tyX7 tyX7_ok nmX7 hown hK hP hD hS 0 rfl rfl 16 (by decide) (hts (.fieldLink RX7 57 "NetcompareModel" "thrown" "I") (List.mem_cons_of_mem _ (List.mem_append_left _ (List.mem_append_left _ (List.mem_append_left _ (List.mem_append_left _ (List.mem_of_getElem? (i := 0) rfl))))))) (fun _ h9 => h9) rfl (by decide +kernel) rfl rfl (Nat.le_of_ble_eq_true rfl) dX7_joinAll_13 (fun H locs hP hD hS => ?_)
    have hP : va_P (dC, dI) vwCl [(k0, .inr (10, [.ref kN, .ref kA, .ref kO, .ref kK, .ref kV, .ref kG, .ref kP, .ref kC, .ref kD, .ref kE, .ref kF, .ref kX, .ref kY, .int 0, .ref kT, .ref kU, .int 0, .int 0, .int 0])), (kN, .inl (cI, 2, .inl (fun _ => 0))), (kA, .inl (cI, 2, .inl (fun _ => 0)))] _ := hP
    have hD : va_D A [(k0, .inr (10, [.ref kN, .ref kA, .ref kO, .ref kK, .ref kV, .ref kG, .ref kP, .ref kC, .ref kD, .ref kE, .ref kF, .ref kX, .ref kY, .int 0, .ref kT, .ref kU, .int 0, .int 0, .int 0])), (kN, .inl (cI, 2, .inl (fun _ => 0))), (kA, .inl (cI, 2, .inl (fun _ => 0)))] := hD
    refine lv_aload_n hx hb dX7_joinAll_16 rfl (lv_at hl 0 rfl) ?_
    refine va_get (D := (dC, dI)) (ci := 10) (v := .int 0) (C := RX7) (T := TX7) (N := 19) hx hb hts (fun w h => List.mem_cons_of_mem _ (List.mem_append_left _ (List.mem_append_left _ (List.mem_append_right _ (h))))) hown hK hP 0 rfl rfl 16 (by decide) (hts (.fieldLink RX7 57 "NetcompareModel" "thrown" "I") (List.mem_cons_of_mem _ (List.mem_append_left _ (List.mem_append_left _ (List.mem_append_left _ (List.mem_append_left _ (List.mem_of_getElem? (i := 0) rfl))))))) (fun _ h9 => h9) rfl dX7_joinAll_17 ?_
    refine lv_if_ne (tgt := 27) hx hb dX7_joinAll_20 (by decide) (fun h9 => absurd (by decide) h9) (fun _ => ?_)
    refine lv_iconst (v := 0) hx hb dX7_joinAll_23 (by decide) ?_
    refine lv_goto (tgt := 28) hx hb dX7_joinAll_24 (by decide) ?_
    refine lv_istore_n (lv' := [(2, .int 0), (0, .ref k0), (1, .int 1)]) hx hb dX7_joinAll_28 rfl hl (Nat.le_of_ble_eq_true rfl) rfl (fun ls hl => ?_)
    refine lv_aload_n hx hb dX7_joinAll_29 rfl (lv_at hl 1 rfl) ?_
    refine va_get (D := (dC, dI)) (ci := 10) (v := .int 0) (C := RX7) (T := TX7) (N := 19) hx hb hts (fun w h => List.mem_cons_of_mem _ (List.mem_append_left _ (List.mem_append_left _ (List.mem_append_right _ (h))))) hown hK hP 0 rfl rfl 16 (by decide) (hts (.fieldLink RX7 57 "NetcompareModel" "thrown" "I") (List.mem_cons_of_mem _ (List.mem_append_left _ (List.mem_append_left _ (List.mem_append_left _ (List.mem_append_left _ (List.mem_of_getElem? (i := 0) rfl))))))) (fun _ h9 => h9) rfl dX7_joinAll_30 ?_
    refine lv_if_ne (tgt := 71) hx hb dX7_joinAll_33 (by decide) (fun h9 => absurd (by decide) h9) (fun _ => ?_)
    refine lv_aload_n hx hb dX7_joinAll_36 rfl (lv_at hl 1 rfl) ?_
    refine lv_iload_n hx hb dX7_joinAll_37 rfl (lv_at hl 2 rfl) ?_
    have hPc := hP.sub (ws' := [(k0, .inr (10, [.ref kN, .ref kA, .ref kO, .ref kK, .ref kV, .ref kG, .ref kP, .ref kC, .ref kD, .ref kE, .ref kF, .ref kX, .ref kY, .int 0, .ref kT, .ref kU, .int 0, .int 0, .int 0])), (kA, .inl (cI, 2, .inl (fun _ => 0)))]) [0, 2] rfl
    have hDc := hD.sub (ws' := [(k0, .inr (10, [.ref kN, .ref kA, .ref kO, .ref kK, .ref kV, .ref kG, .ref kP, .ref kC, .ref kD, .ref kE, .ref kF, .ref kX, .ref kY, .int 0, .ref kT, .ref kU, .int 0, .int 0, .int 0])), (kA, .inl (cI, 2, .inl (fun _ => 0)))]) [0, 2] (by decide) rfl
    have hKc := hK.sub (tys' := [(cI, .int)]) [0] rfl
    have hFc := va_free (wc := [(k0, .inr (10, [.ref kN, .ref kA, .ref kO, .ref kK, .ref kV, .ref kG, .ref kP, .ref kC, .ref kD, .ref kE, .ref kF, .ref kX, .ref kY, .int 0, .ref kT, .ref kU, .int 0, .int 0, .int 0])), (kA, .inl (cI, 2, .inl (fun _ => 0)))]) hD hS hA [0, 2] rfl
    refine va_calli (va_runV (As := [.int 1]) (rest := []) ⟨hx, hb, hml, hown, hts⟩ (kX7_firstPair1 l dC dI k0 kN kA kO kK kV kG kP kC kD kE kF kX kY kT kU cI H.size) (cwV 1 hts gX7_joinAll_X7_firstPair rfl rfl rfl (by decide +kernel) ⟨Nat.le_of_ble_eq_true rfl, Nat.le_of_ble_eq_true rfl⟩) (fPreV hN hZ hS (fun q h => hFc q h) hPc hKc hDc (ci := 10) (q0 := 0) rfl rfl) rfl rfl hl.1 rfl (lv_room (Nat.le_of_ble_eq_true rfl)) dX7_joinAll_38 ⟨Nat.le_of_ble_eq_true rfl, Nat.le_of_ble_eq_true rfl⟩) hS (fun q _ h => hFc q h) hFc (fun r u t H1 locs ht hvm hw hB hz1 hk1 hS => ?_)
    obtain ⟨hP1, hK1, hD1⟩ := hB
    rw [ht] at hP1
    have hK1 := va_K.moved hvm.symm hK1
    obtain ⟨hP, hD⟩ := va_join (wr := [(kN, .inl (cI, 2, .inl (fun _ => 0)))]) (w1 := [(k0, .inr (10, [.ref kN, .ref kA, .ref kO, .ref kK, .ref kV, .ref kG, .ref kP, .ref kC, .ref kD, .ref kE, .ref kF, .ref kX, .ref kY, .int 0, .ref kT, .ref kU, .int 0, .int 0, .int 0])), (kA, .inl (cI, 2, .inl (fun _ => 0)))]) hP hD [0, 2] [1] rfl rfl (by decide) (by decide) hk1 hFc hP1 hD1
    generalize H1 = H at hP hS ⊢
    have hP : va_P (dC, dI) vwCl [(kN, .inl (cI, 2, .inl (fun _ => 0))), (k0, .inr (10, [.ref kN, .ref kA, .ref kO, .ref kK, .ref kV, .ref kG, .ref kP, .ref kC, .ref kD, .ref kE, .ref kF, .ref kX, .ref kY, .int 0, .ref kT, .ref kU, .int 0, .int 0, .int 0])), (kA, .inl (cI, 2, .inl (fun _ => 0)))] _ := hP
    have hD : va_D A [(kN, .inl (cI, 2, .inl (fun _ => 0))), (k0, .inr (10, [.ref kN, .ref kA, .ref kO, .ref kK, .ref kV, .ref kG, .ref kP, .ref kC, .ref kD, .ref kE, .ref kF, .ref kX, .ref kY, .int 0, .ref kT, .ref kU, .int 0, .int 0, .int 0])), (kA, .inl (cI, 2, .inl (fun _ => 0)))] := hD
    subst hw
    refine lv_iconst (v := (-1)) hx hb dX7_joinAll_41 (by decide) ?_
    refine lv_icmp_eq (tgt := 71) hx hb dX7_joinAll_42 (by decide) (fun _ => ?_) (fun h9 => absurd (by decide) h9)
    refine lv_iload_n hx hb dX7_joinAll_71 rfl (lv_at hl 0 rfl) ?_
    exact ret _ 0 _ _ _ _ _ _ (Or.inl (⟨rfl, rfl, Or.inr (rfl)⟩)) (hP.sub [1] rfl) (hK.sub [] rfl) (hD.sub [1] (by decide) rfl) hS (Nat.le_of_ble_eq_true rfl) (Nat.le_of_ble_eq_true rfl) dX7_joinAll_72
  · skip
    have hc1 := hc
    refine lv_if_eq (tgt := 12) hx hb dX7_joinAll_5 (by decide) (fun _ => ?_) (fun h9 => absurd (by decide) h9)
    refine lv_iconst (v := 1) hx hb dX7_joinAll_12 (by decide) ?_
    refine va_put (D := (dC, dI)) (ci := 10) (v := .int 1) (ty := .int) (C := RX7) (T := TX7) (N := 19) hx hb hts (fun w h => List.mem_cons_of_mem _ (List.mem_append_left _ (List.mem_append_left _ (List.mem_append_right _ (h))))) tyX7 tyX7_ok nmX7 hown hK hP hD hS 0 rfl rfl 16 (by decide) (hts (.fieldLink RX7 57 "NetcompareModel" "thrown" "I") (List.mem_cons_of_mem _ (List.mem_append_left _ (List.mem_append_left _ (List.mem_append_left _ (List.mem_append_left _ (List.mem_of_getElem? (i := 0) rfl))))))) (fun _ h9 => h9) rfl (by decide +kernel) rfl rfl (Nat.le_of_ble_eq_true rfl) dX7_joinAll_13 (fun H locs hP hD hS => ?_)
    have hP : va_P (dC, dI) vwCl [(k0, .inr (10, [.ref kN, .ref kA, .ref kO, .ref kK, .ref kV, .ref kG, .ref kP, .ref kC, .ref kD, .ref kE, .ref kF, .ref kX, .ref kY, .int 0, .ref kT, .ref kU, .int 1, .int 0, .int 0])), (kN, .inl (cI, 2, .inl (fun _ => 0))), (kA, .inl (cI, 2, .inl (fun _ => 0)))] _ := hP
    have hD : va_D A [(k0, .inr (10, [.ref kN, .ref kA, .ref kO, .ref kK, .ref kV, .ref kG, .ref kP, .ref kC, .ref kD, .ref kE, .ref kF, .ref kX, .ref kY, .int 0, .ref kT, .ref kU, .int 1, .int 0, .int 0])), (kN, .inl (cI, 2, .inl (fun _ => 0))), (kA, .inl (cI, 2, .inl (fun _ => 0)))] := hD
    refine lv_aload_n hx hb dX7_joinAll_16 rfl (lv_at hl 0 rfl) ?_
    refine va_get (D := (dC, dI)) (ci := 10) (v := .int 1) (C := RX7) (T := TX7) (N := 19) hx hb hts (fun w h => List.mem_cons_of_mem _ (List.mem_append_left _ (List.mem_append_left _ (List.mem_append_right _ (h))))) hown hK hP 0 rfl rfl 16 (by decide) (hts (.fieldLink RX7 57 "NetcompareModel" "thrown" "I") (List.mem_cons_of_mem _ (List.mem_append_left _ (List.mem_append_left _ (List.mem_append_left _ (List.mem_append_left _ (List.mem_of_getElem? (i := 0) rfl))))))) (fun _ h9 => h9) rfl dX7_joinAll_17 ?_
    refine lv_if_ne (tgt := 27) hx hb dX7_joinAll_20 (by decide) (fun _ => ?_) (fun h9 => absurd h9 (by decide))
    refine lv_iconst (v := (-1)) hx hb dX7_joinAll_27 (by decide) ?_
    refine lv_istore_n (lv' := [(2, .int (-1)), (0, .ref k0), (1, .int p0)]) hx hb dX7_joinAll_28 rfl hl (Nat.le_of_ble_eq_true rfl) rfl (fun ls hl => ?_)
    refine lv_aload_n hx hb dX7_joinAll_29 rfl (lv_at hl 1 rfl) ?_
    refine va_get (D := (dC, dI)) (ci := 10) (v := .int 1) (C := RX7) (T := TX7) (N := 19) hx hb hts (fun w h => List.mem_cons_of_mem _ (List.mem_append_left _ (List.mem_append_left _ (List.mem_append_right _ (h))))) hown hK hP 0 rfl rfl 16 (by decide) (hts (.fieldLink RX7 57 "NetcompareModel" "thrown" "I") (List.mem_cons_of_mem _ (List.mem_append_left _ (List.mem_append_left _ (List.mem_append_left _ (List.mem_append_left _ (List.mem_of_getElem? (i := 0) rfl))))))) (fun _ h9 => h9) rfl dX7_joinAll_30 ?_
    refine lv_if_ne (tgt := 71) hx hb dX7_joinAll_33 (by decide) (fun _ => ?_) (fun h9 => absurd h9 (by decide))
    refine lv_iload_n hx hb dX7_joinAll_71 rfl (lv_at hl 0 rfl) ?_
    exact ret _ 1 _ _ _ _ _ _ (Or.inr (⟨rfl, hc1⟩)) (hP.sub [0] rfl) (hK.sub [] rfl) (hD.sub [0] (by decide) rfl) hS (Nat.le_of_ble_eq_true rfl) (Nat.le_of_ble_eq_true rfl) dX7_joinAll_72

set_option maxHeartbeats 4000000 in
set_option maxRecDepth 100000 in
/-- the model: nets on a fresh one -/
theorem kX7_nets (l : Launch) (dC : Nat → ClassId) (dI : Nat → Nat → Nat) (k0 kN kA kO kK kV kG kP kC kD kE kF kX kY kT kU : Nat) (cI : ClassId) (p0 : Int32) (sz : Nat) : fMi l yX7_nets wsX7_nets ({ frames := 1, cells := 0, slots := 0, locals := 20 } : Room) dC dI [.ref k0, .int p0] [(k0, .inr (10, [.ref kN, .ref kA, .ref kO, .ref kK, .ref kV, .ref kG, .ref kP, .ref kC, .ref kD, .ref kE, .ref kF, .ref kX, .ref kY, .int 0, .ref kT, .ref kU, .int 0, .int 0, .int 0])), (kN, .inl (cI, 2, .inl (fun _ => 0))), (kA, .inl (cI, 2, .inl (fun _ => 0)))] [(cI, .int)] sz (fun (r : Int32) (u : Int32) => u = 0 ∧ r = 0 ∧ ((p0 = 0) ∨ (p0 = 1)) ∨ u = 1 ∧ (¬ ((p0 = 0) ∨ (p0 = 1)))) (fun u => [(k0, .inr (10, [.ref kN, .ref kA, .ref kO, .ref kK, .ref kV, .ref kG, .ref kP, .ref kC, .ref kD, .ref kE, .ref kF, .ref kX, .ref kY, .int 0, .ref kT, .ref kU, .int u, .int 0, .int 0]))]) (fun u => []) := by
  refine oP_i (y := yX7_nets) (cc := cX7_nets) (maxL := 2) (by decide) rfl (Nat.le_of_ble_eq_true rfl) ?_
  intro p e s m args below meth c ls A Q hx hb hr hml hown hts hN hZ hA hin hlk hP hK hD hl ret
  have hS : va_S A s.heap s.heap [] := va_S.rf
  have hl : lv_has ls 2 [(0, .ref k0), (1, .int p0)] := hl
  have hP : va_P (dC, dI) vwCl [(k0, .inr (10, [.ref kN, .ref kA, .ref kO, .ref kK, .ref kV, .ref kG, .ref kP, .ref kC, .ref kD, .ref kE, .ref kF, .ref kX, .ref kY, .int 0, .ref kT, .ref kU, .int 0, .int 0, .int 0])), (kN, .inl (cI, 2, .inl (fun _ => 0))), (kA, .inl (cI, 2, .inl (fun _ => 0)))] _ := hP
  have hD : va_D A [(k0, .inr (10, [.ref kN, .ref kA, .ref kO, .ref kK, .ref kV, .ref kG, .ref kP, .ref kC, .ref kD, .ref kE, .ref kF, .ref kX, .ref kY, .int 0, .ref kT, .ref kU, .int 0, .int 0, .int 0])), (kN, .inl (cI, 2, .inl (fun _ => 0))), (kA, .inl (cI, 2, .inl (fun _ => 0)))] := hD
  refine lv_aload_n hx hb dX7_nets_0 rfl (lv_at hl 0 rfl) ?_
  refine lv_iload_n hx hb dX7_nets_1 rfl (lv_at hl 1 rfl) ?_
  have hPc := hP.sub (ws' := []) [] rfl
  have hDc := hD.sub (ws' := []) [] (by decide) rfl
  have hKc := hK.sub (tys' := []) [] rfl
  have hFc := va_free (wc := []) hD hS hA [] rfl
  refine va_calli (va_runS (As := [.int p0]) (rest := [.ref k0]) ⟨hx, hb, hml, hown, hts⟩ (kX7_isCircuit l dC dI p0 s.heap.size) (va_cwS 1 hts gX7_nets_X7_isCircuit rfl rfl rfl (by decide +kernel) ⟨Nat.le_of_ble_eq_true rfl, Nat.le_of_ble_eq_true rfl⟩) (fPreS hN hZ hS (fun q h => hFc q h) hPc hKc hDc) rfl rfl hl.1 rfl (lv_room (Nat.le_of_ble_eq_true rfl)) dX7_nets_2 ⟨Nat.le_of_ble_eq_true rfl, Nat.le_of_ble_eq_true rfl⟩) hS (fun q _ h => hFc q h) hFc (fun r u t H1 locs ht hvm hw hB hz1 hk1 hS => ?_)
  obtain ⟨hP1, hK1, hD1⟩ := hB
  rw [ht] at hP1
  have hK1 := va_K.moved hvm.symm hK1
  obtain ⟨hP, hD⟩ := va_join (wr := [(k0, .inr (10, [.ref kN, .ref kA, .ref kO, .ref kK, .ref kV, .ref kG, .ref kP, .ref kC, .ref kD, .ref kE, .ref kF, .ref kX, .ref kY, .int 0, .ref kT, .ref kU, .int 0, .int 0, .int 0])), (kN, .inl (cI, 2, .inl (fun _ => 0))), (kA, .inl (cI, 2, .inl (fun _ => 0)))]) (w1 := []) hP hD [] [0, 1, 2] rfl rfl (by decide) (by decide) hk1 hFc hP1 hD1
  generalize H1 = H at hP hS ⊢
  have hP : va_P (dC, dI) vwCl [(k0, .inr (10, [.ref kN, .ref kA, .ref kO, .ref kK, .ref kV, .ref kG, .ref kP, .ref kC, .ref kD, .ref kE, .ref kF, .ref kX, .ref kY, .int 0, .ref kT, .ref kU, .int 0, .int 0, .int 0])), (kN, .inl (cI, 2, .inl (fun _ => 0))), (kA, .inl (cI, 2, .inl (fun _ => 0)))] _ := hP
  have hD : va_D A [(k0, .inr (10, [.ref kN, .ref kA, .ref kO, .ref kK, .ref kV, .ref kG, .ref kP, .ref kC, .ref kD, .ref kE, .ref kF, .ref kX, .ref kY, .int 0, .ref kT, .ref kU, .int 0, .int 0, .int 0])), (kN, .inl (cI, 2, .inl (fun _ => 0))), (kA, .inl (cI, 2, .inl (fun _ => 0)))] := hD
  rcases hw with ⟨rfl, hc | hc⟩ | ⟨rfl, hc⟩
  · skip
    subst hc
    have hP : va_P (dC, dI) vwCl [(k0, .inr (10, [.ref kN, .ref kA, .ref kO, .ref kK, .ref kV, .ref kG, .ref kP, .ref kC, .ref kD, .ref kE, .ref kF, .ref kX, .ref kY, .int 0, .ref kT, .ref kU, .int 0, .int 0, .int 0])), (kN, .inl (cI, 2, .inl (fun _ => 0))), (kA, .inl (cI, 2, .inl (fun _ => 0)))] _ := hP
    have hD : va_D A [(k0, .inr (10, [.ref kN, .ref kA, .ref kO, .ref kK, .ref kV, .ref kG, .ref kP, .ref kC, .ref kD, .ref kE, .ref kF, .ref kX, .ref kY, .int 0, .ref kT, .ref kU, .int 0, .int 0, .int 0])), (kN, .inl (cI, 2, .inl (fun _ => 0))), (kA, .inl (cI, 2, .inl (fun _ => 0)))] := hD
    refine lv_if_eq (tgt := 12) hx hb dX7_nets_5 (by decide) (fun h9 => absurd h9 (by decide)) (fun _ => ?_)
    refine lv_iconst (v := 0) hx hb dX7_nets_8 (by decide) ?_
    refine lv_goto (tgt := 13) hx hb dX7_nets_9 (by decide) ?_
    refine va_put (D := (dC, dI)) (ci := 10) (v := .int 0) (ty := .int) (C := RX7) (T := TX7) (N := 19) hx hb hts (fun w h => List.mem_cons_of_mem _ (List.mem_append_left _ (List.mem_append_right _ (h)))) tyX7 tyX7_ok nmX7 hown hK hP hD hS 0 rfl rfl 16 (by decide) (hts (.fieldLink RX7 57 "NetcompareModel" "thrown" "I") (List.mem_cons_of_mem _ (List.mem_append_left _ (List.mem_append_left _ (List.mem_of_getElem? (i := 0) rfl))))) (fun _ h9 => h9) rfl (by decide +kernel) rfl rfl (Nat.le_of_ble_eq_true rfl) dX7_nets_13 (fun H locs hP hD hS => ?_)
    have hP : va_P (dC, dI) vwCl [(k0, .inr (10, [.ref kN, .ref kA, .ref kO, .ref kK, .ref kV, .ref kG, .ref kP, .ref kC, .ref kD, .ref kE, .ref kF, .ref kX, .ref kY, .int 0, .ref kT, .ref kU, .int 0, .int 0, .int 0])), (kN, .inl (cI, 2, .inl (fun _ => 0))), (kA, .inl (cI, 2, .inl (fun _ => 0)))] _ := hP
    have hD : va_D A [(k0, .inr (10, [.ref kN, .ref kA, .ref kO, .ref kK, .ref kV, .ref kG, .ref kP, .ref kC, .ref kD, .ref kE, .ref kF, .ref kX, .ref kY, .int 0, .ref kT, .ref kU, .int 0, .int 0, .int 0])), (kN, .inl (cI, 2, .inl (fun _ => 0))), (kA, .inl (cI, 2, .inl (fun _ => 0)))] := hD
    refine lv_aload_n hx hb dX7_nets_16 rfl (lv_at hl 0 rfl) ?_
    refine va_get (D := (dC, dI)) (ci := 10) (v := .int 0) (C := RX7) (T := TX7) (N := 19) hx hb hts (fun w h => List.mem_cons_of_mem _ (List.mem_append_left _ (List.mem_append_right _ (h)))) hown hK hP 0 rfl rfl 16 (by decide) (hts (.fieldLink RX7 57 "NetcompareModel" "thrown" "I") (List.mem_cons_of_mem _ (List.mem_append_left _ (List.mem_append_left _ (List.mem_of_getElem? (i := 0) rfl))))) (fun _ h9 => h9) rfl dX7_nets_17 ?_
    refine lv_if_ne (tgt := 32) hx hb dX7_nets_20 (by decide) (fun h9 => absurd (by decide) h9) (fun _ => ?_)
    refine lv_aload_n hx hb dX7_nets_23 rfl (lv_at hl 0 rfl) ?_
    refine va_get (D := (dC, dI)) (ci := 10) (v := .ref kN) (C := RX7) (T := TX7) (N := 19) hx hb hts (fun w h => List.mem_cons_of_mem _ (List.mem_append_left _ (List.mem_append_right _ (h)))) hown hK hP 0 rfl rfl 0 (by decide) (hts (.fieldLink RX7 7 "NetcompareModel" "nets" "[I") (List.mem_cons_of_mem _ (List.mem_append_left _ (List.mem_append_left _ (List.mem_of_getElem? (i := 1) rfl))))) (fun _ h9 => h9) rfl dX7_nets_24 ?_
    refine lv_iload_n hx hb dX7_nets_27 rfl (lv_at hl 1 rfl) ?_
    refine va_iald hx hb hK hP 1 0 rfl rfl (show ¬ (_ ∨ _) by decide) dX7_nets_28 ?_
    refine W.eq (g2 := F0 m 29 ls [.int 0]) rfl ?_
    refine lv_goto (tgt := 33) hx hb dX7_nets_29 (by decide) ?_
    exact ret _ 0 _ _ _ _ _ _ (Or.inl (⟨rfl, rfl, Or.inl (rfl)⟩)) (hP.sub [0] rfl) (hK.sub [] rfl) (hD.sub [0] (by decide) rfl) hS (Nat.le_of_ble_eq_true rfl) (Nat.le_of_ble_eq_true rfl) dX7_nets_33
  · skip
    subst hc
    have hP : va_P (dC, dI) vwCl [(k0, .inr (10, [.ref kN, .ref kA, .ref kO, .ref kK, .ref kV, .ref kG, .ref kP, .ref kC, .ref kD, .ref kE, .ref kF, .ref kX, .ref kY, .int 0, .ref kT, .ref kU, .int 0, .int 0, .int 0])), (kN, .inl (cI, 2, .inl (fun _ => 0))), (kA, .inl (cI, 2, .inl (fun _ => 0)))] _ := hP
    have hD : va_D A [(k0, .inr (10, [.ref kN, .ref kA, .ref kO, .ref kK, .ref kV, .ref kG, .ref kP, .ref kC, .ref kD, .ref kE, .ref kF, .ref kX, .ref kY, .int 0, .ref kT, .ref kU, .int 0, .int 0, .int 0])), (kN, .inl (cI, 2, .inl (fun _ => 0))), (kA, .inl (cI, 2, .inl (fun _ => 0)))] := hD
    refine lv_if_eq (tgt := 12) hx hb dX7_nets_5 (by decide) (fun h9 => absurd h9 (by decide)) (fun _ => ?_)
    refine lv_iconst (v := 0) hx hb dX7_nets_8 (by decide) ?_
    refine lv_goto (tgt := 13) hx hb dX7_nets_9 (by decide) ?_
    refine va_put (D := (dC, dI)) (ci := 10) (v := .int 0) (ty := .int) (C := RX7) (T := TX7) (N := 19) hx hb hts (fun w h => List.mem_cons_of_mem _ (List.mem_append_left _ (List.mem_append_right _ (h)))) tyX7 tyX7_ok nmX7 hown hK hP hD hS 0 rfl rfl 16 (by decide) (hts (.fieldLink RX7 57 "NetcompareModel" "thrown" "I") (List.mem_cons_of_mem _ (List.mem_append_left _ (List.mem_append_left _ (List.mem_of_getElem? (i := 0) rfl))))) (fun _ h9 => h9) rfl (by decide +kernel) rfl rfl (Nat.le_of_ble_eq_true rfl) dX7_nets_13 (fun H locs hP hD hS => ?_)
    have hP : va_P (dC, dI) vwCl [(k0, .inr (10, [.ref kN, .ref kA, .ref kO, .ref kK, .ref kV, .ref kG, .ref kP, .ref kC, .ref kD, .ref kE, .ref kF, .ref kX, .ref kY, .int 0, .ref kT, .ref kU, .int 0, .int 0, .int 0])), (kN, .inl (cI, 2, .inl (fun _ => 0))), (kA, .inl (cI, 2, .inl (fun _ => 0)))] _ := hP
    have hD : va_D A [(k0, .inr (10, [.ref kN, .ref kA, .ref kO, .ref kK, .ref kV, .ref kG, .ref kP, .ref kC, .ref kD, .ref kE, .ref kF, .ref kX, .ref kY, .int 0, .ref kT, .ref kU, .int 0, .int 0, .int 0])), (kN, .inl (cI, 2, .inl (fun _ => 0))), (kA, .inl (cI, 2, .inl (fun _ => 0)))] := hD
    refine lv_aload_n hx hb dX7_nets_16 rfl (lv_at hl 0 rfl) ?_
    refine va_get (D := (dC, dI)) (ci := 10) (v := .int 0) (C := RX7) (T := TX7) (N := 19) hx hb hts (fun w h => List.mem_cons_of_mem _ (List.mem_append_left _ (List.mem_append_right _ (h)))) hown hK hP 0 rfl rfl 16 (by decide) (hts (.fieldLink RX7 57 "NetcompareModel" "thrown" "I") (List.mem_cons_of_mem _ (List.mem_append_left _ (List.mem_append_left _ (List.mem_of_getElem? (i := 0) rfl))))) (fun _ h9 => h9) rfl dX7_nets_17 ?_
    refine lv_if_ne (tgt := 32) hx hb dX7_nets_20 (by decide) (fun h9 => absurd (by decide) h9) (fun _ => ?_)
    refine lv_aload_n hx hb dX7_nets_23 rfl (lv_at hl 0 rfl) ?_
    refine va_get (D := (dC, dI)) (ci := 10) (v := .ref kN) (C := RX7) (T := TX7) (N := 19) hx hb hts (fun w h => List.mem_cons_of_mem _ (List.mem_append_left _ (List.mem_append_right _ (h)))) hown hK hP 0 rfl rfl 0 (by decide) (hts (.fieldLink RX7 7 "NetcompareModel" "nets" "[I") (List.mem_cons_of_mem _ (List.mem_append_left _ (List.mem_append_left _ (List.mem_of_getElem? (i := 1) rfl))))) (fun _ h9 => h9) rfl dX7_nets_24 ?_
    refine lv_iload_n hx hb dX7_nets_27 rfl (lv_at hl 1 rfl) ?_
    refine va_iald hx hb hK hP 1 0 rfl rfl (show ¬ (_ ∨ _) by decide) dX7_nets_28 ?_
    refine W.eq (g2 := F0 m 29 ls [.int 0]) rfl ?_
    refine lv_goto (tgt := 33) hx hb dX7_nets_29 (by decide) ?_
    exact ret _ 0 _ _ _ _ _ _ (Or.inl (⟨rfl, rfl, Or.inr (rfl)⟩)) (hP.sub [0] rfl) (hK.sub [] rfl) (hD.sub [0] (by decide) rfl) hS (Nat.le_of_ble_eq_true rfl) (Nat.le_of_ble_eq_true rfl) dX7_nets_33
  · skip
    have hc1 := hc
    refine lv_if_eq (tgt := 12) hx hb dX7_nets_5 (by decide) (fun _ => ?_) (fun h9 => absurd (by decide) h9)
    refine lv_iconst (v := 1) hx hb dX7_nets_12 (by decide) ?_
    refine va_put (D := (dC, dI)) (ci := 10) (v := .int 1) (ty := .int) (C := RX7) (T := TX7) (N := 19) hx hb hts (fun w h => List.mem_cons_of_mem _ (List.mem_append_left _ (List.mem_append_right _ (h)))) tyX7 tyX7_ok nmX7 hown hK hP hD hS 0 rfl rfl 16 (by decide) (hts (.fieldLink RX7 57 "NetcompareModel" "thrown" "I") (List.mem_cons_of_mem _ (List.mem_append_left _ (List.mem_append_left _ (List.mem_of_getElem? (i := 0) rfl))))) (fun _ h9 => h9) rfl (by decide +kernel) rfl rfl (Nat.le_of_ble_eq_true rfl) dX7_nets_13 (fun H locs hP hD hS => ?_)
    have hP : va_P (dC, dI) vwCl [(k0, .inr (10, [.ref kN, .ref kA, .ref kO, .ref kK, .ref kV, .ref kG, .ref kP, .ref kC, .ref kD, .ref kE, .ref kF, .ref kX, .ref kY, .int 0, .ref kT, .ref kU, .int 1, .int 0, .int 0])), (kN, .inl (cI, 2, .inl (fun _ => 0))), (kA, .inl (cI, 2, .inl (fun _ => 0)))] _ := hP
    have hD : va_D A [(k0, .inr (10, [.ref kN, .ref kA, .ref kO, .ref kK, .ref kV, .ref kG, .ref kP, .ref kC, .ref kD, .ref kE, .ref kF, .ref kX, .ref kY, .int 0, .ref kT, .ref kU, .int 1, .int 0, .int 0])), (kN, .inl (cI, 2, .inl (fun _ => 0))), (kA, .inl (cI, 2, .inl (fun _ => 0)))] := hD
    refine lv_aload_n hx hb dX7_nets_16 rfl (lv_at hl 0 rfl) ?_
    refine va_get (D := (dC, dI)) (ci := 10) (v := .int 1) (C := RX7) (T := TX7) (N := 19) hx hb hts (fun w h => List.mem_cons_of_mem _ (List.mem_append_left _ (List.mem_append_right _ (h)))) hown hK hP 0 rfl rfl 16 (by decide) (hts (.fieldLink RX7 57 "NetcompareModel" "thrown" "I") (List.mem_cons_of_mem _ (List.mem_append_left _ (List.mem_append_left _ (List.mem_of_getElem? (i := 0) rfl))))) (fun _ h9 => h9) rfl dX7_nets_17 ?_
    refine lv_if_ne (tgt := 32) hx hb dX7_nets_20 (by decide) (fun _ => ?_) (fun h9 => absurd h9 (by decide))
    refine lv_iconst (v := (-1)) hx hb dX7_nets_32 (by decide) ?_
    exact ret _ 1 _ _ _ _ _ _ (Or.inr (⟨rfl, hc1⟩)) (hP.sub [0] rfl) (hK.sub [] rfl) (hD.sub [0] (by decide) rfl) hS (Nat.le_of_ble_eq_true rfl) (Nat.le_of_ble_eq_true rfl) dX7_nets_33

set_option maxHeartbeats 4000000 in
set_option maxRecDepth 100000 in
/-- the model: parts on a fresh one -/
theorem kX7_parts (l : Launch) (dC : Nat → ClassId) (dI : Nat → Nat → Nat) (k0 kN kA kO kK kV kG kP kC kD kE kF kX kY kT kU : Nat) (cI : ClassId) (p0 : Int32) (sz : Nat) : fMi l yX7_parts wsX7_parts ({ frames := 1, cells := 0, slots := 0, locals := 23 } : Room) dC dI [.ref k0, .int p0] [(k0, .inr (10, [.ref kN, .ref kA, .ref kO, .ref kK, .ref kV, .ref kG, .ref kP, .ref kC, .ref kD, .ref kE, .ref kF, .ref kX, .ref kY, .int 0, .ref kT, .ref kU, .int 0, .int 0, .int 0])), (kN, .inl (cI, 2, .inl (fun _ => 0))), (kA, .inl (cI, 2, .inl (fun _ => 0)))] [(cI, .int)] sz (fun (r : Int32) (u : Int32) => u = 0 ∧ r = 0 ∧ ((p0 = 0) ∨ (p0 = 1)) ∨ u = 1 ∧ (¬ ((p0 = 0) ∨ (p0 = 1)))) (fun u => [(k0, .inr (10, [.ref kN, .ref kA, .ref kO, .ref kK, .ref kV, .ref kG, .ref kP, .ref kC, .ref kD, .ref kE, .ref kF, .ref kX, .ref kY, .int 0, .ref kT, .ref kU, .int u, .int 0, .int 0]))]) (fun u => []) := by
  refine oP_i (y := yX7_parts) (cc := cX7_parts) (maxL := 2) (by decide) rfl (Nat.le_of_ble_eq_true rfl) ?_
  intro p e s m args below meth c ls A Q hx hb hr hml hown hts hN hZ hA hin hlk hP hK hD hl ret
  have hS : va_S A s.heap s.heap [] := va_S.rf
  have hl : lv_has ls 2 [(0, .ref k0), (1, .int p0)] := hl
  have hP : va_P (dC, dI) vwCl [(k0, .inr (10, [.ref kN, .ref kA, .ref kO, .ref kK, .ref kV, .ref kG, .ref kP, .ref kC, .ref kD, .ref kE, .ref kF, .ref kX, .ref kY, .int 0, .ref kT, .ref kU, .int 0, .int 0, .int 0])), (kN, .inl (cI, 2, .inl (fun _ => 0))), (kA, .inl (cI, 2, .inl (fun _ => 0)))] _ := hP
  have hD : va_D A [(k0, .inr (10, [.ref kN, .ref kA, .ref kO, .ref kK, .ref kV, .ref kG, .ref kP, .ref kC, .ref kD, .ref kE, .ref kF, .ref kX, .ref kY, .int 0, .ref kT, .ref kU, .int 0, .int 0, .int 0])), (kN, .inl (cI, 2, .inl (fun _ => 0))), (kA, .inl (cI, 2, .inl (fun _ => 0)))] := hD
  refine lv_aload_n hx hb dX7_parts_0 rfl (lv_at hl 0 rfl) ?_
  refine lv_iload_n hx hb dX7_parts_1 rfl (lv_at hl 1 rfl) ?_
  have hPc := hP.sub (ws' := []) [] rfl
  have hDc := hD.sub (ws' := []) [] (by decide) rfl
  have hKc := hK.sub (tys' := []) [] rfl
  have hFc := va_free (wc := []) hD hS hA [] rfl
  refine va_calli (va_runS (As := [.int p0]) (rest := [.ref k0]) ⟨hx, hb, hml, hown, hts⟩ (kX7_isCircuit l dC dI p0 s.heap.size) (va_cwS 1 hts gX7_parts_X7_isCircuit rfl rfl rfl (by decide +kernel) ⟨Nat.le_of_ble_eq_true rfl, Nat.le_of_ble_eq_true rfl⟩) (fPreS hN hZ hS (fun q h => hFc q h) hPc hKc hDc) rfl rfl hl.1 rfl (lv_room (Nat.le_of_ble_eq_true rfl)) dX7_parts_2 ⟨Nat.le_of_ble_eq_true rfl, Nat.le_of_ble_eq_true rfl⟩) hS (fun q _ h => hFc q h) hFc (fun r u t H1 locs ht hvm hw hB hz1 hk1 hS => ?_)
  obtain ⟨hP1, hK1, hD1⟩ := hB
  rw [ht] at hP1
  have hK1 := va_K.moved hvm.symm hK1
  obtain ⟨hP, hD⟩ := va_join (wr := [(k0, .inr (10, [.ref kN, .ref kA, .ref kO, .ref kK, .ref kV, .ref kG, .ref kP, .ref kC, .ref kD, .ref kE, .ref kF, .ref kX, .ref kY, .int 0, .ref kT, .ref kU, .int 0, .int 0, .int 0])), (kN, .inl (cI, 2, .inl (fun _ => 0))), (kA, .inl (cI, 2, .inl (fun _ => 0)))]) (w1 := []) hP hD [] [0, 1, 2] rfl rfl (by decide) (by decide) hk1 hFc hP1 hD1
  generalize H1 = H at hP hS ⊢
  have hP : va_P (dC, dI) vwCl [(k0, .inr (10, [.ref kN, .ref kA, .ref kO, .ref kK, .ref kV, .ref kG, .ref kP, .ref kC, .ref kD, .ref kE, .ref kF, .ref kX, .ref kY, .int 0, .ref kT, .ref kU, .int 0, .int 0, .int 0])), (kN, .inl (cI, 2, .inl (fun _ => 0))), (kA, .inl (cI, 2, .inl (fun _ => 0)))] _ := hP
  have hD : va_D A [(k0, .inr (10, [.ref kN, .ref kA, .ref kO, .ref kK, .ref kV, .ref kG, .ref kP, .ref kC, .ref kD, .ref kE, .ref kF, .ref kX, .ref kY, .int 0, .ref kT, .ref kU, .int 0, .int 0, .int 0])), (kN, .inl (cI, 2, .inl (fun _ => 0))), (kA, .inl (cI, 2, .inl (fun _ => 0)))] := hD
  rcases hw with ⟨rfl, hc | hc⟩ | ⟨rfl, hc⟩
  · skip
    subst hc
    have hP : va_P (dC, dI) vwCl [(k0, .inr (10, [.ref kN, .ref kA, .ref kO, .ref kK, .ref kV, .ref kG, .ref kP, .ref kC, .ref kD, .ref kE, .ref kF, .ref kX, .ref kY, .int 0, .ref kT, .ref kU, .int 0, .int 0, .int 0])), (kN, .inl (cI, 2, .inl (fun _ => 0))), (kA, .inl (cI, 2, .inl (fun _ => 0)))] _ := hP
    have hD : va_D A [(k0, .inr (10, [.ref kN, .ref kA, .ref kO, .ref kK, .ref kV, .ref kG, .ref kP, .ref kC, .ref kD, .ref kE, .ref kF, .ref kX, .ref kY, .int 0, .ref kT, .ref kU, .int 0, .int 0, .int 0])), (kN, .inl (cI, 2, .inl (fun _ => 0))), (kA, .inl (cI, 2, .inl (fun _ => 0)))] := hD
    refine lv_if_eq (tgt := 12) hx hb dX7_parts_5 (by decide) (fun h9 => absurd h9 (by decide)) (fun _ => ?_)
    refine lv_iconst (v := 0) hx hb dX7_parts_8 (by decide) ?_
    refine lv_goto (tgt := 13) hx hb dX7_parts_9 (by decide) ?_
    refine va_put (D := (dC, dI)) (ci := 10) (v := .int 0) (ty := .int) (C := RX7) (T := TX7) (N := 19) hx hb hts (fun w h => List.mem_cons_of_mem _ (List.mem_append_left _ (List.mem_append_right _ (h)))) tyX7 tyX7_ok nmX7 hown hK hP hD hS 0 rfl rfl 16 (by decide) (hts (.fieldLink RX7 57 "NetcompareModel" "thrown" "I") (List.mem_cons_of_mem _ (List.mem_append_left _ (List.mem_append_left _ (List.mem_of_getElem? (i := 0) rfl))))) (fun _ h9 => h9) rfl (by decide +kernel) rfl rfl (Nat.le_of_ble_eq_true rfl) dX7_parts_13 (fun H locs hP hD hS => ?_)
    have hP : va_P (dC, dI) vwCl [(k0, .inr (10, [.ref kN, .ref kA, .ref kO, .ref kK, .ref kV, .ref kG, .ref kP, .ref kC, .ref kD, .ref kE, .ref kF, .ref kX, .ref kY, .int 0, .ref kT, .ref kU, .int 0, .int 0, .int 0])), (kN, .inl (cI, 2, .inl (fun _ => 0))), (kA, .inl (cI, 2, .inl (fun _ => 0)))] _ := hP
    have hD : va_D A [(k0, .inr (10, [.ref kN, .ref kA, .ref kO, .ref kK, .ref kV, .ref kG, .ref kP, .ref kC, .ref kD, .ref kE, .ref kF, .ref kX, .ref kY, .int 0, .ref kT, .ref kU, .int 0, .int 0, .int 0])), (kN, .inl (cI, 2, .inl (fun _ => 0))), (kA, .inl (cI, 2, .inl (fun _ => 0)))] := hD
    refine lv_aload_n hx hb dX7_parts_16 rfl (lv_at hl 0 rfl) ?_
    refine va_get (D := (dC, dI)) (ci := 10) (v := .int 0) (C := RX7) (T := TX7) (N := 19) hx hb hts (fun w h => List.mem_cons_of_mem _ (List.mem_append_left _ (List.mem_append_right _ (h)))) hown hK hP 0 rfl rfl 16 (by decide) (hts (.fieldLink RX7 57 "NetcompareModel" "thrown" "I") (List.mem_cons_of_mem _ (List.mem_append_left _ (List.mem_append_left _ (List.mem_of_getElem? (i := 0) rfl))))) (fun _ h9 => h9) rfl dX7_parts_17 ?_
    refine lv_if_ne (tgt := 31) hx hb dX7_parts_20 (by decide) (fun h9 => absurd (by decide) h9) (fun _ => ?_)
    refine lv_aload_n hx hb dX7_parts_23 rfl (lv_at hl 0 rfl) ?_
    refine lv_iload_n hx hb dX7_parts_24 rfl (lv_at hl 1 rfl) ?_
    have hPc := hP.sub (ws' := [(k0, .inr (10, [.ref kN, .ref kA, .ref kO, .ref kK, .ref kV, .ref kG, .ref kP, .ref kC, .ref kD, .ref kE, .ref kF, .ref kX, .ref kY, .int 0, .ref kT, .ref kU, .int 0, .int 0, .int 0])), (kA, .inl (cI, 2, .inl (fun _ => 0)))]) [0, 2] rfl
    have hDc := hD.sub (ws' := [(k0, .inr (10, [.ref kN, .ref kA, .ref kO, .ref kK, .ref kV, .ref kG, .ref kP, .ref kC, .ref kD, .ref kE, .ref kF, .ref kX, .ref kY, .int 0, .ref kT, .ref kU, .int 0, .int 0, .int 0])), (kA, .inl (cI, 2, .inl (fun _ => 0)))]) [0, 2] (by decide) rfl
    have hKc := hK.sub (tys' := [(cI, .int)]) [0] rfl
    have hFc := va_free (wc := [(k0, .inr (10, [.ref kN, .ref kA, .ref kO, .ref kK, .ref kV, .ref kG, .ref kP, .ref kC, .ref kD, .ref kE, .ref kF, .ref kX, .ref kY, .int 0, .ref kT, .ref kU, .int 0, .int 0, .int 0])), (kA, .inl (cI, 2, .inl (fun _ => 0)))]) hD hS hA [0, 2] rfl
    refine va_calli (va_runV (As := [.int 0]) (rest := []) ⟨hx, hb, hml, hown, hts⟩ (kX7_partMany0 l dC dI k0 kN kA kO kK kV kG kP kC kD kE kF kX kY kT kU cI H.size) (cwV 1 hts gX7_parts_X7_partMany rfl rfl rfl (by decide +kernel) ⟨Nat.le_of_ble_eq_true rfl, Nat.le_of_ble_eq_true rfl⟩) (fPreV hN hZ hS (fun q h => hFc q h) hPc hKc hDc (ci := 10) (q0 := 0) rfl rfl) rfl rfl hl.1 rfl (lv_room (Nat.le_of_ble_eq_true rfl)) dX7_parts_25 ⟨Nat.le_of_ble_eq_true rfl, Nat.le_of_ble_eq_true rfl⟩) hS (fun q _ h => hFc q h) hFc (fun r u t H1 locs ht hvm hw hB hz1 hk1 hS => ?_)
    obtain ⟨hP1, hK1, hD1⟩ := hB
    rw [ht] at hP1
    have hK1 := va_K.moved hvm.symm hK1
    obtain ⟨hP, hD⟩ := va_join (wr := [(kN, .inl (cI, 2, .inl (fun _ => 0)))]) (w1 := [(k0, .inr (10, [.ref kN, .ref kA, .ref kO, .ref kK, .ref kV, .ref kG, .ref kP, .ref kC, .ref kD, .ref kE, .ref kF, .ref kX, .ref kY, .int 0, .ref kT, .ref kU, .int 0, .int 0, .int 0])), (kA, .inl (cI, 2, .inl (fun _ => 0)))]) hP hD [0, 2] [1] rfl rfl (by decide) (by decide) hk1 hFc hP1 hD1
    generalize H1 = H at hP hS ⊢
    have hP : va_P (dC, dI) vwCl [(kN, .inl (cI, 2, .inl (fun _ => 0))), (k0, .inr (10, [.ref kN, .ref kA, .ref kO, .ref kK, .ref kV, .ref kG, .ref kP, .ref kC, .ref kD, .ref kE, .ref kF, .ref kX, .ref kY, .int 0, .ref kT, .ref kU, .int 0, .int 0, .int 0])), (kA, .inl (cI, 2, .inl (fun _ => 0)))] _ := hP
    have hD : va_D A [(kN, .inl (cI, 2, .inl (fun _ => 0))), (k0, .inr (10, [.ref kN, .ref kA, .ref kO, .ref kK, .ref kV, .ref kG, .ref kP, .ref kC, .ref kD, .ref kE, .ref kF, .ref kX, .ref kY, .int 0, .ref kT, .ref kU, .int 0, .int 0, .int 0])), (kA, .inl (cI, 2, .inl (fun _ => 0)))] := hD
    subst hw
    refine lv_goto (tgt := 32) hx hb dX7_parts_28 (by decide) ?_
    exact ret _ 0 _ _ _ _ _ _ (Or.inl (⟨rfl, rfl, Or.inl (rfl)⟩)) (hP.sub [1] rfl) (hK.sub [] rfl) (hD.sub [1] (by decide) rfl) hS (Nat.le_of_ble_eq_true rfl) (Nat.le_of_ble_eq_true rfl) dX7_parts_32
  · skip
    subst hc
    have hP : va_P (dC, dI) vwCl [(k0, .inr (10, [.ref kN, .ref kA, .ref kO, .ref kK, .ref kV, .ref kG, .ref kP, .ref kC, .ref kD, .ref kE, .ref kF, .ref kX, .ref kY, .int 0, .ref kT, .ref kU, .int 0, .int 0, .int 0])), (kN, .inl (cI, 2, .inl (fun _ => 0))), (kA, .inl (cI, 2, .inl (fun _ => 0)))] _ := hP
    have hD : va_D A [(k0, .inr (10, [.ref kN, .ref kA, .ref kO, .ref kK, .ref kV, .ref kG, .ref kP, .ref kC, .ref kD, .ref kE, .ref kF, .ref kX, .ref kY, .int 0, .ref kT, .ref kU, .int 0, .int 0, .int 0])), (kN, .inl (cI, 2, .inl (fun _ => 0))), (kA, .inl (cI, 2, .inl (fun _ => 0)))] := hD
    refine lv_if_eq (tgt := 12) hx hb dX7_parts_5 (by decide) (fun h9 => absurd h9 (by decide)) (fun _ => ?_)
    refine lv_iconst (v := 0) hx hb dX7_parts_8 (by decide) ?_
    refine lv_goto (tgt := 13) hx hb dX7_parts_9 (by decide) ?_
    refine va_put (D := (dC, dI)) (ci := 10) (v := .int 0) (ty := .int) (C := RX7) (T := TX7) (N := 19) hx hb hts (fun w h => List.mem_cons_of_mem _ (List.mem_append_left _ (List.mem_append_right _ (h)))) tyX7 tyX7_ok nmX7 hown hK hP hD hS 0 rfl rfl 16 (by decide) (hts (.fieldLink RX7 57 "NetcompareModel" "thrown" "I") (List.mem_cons_of_mem _ (List.mem_append_left _ (List.mem_append_left _ (List.mem_of_getElem? (i := 0) rfl))))) (fun _ h9 => h9) rfl (by decide +kernel) rfl rfl (Nat.le_of_ble_eq_true rfl) dX7_parts_13 (fun H locs hP hD hS => ?_)
    have hP : va_P (dC, dI) vwCl [(k0, .inr (10, [.ref kN, .ref kA, .ref kO, .ref kK, .ref kV, .ref kG, .ref kP, .ref kC, .ref kD, .ref kE, .ref kF, .ref kX, .ref kY, .int 0, .ref kT, .ref kU, .int 0, .int 0, .int 0])), (kN, .inl (cI, 2, .inl (fun _ => 0))), (kA, .inl (cI, 2, .inl (fun _ => 0)))] _ := hP
    have hD : va_D A [(k0, .inr (10, [.ref kN, .ref kA, .ref kO, .ref kK, .ref kV, .ref kG, .ref kP, .ref kC, .ref kD, .ref kE, .ref kF, .ref kX, .ref kY, .int 0, .ref kT, .ref kU, .int 0, .int 0, .int 0])), (kN, .inl (cI, 2, .inl (fun _ => 0))), (kA, .inl (cI, 2, .inl (fun _ => 0)))] := hD
    refine lv_aload_n hx hb dX7_parts_16 rfl (lv_at hl 0 rfl) ?_
    refine va_get (D := (dC, dI)) (ci := 10) (v := .int 0) (C := RX7) (T := TX7) (N := 19) hx hb hts (fun w h => List.mem_cons_of_mem _ (List.mem_append_left _ (List.mem_append_right _ (h)))) hown hK hP 0 rfl rfl 16 (by decide) (hts (.fieldLink RX7 57 "NetcompareModel" "thrown" "I") (List.mem_cons_of_mem _ (List.mem_append_left _ (List.mem_append_left _ (List.mem_of_getElem? (i := 0) rfl))))) (fun _ h9 => h9) rfl dX7_parts_17 ?_
    refine lv_if_ne (tgt := 31) hx hb dX7_parts_20 (by decide) (fun h9 => absurd (by decide) h9) (fun _ => ?_)
    refine lv_aload_n hx hb dX7_parts_23 rfl (lv_at hl 0 rfl) ?_
    refine lv_iload_n hx hb dX7_parts_24 rfl (lv_at hl 1 rfl) ?_
    have hPc := hP.sub (ws' := [(k0, .inr (10, [.ref kN, .ref kA, .ref kO, .ref kK, .ref kV, .ref kG, .ref kP, .ref kC, .ref kD, .ref kE, .ref kF, .ref kX, .ref kY, .int 0, .ref kT, .ref kU, .int 0, .int 0, .int 0])), (kA, .inl (cI, 2, .inl (fun _ => 0)))]) [0, 2] rfl
    have hDc := hD.sub (ws' := [(k0, .inr (10, [.ref kN, .ref kA, .ref kO, .ref kK, .ref kV, .ref kG, .ref kP, .ref kC, .ref kD, .ref kE, .ref kF, .ref kX, .ref kY, .int 0, .ref kT, .ref kU, .int 0, .int 0, .int 0])), (kA, .inl (cI, 2, .inl (fun _ => 0)))]) [0, 2] (by decide) rfl
    have hKc := hK.sub (tys' := [(cI, .int)]) [0] rfl
    have hFc := va_free (wc := [(k0, .inr (10, [.ref kN, .ref kA, .ref kO, .ref kK, .ref kV, .ref kG, .ref kP, .ref kC, .ref kD, .ref kE, .ref kF, .ref kX, .ref kY, .int 0, .ref kT, .ref kU, .int 0, .int 0, .int 0])), (kA, .inl (cI, 2, .inl (fun _ => 0)))]) hD hS hA [0, 2] rfl
    refine va_calli (va_runV (As := [.int 1]) (rest := []) ⟨hx, hb, hml, hown, hts⟩ (kX7_partMany1 l dC dI k0 kN kA kO kK kV kG kP kC kD kE kF kX kY kT kU cI H.size) (cwV 1 hts gX7_parts_X7_partMany rfl rfl rfl (by decide +kernel) ⟨Nat.le_of_ble_eq_true rfl, Nat.le_of_ble_eq_true rfl⟩) (fPreV hN hZ hS (fun q h => hFc q h) hPc hKc hDc (ci := 10) (q0 := 0) rfl rfl) rfl rfl hl.1 rfl (lv_room (Nat.le_of_ble_eq_true rfl)) dX7_parts_25 ⟨Nat.le_of_ble_eq_true rfl, Nat.le_of_ble_eq_true rfl⟩) hS (fun q _ h => hFc q h) hFc (fun r u t H1 locs ht hvm hw hB hz1 hk1 hS => ?_)
    obtain ⟨hP1, hK1, hD1⟩ := hB
    rw [ht] at hP1
    have hK1 := va_K.moved hvm.symm hK1
    obtain ⟨hP, hD⟩ := va_join (wr := [(kN, .inl (cI, 2, .inl (fun _ => 0)))]) (w1 := [(k0, .inr (10, [.ref kN, .ref kA, .ref kO, .ref kK, .ref kV, .ref kG, .ref kP, .ref kC, .ref kD, .ref kE, .ref kF, .ref kX, .ref kY, .int 0, .ref kT, .ref kU, .int 0, .int 0, .int 0])), (kA, .inl (cI, 2, .inl (fun _ => 0)))]) hP hD [0, 2] [1] rfl rfl (by decide) (by decide) hk1 hFc hP1 hD1
    generalize H1 = H at hP hS ⊢
    have hP : va_P (dC, dI) vwCl [(kN, .inl (cI, 2, .inl (fun _ => 0))), (k0, .inr (10, [.ref kN, .ref kA, .ref kO, .ref kK, .ref kV, .ref kG, .ref kP, .ref kC, .ref kD, .ref kE, .ref kF, .ref kX, .ref kY, .int 0, .ref kT, .ref kU, .int 0, .int 0, .int 0])), (kA, .inl (cI, 2, .inl (fun _ => 0)))] _ := hP
    have hD : va_D A [(kN, .inl (cI, 2, .inl (fun _ => 0))), (k0, .inr (10, [.ref kN, .ref kA, .ref kO, .ref kK, .ref kV, .ref kG, .ref kP, .ref kC, .ref kD, .ref kE, .ref kF, .ref kX, .ref kY, .int 0, .ref kT, .ref kU, .int 0, .int 0, .int 0])), (kA, .inl (cI, 2, .inl (fun _ => 0)))] := hD
    subst hw
    refine lv_goto (tgt := 32) hx hb dX7_parts_28 (by decide) ?_
    exact ret _ 0 _ _ _ _ _ _ (Or.inl (⟨rfl, rfl, Or.inr (rfl)⟩)) (hP.sub [1] rfl) (hK.sub [] rfl) (hD.sub [1] (by decide) rfl) hS (Nat.le_of_ble_eq_true rfl) (Nat.le_of_ble_eq_true rfl) dX7_parts_32
  · skip
    have hc1 := hc
    refine lv_if_eq (tgt := 12) hx hb dX7_parts_5 (by decide) (fun _ => ?_) (fun h9 => absurd (by decide) h9)
    refine lv_iconst (v := 1) hx hb dX7_parts_12 (by decide) ?_
    refine va_put (D := (dC, dI)) (ci := 10) (v := .int 1) (ty := .int) (C := RX7) (T := TX7) (N := 19) hx hb hts (fun w h => List.mem_cons_of_mem _ (List.mem_append_left _ (List.mem_append_right _ (h)))) tyX7 tyX7_ok nmX7 hown hK hP hD hS 0 rfl rfl 16 (by decide) (hts (.fieldLink RX7 57 "NetcompareModel" "thrown" "I") (List.mem_cons_of_mem _ (List.mem_append_left _ (List.mem_append_left _ (List.mem_of_getElem? (i := 0) rfl))))) (fun _ h9 => h9) rfl (by decide +kernel) rfl rfl (Nat.le_of_ble_eq_true rfl) dX7_parts_13 (fun H locs hP hD hS => ?_)
    have hP : va_P (dC, dI) vwCl [(k0, .inr (10, [.ref kN, .ref kA, .ref kO, .ref kK, .ref kV, .ref kG, .ref kP, .ref kC, .ref kD, .ref kE, .ref kF, .ref kX, .ref kY, .int 0, .ref kT, .ref kU, .int 1, .int 0, .int 0])), (kN, .inl (cI, 2, .inl (fun _ => 0))), (kA, .inl (cI, 2, .inl (fun _ => 0)))] _ := hP
    have hD : va_D A [(k0, .inr (10, [.ref kN, .ref kA, .ref kO, .ref kK, .ref kV, .ref kG, .ref kP, .ref kC, .ref kD, .ref kE, .ref kF, .ref kX, .ref kY, .int 0, .ref kT, .ref kU, .int 1, .int 0, .int 0])), (kN, .inl (cI, 2, .inl (fun _ => 0))), (kA, .inl (cI, 2, .inl (fun _ => 0)))] := hD
    refine lv_aload_n hx hb dX7_parts_16 rfl (lv_at hl 0 rfl) ?_
    refine va_get (D := (dC, dI)) (ci := 10) (v := .int 1) (C := RX7) (T := TX7) (N := 19) hx hb hts (fun w h => List.mem_cons_of_mem _ (List.mem_append_left _ (List.mem_append_right _ (h)))) hown hK hP 0 rfl rfl 16 (by decide) (hts (.fieldLink RX7 57 "NetcompareModel" "thrown" "I") (List.mem_cons_of_mem _ (List.mem_append_left _ (List.mem_append_left _ (List.mem_of_getElem? (i := 0) rfl))))) (fun _ h9 => h9) rfl dX7_parts_17 ?_
    refine lv_if_ne (tgt := 31) hx hb dX7_parts_20 (by decide) (fun _ => ?_) (fun h9 => absurd h9 (by decide))
    refine lv_iconst (v := (-1)) hx hb dX7_parts_31 (by decide) ?_
    exact ret _ 1 _ _ _ _ _ _ (Or.inr (⟨rfl, hc1⟩)) (hP.sub [0] rfl) (hK.sub [] rfl) (hD.sub [0] (by decide) rfl) hS (Nat.le_of_ble_eq_true rfl) (Nat.le_of_ble_eq_true rfl) dX7_parts_32

set_option maxHeartbeats 4000000 in
set_option maxRecDepth 100000 in
/-- the model: valueSum on a fresh one -/
theorem kX7_valueSum (l : Launch) (dC : Nat → ClassId) (dI : Nat → Nat → Nat) (k0 kN kA kO kK kV kG kP kC kD kE kF kX kY kT kU : Nat) (cI : ClassId) (p0 : Int32) (sz : Nat) : fMl l yX7_valueSum wsX7_valueSum ({ frames := 1, cells := 0, slots := 0, locals := 20 } : Room) dC dI [.ref k0, .int p0] [(k0, .inr (10, [.ref kN, .ref kA, .ref kO, .ref kK, .ref kV, .ref kG, .ref kP, .ref kC, .ref kD, .ref kE, .ref kF, .ref kX, .ref kY, .int 0, .ref kT, .ref kU, .int 0, .int 0, .int 0])), (kN, .inl (cI, 2, .inl (fun _ => 0))), (kA, .inl (cI, 2, .inl (fun _ => 0)))] [(cI, .int)] sz (fun (r : Int64) (u : Int32) => u = 0 ∧ r = 0 ∧ ((p0 = 0) ∨ (p0 = 1)) ∨ u = 1 ∧ (¬ ((p0 = 0) ∨ (p0 = 1)))) (fun u => [(k0, .inr (10, [.ref kN, .ref kA, .ref kO, .ref kK, .ref kV, .ref kG, .ref kP, .ref kC, .ref kD, .ref kE, .ref kF, .ref kX, .ref kY, .int 0, .ref kT, .ref kU, .int u, .int 0, .int 0]))]) (fun u => []) := by
  refine oP_l (y := yX7_valueSum) (cc := cX7_valueSum) (maxL := 5) (by decide) rfl (Nat.le_of_ble_eq_true rfl) ?_
  intro p e s m args below meth c ls A Q hx hb hr hml hown hts hN hZ hA hin hlk hP hK hD hl ret
  have hS : va_S A s.heap s.heap [] := va_S.rf
  have hl : lv_has ls 5 [(0, .ref k0), (1, .int p0)] := hl
  have hP : va_P (dC, dI) vwCl [(k0, .inr (10, [.ref kN, .ref kA, .ref kO, .ref kK, .ref kV, .ref kG, .ref kP, .ref kC, .ref kD, .ref kE, .ref kF, .ref kX, .ref kY, .int 0, .ref kT, .ref kU, .int 0, .int 0, .int 0])), (kN, .inl (cI, 2, .inl (fun _ => 0))), (kA, .inl (cI, 2, .inl (fun _ => 0)))] _ := hP
  have hD : va_D A [(k0, .inr (10, [.ref kN, .ref kA, .ref kO, .ref kK, .ref kV, .ref kG, .ref kP, .ref kC, .ref kD, .ref kE, .ref kF, .ref kX, .ref kY, .int 0, .ref kT, .ref kU, .int 0, .int 0, .int 0])), (kN, .inl (cI, 2, .inl (fun _ => 0))), (kA, .inl (cI, 2, .inl (fun _ => 0)))] := hD
  refine lv_aload_n hx hb dX7_valueSum_0 rfl (lv_at hl 0 rfl) ?_
  refine lv_iload_n hx hb dX7_valueSum_1 rfl (lv_at hl 1 rfl) ?_
  have hPc := hP.sub (ws' := []) [] rfl
  have hDc := hD.sub (ws' := []) [] (by decide) rfl
  have hKc := hK.sub (tys' := []) [] rfl
  have hFc := va_free (wc := []) hD hS hA [] rfl
  refine va_calli (va_runS (As := [.int p0]) (rest := [.ref k0]) ⟨hx, hb, hml, hown, hts⟩ (kX7_isCircuit l dC dI p0 s.heap.size) (va_cwS 1 hts gX7_valueSum_X7_isCircuit rfl rfl rfl (by decide +kernel) ⟨Nat.le_of_ble_eq_true rfl, Nat.le_of_ble_eq_true rfl⟩) (fPreS hN hZ hS (fun q h => hFc q h) hPc hKc hDc) rfl rfl hl.1 rfl (lv_room (Nat.le_of_ble_eq_true rfl)) dX7_valueSum_2 ⟨Nat.le_of_ble_eq_true rfl, Nat.le_of_ble_eq_true rfl⟩) hS (fun q _ h => hFc q h) hFc (fun r u t H1 locs ht hvm hw hB hz1 hk1 hS => ?_)
  obtain ⟨hP1, hK1, hD1⟩ := hB
  rw [ht] at hP1
  have hK1 := va_K.moved hvm.symm hK1
  obtain ⟨hP, hD⟩ := va_join (wr := [(k0, .inr (10, [.ref kN, .ref kA, .ref kO, .ref kK, .ref kV, .ref kG, .ref kP, .ref kC, .ref kD, .ref kE, .ref kF, .ref kX, .ref kY, .int 0, .ref kT, .ref kU, .int 0, .int 0, .int 0])), (kN, .inl (cI, 2, .inl (fun _ => 0))), (kA, .inl (cI, 2, .inl (fun _ => 0)))]) (w1 := []) hP hD [] [0, 1, 2] rfl rfl (by decide) (by decide) hk1 hFc hP1 hD1
  generalize H1 = H at hP hS ⊢
  have hP : va_P (dC, dI) vwCl [(k0, .inr (10, [.ref kN, .ref kA, .ref kO, .ref kK, .ref kV, .ref kG, .ref kP, .ref kC, .ref kD, .ref kE, .ref kF, .ref kX, .ref kY, .int 0, .ref kT, .ref kU, .int 0, .int 0, .int 0])), (kN, .inl (cI, 2, .inl (fun _ => 0))), (kA, .inl (cI, 2, .inl (fun _ => 0)))] _ := hP
  have hD : va_D A [(k0, .inr (10, [.ref kN, .ref kA, .ref kO, .ref kK, .ref kV, .ref kG, .ref kP, .ref kC, .ref kD, .ref kE, .ref kF, .ref kX, .ref kY, .int 0, .ref kT, .ref kU, .int 0, .int 0, .int 0])), (kN, .inl (cI, 2, .inl (fun _ => 0))), (kA, .inl (cI, 2, .inl (fun _ => 0)))] := hD
  rcases hw with ⟨rfl, hc | hc⟩ | ⟨rfl, hc⟩
  · skip
    subst hc
    have hP : va_P (dC, dI) vwCl [(k0, .inr (10, [.ref kN, .ref kA, .ref kO, .ref kK, .ref kV, .ref kG, .ref kP, .ref kC, .ref kD, .ref kE, .ref kF, .ref kX, .ref kY, .int 0, .ref kT, .ref kU, .int 0, .int 0, .int 0])), (kN, .inl (cI, 2, .inl (fun _ => 0))), (kA, .inl (cI, 2, .inl (fun _ => 0)))] _ := hP
    have hD : va_D A [(k0, .inr (10, [.ref kN, .ref kA, .ref kO, .ref kK, .ref kV, .ref kG, .ref kP, .ref kC, .ref kD, .ref kE, .ref kF, .ref kX, .ref kY, .int 0, .ref kT, .ref kU, .int 0, .int 0, .int 0])), (kN, .inl (cI, 2, .inl (fun _ => 0))), (kA, .inl (cI, 2, .inl (fun _ => 0)))] := hD
    refine lv_if_eq (tgt := 12) hx hb dX7_valueSum_5 (by decide) (fun h9 => absurd h9 (by decide)) (fun _ => ?_)
    refine lv_iconst (v := 0) hx hb dX7_valueSum_8 (by decide) ?_
    refine lv_goto (tgt := 13) hx hb dX7_valueSum_9 (by decide) ?_
    refine va_put (D := (dC, dI)) (ci := 10) (v := .int 0) (ty := .int) (C := RX7) (T := TX7) (N := 19) hx hb hts (fun w h => List.mem_cons_of_mem _ (List.mem_append_left _ (List.mem_append_right _ (h)))) tyX7 tyX7_ok nmX7 hown hK hP hD hS 0 rfl rfl 16 (by decide) (hts (.fieldLink RX7 57 "NetcompareModel" "thrown" "I") (List.mem_cons_of_mem _ (List.mem_append_left _ (List.mem_append_left _ (List.mem_of_getElem? (i := 0) rfl))))) (fun _ h9 => h9) rfl (by decide +kernel) rfl rfl (Nat.le_of_ble_eq_true rfl) dX7_valueSum_13 (fun H locs hP hD hS => ?_)
    have hP : va_P (dC, dI) vwCl [(k0, .inr (10, [.ref kN, .ref kA, .ref kO, .ref kK, .ref kV, .ref kG, .ref kP, .ref kC, .ref kD, .ref kE, .ref kF, .ref kX, .ref kY, .int 0, .ref kT, .ref kU, .int 0, .int 0, .int 0])), (kN, .inl (cI, 2, .inl (fun _ => 0))), (kA, .inl (cI, 2, .inl (fun _ => 0)))] _ := hP
    have hD : va_D A [(k0, .inr (10, [.ref kN, .ref kA, .ref kO, .ref kK, .ref kV, .ref kG, .ref kP, .ref kC, .ref kD, .ref kE, .ref kF, .ref kX, .ref kY, .int 0, .ref kT, .ref kU, .int 0, .int 0, .int 0])), (kN, .inl (cI, 2, .inl (fun _ => 0))), (kA, .inl (cI, 2, .inl (fun _ => 0)))] := hD
    refine lv_lconst (v := 0) hx hb dX7_valueSum_16 (by decide) ?_
    refine lv_lstore_n (lv' := [(2, .long 0), (0, .ref k0), (1, .int 0)]) hx hb dX7_valueSum_17 rfl hl (Nat.le_of_ble_eq_true rfl) rfl (fun ls hl => ?_)
    refine lv_iconst (v := 0) hx hb dX7_valueSum_18 (by decide) ?_
    refine lv_istore (lv' := [(4, .int 0), (2, .long 0), (0, .ref k0), (1, .int 0)]) hx hb dX7_valueSum_19 hl (Nat.le_of_ble_eq_true rfl) rfl (fun ls hl => ?_)
    refine lv_aload_n hx hb dX7_valueSum_21 rfl (lv_at hl 2 rfl) ?_
    refine va_get (D := (dC, dI)) (ci := 10) (v := .int 0) (C := RX7) (T := TX7) (N := 19) hx hb hts (fun w h => List.mem_cons_of_mem _ (List.mem_append_left _ (List.mem_append_right _ (h)))) hown hK hP 0 rfl rfl 16 (by decide) (hts (.fieldLink RX7 57 "NetcompareModel" "thrown" "I") (List.mem_cons_of_mem _ (List.mem_append_left _ (List.mem_append_left _ (List.mem_of_getElem? (i := 0) rfl))))) (fun _ h9 => h9) rfl dX7_valueSum_22 ?_
    refine lv_if_ne (tgt := 70) hx hb dX7_valueSum_25 (by decide) (fun h9 => absurd (by decide) h9) (fun _ => ?_)
    refine lv_iload hx hb dX7_valueSum_28 (lv_at hl 0 rfl) ?_
    refine lv_aload_n hx hb dX7_valueSum_30 rfl (lv_at hl 2 rfl) ?_
    refine va_get (D := (dC, dI)) (ci := 10) (v := .ref kA) (C := RX7) (T := TX7) (N := 19) hx hb hts (fun w h => List.mem_cons_of_mem _ (List.mem_append_left _ (List.mem_append_right _ (h)))) hown hK hP 0 rfl rfl 1 (by decide) (hts (.fieldLink RX7 13 "NetcompareModel" "added" "[I") (List.mem_cons_of_mem _ (List.mem_append_left _ (List.mem_append_left _ (List.mem_of_getElem? (i := 1) rfl))))) (fun _ h9 => h9) rfl dX7_valueSum_31 ?_
    refine lv_iload_n hx hb dX7_valueSum_34 rfl (lv_at hl 3 rfl) ?_
    refine va_iald hx hb hK hP 2 0 rfl rfl (show ¬ (_ ∨ _) by decide) dX7_valueSum_35 ?_
    refine W.eq (g2 := F0 m 36 ls [.int 0, .int 0]) rfl ?_
    refine lv_icmp_ge (tgt := 70) hx hb dX7_valueSum_36 (by decide) (fun _ => ?_) (fun h9 => absurd (by decide) h9)
    refine lv_lload_n hx hb dX7_valueSum_70 rfl (lv_at hl 1 rfl) ?_
    exact ret _ 0 _ _ _ _ _ _ (Or.inl (⟨rfl, rfl, Or.inl (rfl)⟩)) (hP.sub [0] rfl) (hK.sub [] rfl) (hD.sub [0] (by decide) rfl) hS (Nat.le_of_ble_eq_true rfl) (Nat.le_of_ble_eq_true rfl) dX7_valueSum_71
  · skip
    subst hc
    have hP : va_P (dC, dI) vwCl [(k0, .inr (10, [.ref kN, .ref kA, .ref kO, .ref kK, .ref kV, .ref kG, .ref kP, .ref kC, .ref kD, .ref kE, .ref kF, .ref kX, .ref kY, .int 0, .ref kT, .ref kU, .int 0, .int 0, .int 0])), (kN, .inl (cI, 2, .inl (fun _ => 0))), (kA, .inl (cI, 2, .inl (fun _ => 0)))] _ := hP
    have hD : va_D A [(k0, .inr (10, [.ref kN, .ref kA, .ref kO, .ref kK, .ref kV, .ref kG, .ref kP, .ref kC, .ref kD, .ref kE, .ref kF, .ref kX, .ref kY, .int 0, .ref kT, .ref kU, .int 0, .int 0, .int 0])), (kN, .inl (cI, 2, .inl (fun _ => 0))), (kA, .inl (cI, 2, .inl (fun _ => 0)))] := hD
    refine lv_if_eq (tgt := 12) hx hb dX7_valueSum_5 (by decide) (fun h9 => absurd h9 (by decide)) (fun _ => ?_)
    refine lv_iconst (v := 0) hx hb dX7_valueSum_8 (by decide) ?_
    refine lv_goto (tgt := 13) hx hb dX7_valueSum_9 (by decide) ?_
    refine va_put (D := (dC, dI)) (ci := 10) (v := .int 0) (ty := .int) (C := RX7) (T := TX7) (N := 19) hx hb hts (fun w h => List.mem_cons_of_mem _ (List.mem_append_left _ (List.mem_append_right _ (h)))) tyX7 tyX7_ok nmX7 hown hK hP hD hS 0 rfl rfl 16 (by decide) (hts (.fieldLink RX7 57 "NetcompareModel" "thrown" "I") (List.mem_cons_of_mem _ (List.mem_append_left _ (List.mem_append_left _ (List.mem_of_getElem? (i := 0) rfl))))) (fun _ h9 => h9) rfl (by decide +kernel) rfl rfl (Nat.le_of_ble_eq_true rfl) dX7_valueSum_13 (fun H locs hP hD hS => ?_)
    have hP : va_P (dC, dI) vwCl [(k0, .inr (10, [.ref kN, .ref kA, .ref kO, .ref kK, .ref kV, .ref kG, .ref kP, .ref kC, .ref kD, .ref kE, .ref kF, .ref kX, .ref kY, .int 0, .ref kT, .ref kU, .int 0, .int 0, .int 0])), (kN, .inl (cI, 2, .inl (fun _ => 0))), (kA, .inl (cI, 2, .inl (fun _ => 0)))] _ := hP
    have hD : va_D A [(k0, .inr (10, [.ref kN, .ref kA, .ref kO, .ref kK, .ref kV, .ref kG, .ref kP, .ref kC, .ref kD, .ref kE, .ref kF, .ref kX, .ref kY, .int 0, .ref kT, .ref kU, .int 0, .int 0, .int 0])), (kN, .inl (cI, 2, .inl (fun _ => 0))), (kA, .inl (cI, 2, .inl (fun _ => 0)))] := hD
    refine lv_lconst (v := 0) hx hb dX7_valueSum_16 (by decide) ?_
    refine lv_lstore_n (lv' := [(2, .long 0), (0, .ref k0), (1, .int 1)]) hx hb dX7_valueSum_17 rfl hl (Nat.le_of_ble_eq_true rfl) rfl (fun ls hl => ?_)
    refine lv_iconst (v := 0) hx hb dX7_valueSum_18 (by decide) ?_
    refine lv_istore (lv' := [(4, .int 0), (2, .long 0), (0, .ref k0), (1, .int 1)]) hx hb dX7_valueSum_19 hl (Nat.le_of_ble_eq_true rfl) rfl (fun ls hl => ?_)
    refine lv_aload_n hx hb dX7_valueSum_21 rfl (lv_at hl 2 rfl) ?_
    refine va_get (D := (dC, dI)) (ci := 10) (v := .int 0) (C := RX7) (T := TX7) (N := 19) hx hb hts (fun w h => List.mem_cons_of_mem _ (List.mem_append_left _ (List.mem_append_right _ (h)))) hown hK hP 0 rfl rfl 16 (by decide) (hts (.fieldLink RX7 57 "NetcompareModel" "thrown" "I") (List.mem_cons_of_mem _ (List.mem_append_left _ (List.mem_append_left _ (List.mem_of_getElem? (i := 0) rfl))))) (fun _ h9 => h9) rfl dX7_valueSum_22 ?_
    refine lv_if_ne (tgt := 70) hx hb dX7_valueSum_25 (by decide) (fun h9 => absurd (by decide) h9) (fun _ => ?_)
    refine lv_iload hx hb dX7_valueSum_28 (lv_at hl 0 rfl) ?_
    refine lv_aload_n hx hb dX7_valueSum_30 rfl (lv_at hl 2 rfl) ?_
    refine va_get (D := (dC, dI)) (ci := 10) (v := .ref kA) (C := RX7) (T := TX7) (N := 19) hx hb hts (fun w h => List.mem_cons_of_mem _ (List.mem_append_left _ (List.mem_append_right _ (h)))) hown hK hP 0 rfl rfl 1 (by decide) (hts (.fieldLink RX7 13 "NetcompareModel" "added" "[I") (List.mem_cons_of_mem _ (List.mem_append_left _ (List.mem_append_left _ (List.mem_of_getElem? (i := 1) rfl))))) (fun _ h9 => h9) rfl dX7_valueSum_31 ?_
    refine lv_iload_n hx hb dX7_valueSum_34 rfl (lv_at hl 3 rfl) ?_
    refine va_iald hx hb hK hP 2 0 rfl rfl (show ¬ (_ ∨ _) by decide) dX7_valueSum_35 ?_
    refine W.eq (g2 := F0 m 36 ls [.int 0, .int 0]) rfl ?_
    refine lv_icmp_ge (tgt := 70) hx hb dX7_valueSum_36 (by decide) (fun _ => ?_) (fun h9 => absurd (by decide) h9)
    refine lv_lload_n hx hb dX7_valueSum_70 rfl (lv_at hl 1 rfl) ?_
    exact ret _ 0 _ _ _ _ _ _ (Or.inl (⟨rfl, rfl, Or.inr (rfl)⟩)) (hP.sub [0] rfl) (hK.sub [] rfl) (hD.sub [0] (by decide) rfl) hS (Nat.le_of_ble_eq_true rfl) (Nat.le_of_ble_eq_true rfl) dX7_valueSum_71
  · skip
    have hc1 := hc
    refine lv_if_eq (tgt := 12) hx hb dX7_valueSum_5 (by decide) (fun _ => ?_) (fun h9 => absurd (by decide) h9)
    refine lv_iconst (v := 1) hx hb dX7_valueSum_12 (by decide) ?_
    refine va_put (D := (dC, dI)) (ci := 10) (v := .int 1) (ty := .int) (C := RX7) (T := TX7) (N := 19) hx hb hts (fun w h => List.mem_cons_of_mem _ (List.mem_append_left _ (List.mem_append_right _ (h)))) tyX7 tyX7_ok nmX7 hown hK hP hD hS 0 rfl rfl 16 (by decide) (hts (.fieldLink RX7 57 "NetcompareModel" "thrown" "I") (List.mem_cons_of_mem _ (List.mem_append_left _ (List.mem_append_left _ (List.mem_of_getElem? (i := 0) rfl))))) (fun _ h9 => h9) rfl (by decide +kernel) rfl rfl (Nat.le_of_ble_eq_true rfl) dX7_valueSum_13 (fun H locs hP hD hS => ?_)
    have hP : va_P (dC, dI) vwCl [(k0, .inr (10, [.ref kN, .ref kA, .ref kO, .ref kK, .ref kV, .ref kG, .ref kP, .ref kC, .ref kD, .ref kE, .ref kF, .ref kX, .ref kY, .int 0, .ref kT, .ref kU, .int 1, .int 0, .int 0])), (kN, .inl (cI, 2, .inl (fun _ => 0))), (kA, .inl (cI, 2, .inl (fun _ => 0)))] _ := hP
    have hD : va_D A [(k0, .inr (10, [.ref kN, .ref kA, .ref kO, .ref kK, .ref kV, .ref kG, .ref kP, .ref kC, .ref kD, .ref kE, .ref kF, .ref kX, .ref kY, .int 0, .ref kT, .ref kU, .int 1, .int 0, .int 0])), (kN, .inl (cI, 2, .inl (fun _ => 0))), (kA, .inl (cI, 2, .inl (fun _ => 0)))] := hD
    refine lv_lconst (v := 0) hx hb dX7_valueSum_16 (by decide) ?_
    refine lv_lstore_n (lv' := [(2, .long 0), (0, .ref k0), (1, .int p0)]) hx hb dX7_valueSum_17 rfl hl (Nat.le_of_ble_eq_true rfl) rfl (fun ls hl => ?_)
    refine lv_iconst (v := 0) hx hb dX7_valueSum_18 (by decide) ?_
    refine lv_istore (lv' := [(4, .int 0), (2, .long 0), (0, .ref k0), (1, .int p0)]) hx hb dX7_valueSum_19 hl (Nat.le_of_ble_eq_true rfl) rfl (fun ls hl => ?_)
    refine lv_aload_n hx hb dX7_valueSum_21 rfl (lv_at hl 2 rfl) ?_
    refine va_get (D := (dC, dI)) (ci := 10) (v := .int 1) (C := RX7) (T := TX7) (N := 19) hx hb hts (fun w h => List.mem_cons_of_mem _ (List.mem_append_left _ (List.mem_append_right _ (h)))) hown hK hP 0 rfl rfl 16 (by decide) (hts (.fieldLink RX7 57 "NetcompareModel" "thrown" "I") (List.mem_cons_of_mem _ (List.mem_append_left _ (List.mem_append_left _ (List.mem_of_getElem? (i := 0) rfl))))) (fun _ h9 => h9) rfl dX7_valueSum_22 ?_
    refine lv_if_ne (tgt := 70) hx hb dX7_valueSum_25 (by decide) (fun _ => ?_) (fun h9 => absurd h9 (by decide))
    refine lv_lload_n hx hb dX7_valueSum_70 rfl (lv_at hl 1 rfl) ?_
    exact ret _ 1 _ _ _ _ _ _ (Or.inr (⟨rfl, hc1⟩)) (hP.sub [0] rfl) (hK.sub [] rfl) (hD.sub [0] (by decide) rfl) hS (Nat.le_of_ble_eq_true rfl) (Nat.le_of_ble_eq_true rfl) dX7_valueSum_71

set_option maxHeartbeats 4000000 in
set_option maxRecDepth 100000 in
/-- the model: rounds on a fresh one -/
theorem kX7_rounds (l : Launch) (dC : Nat → ClassId) (dI : Nat → Nat → Nat) (k0 kN kA kO kK kV kG kP kC kD kE kF kX kY kT kU : Nat) (cI : ClassId) (g1 g2 g3 g4 : Nat → Int32) (sz : Nat) : fMi l yX7_rounds wsX7_rounds ({ frames := 5, cells := 2, slots := 40, locals := 116 } : Room) dC dI [.ref k0] [(k0, .inr (10, [.ref kN, .ref kA, .ref kO, .ref kK, .ref kV, .ref kG, .ref kP, .ref kC, .ref kD, .ref kE, .ref kF, .ref kX, .ref kY, .int 0, .ref kT, .ref kU, .int 0, .int 0, .int 0])), (kN, .inl (cI, 2, .inl (fun _ => 0))), (kA, .inl (cI, 2, .inl (fun _ => 0))), (kC, .inl (cI, 20, .inl g1)), (kD, .inl (cI, 20, .inl g2)), (kE, .inl (cI, 20, .inl g3)), (kF, .inl (cI, 20, .inl g4))] [(cI, .int)] sz (fun (r : Int32) (u : Int32) => u = 0 ∧ r = 0) (fun u => [(k0, .inr (10, [.ref kN, .ref kA, .ref kO, .ref kK, .ref kV, .ref kG, .ref kP, .ref kC, .ref kD, .ref kE, .ref kF, .ref kX, .ref kY, .int 0, .ref kT, .ref kU, .int u, .int 0, .int 0]))]) (fun u => []) := by
  refine oP_i (y := yX7_rounds) (cc := cX7_rounds) (maxL := 1) (by decide) rfl (Nat.le_of_ble_eq_true rfl) ?_
  intro p e s m args below meth c ls A Q hx hb hr hml hown hts hN hZ hA hin hlk hP hK hD hl ret
  have hS : va_S A s.heap s.heap [] := va_S.rf
  have hl : lv_has ls 1 [(0, .ref k0)] := hl
  have hP : va_P (dC, dI) vwCl [(k0, .inr (10, [.ref kN, .ref kA, .ref kO, .ref kK, .ref kV, .ref kG, .ref kP, .ref kC, .ref kD, .ref kE, .ref kF, .ref kX, .ref kY, .int 0, .ref kT, .ref kU, .int 0, .int 0, .int 0])), (kN, .inl (cI, 2, .inl (fun _ => 0))), (kA, .inl (cI, 2, .inl (fun _ => 0))), (kC, .inl (cI, 20, .inl g1)), (kD, .inl (cI, 20, .inl g2)), (kE, .inl (cI, 20, .inl g3)), (kF, .inl (cI, 20, .inl g4))] _ := hP
  have hD : va_D A [(k0, .inr (10, [.ref kN, .ref kA, .ref kO, .ref kK, .ref kV, .ref kG, .ref kP, .ref kC, .ref kD, .ref kE, .ref kF, .ref kX, .ref kY, .int 0, .ref kT, .ref kU, .int 0, .int 0, .int 0])), (kN, .inl (cI, 2, .inl (fun _ => 0))), (kA, .inl (cI, 2, .inl (fun _ => 0))), (kC, .inl (cI, 20, .inl g1)), (kD, .inl (cI, 20, .inl g2)), (kE, .inl (cI, 20, .inl g3)), (kF, .inl (cI, 20, .inl g4))] := hD
  refine lv_aload_n hx hb dX7_rounds_0 rfl (lv_at hl 0 rfl) ?_
  refine lv_iconst (v := 0) hx hb dX7_rounds_1 (by decide) ?_
  refine va_put (D := (dC, dI)) (ci := 10) (v := .int 0) (ty := .int) (C := RX7) (T := TX7) (N := 19) hx hb hts (fun w h => List.mem_cons_of_mem _ (List.mem_append_left _ (List.mem_append_right _ (h)))) tyX7 tyX7_ok nmX7 hown hK hP hD hS 0 rfl rfl 16 (by decide) (hts (.fieldLink RX7 57 "NetcompareModel" "thrown" "I") (List.mem_cons_of_mem _ (List.mem_append_left _ (List.mem_append_left _ (List.mem_append_left _ (List.mem_of_getElem? (i := 0) rfl)))))) (fun _ h9 => h9) rfl (by decide +kernel) rfl rfl (Nat.le_of_ble_eq_true rfl) dX7_rounds_2 (fun H locs hP hD hS => ?_)
  have hP : va_P (dC, dI) vwCl [(k0, .inr (10, [.ref kN, .ref kA, .ref kO, .ref kK, .ref kV, .ref kG, .ref kP, .ref kC, .ref kD, .ref kE, .ref kF, .ref kX, .ref kY, .int 0, .ref kT, .ref kU, .int 0, .int 0, .int 0])), (kN, .inl (cI, 2, .inl (fun _ => 0))), (kA, .inl (cI, 2, .inl (fun _ => 0))), (kC, .inl (cI, 20, .inl g1)), (kD, .inl (cI, 20, .inl g2)), (kE, .inl (cI, 20, .inl g3)), (kF, .inl (cI, 20, .inl g4))] _ := hP
  have hD : va_D A [(k0, .inr (10, [.ref kN, .ref kA, .ref kO, .ref kK, .ref kV, .ref kG, .ref kP, .ref kC, .ref kD, .ref kE, .ref kF, .ref kX, .ref kY, .int 0, .ref kT, .ref kU, .int 0, .int 0, .int 0])), (kN, .inl (cI, 2, .inl (fun _ => 0))), (kA, .inl (cI, 2, .inl (fun _ => 0))), (kC, .inl (cI, 20, .inl g1)), (kD, .inl (cI, 20, .inl g2)), (kE, .inl (cI, 20, .inl g3)), (kF, .inl (cI, 20, .inl g4))] := hD
  refine lv_aload_n hx hb dX7_rounds_5 rfl (lv_at hl 0 rfl) ?_
  have hPc := hP.sub (ws' := [(k0, .inr (10, [.ref kN, .ref kA, .ref kO, .ref kK, .ref kV, .ref kG, .ref kP, .ref kC, .ref kD, .ref kE, .ref kF, .ref kX, .ref kY, .int 0, .ref kT, .ref kU, .int 0, .int 0, .int 0])), (kN, .inl (cI, 2, .inl (fun _ => 0))), (kA, .inl (cI, 2, .inl (fun _ => 0))), (kC, .inl (cI, 20, .inl g1)), (kD, .inl (cI, 20, .inl g2)), (kE, .inl (cI, 20, .inl g3)), (kF, .inl (cI, 20, .inl g4))]) [0, 1, 2, 3, 4, 5, 6] rfl
  have hDc := hD.sub (ws' := [(k0, .inr (10, [.ref kN, .ref kA, .ref kO, .ref kK, .ref kV, .ref kG, .ref kP, .ref kC, .ref kD, .ref kE, .ref kF, .ref kX, .ref kY, .int 0, .ref kT, .ref kU, .int 0, .int 0, .int 0])), (kN, .inl (cI, 2, .inl (fun _ => 0))), (kA, .inl (cI, 2, .inl (fun _ => 0))), (kC, .inl (cI, 20, .inl g1)), (kD, .inl (cI, 20, .inl g2)), (kE, .inl (cI, 20, .inl g3)), (kF, .inl (cI, 20, .inl g4))]) [0, 1, 2, 3, 4, 5, 6] (by decide) rfl
  have hKc := hK.sub (tys' := [(cI, .int)]) [0] rfl
  have hFc := va_free (wc := [(k0, .inr (10, [.ref kN, .ref kA, .ref kO, .ref kK, .ref kV, .ref kG, .ref kP, .ref kC, .ref kD, .ref kE, .ref kF, .ref kX, .ref kY, .int 0, .ref kT, .ref kU, .int 0, .int 0, .int 0])), (kN, .inl (cI, 2, .inl (fun _ => 0))), (kA, .inl (cI, 2, .inl (fun _ => 0))), (kC, .inl (cI, 20, .inl g1)), (kD, .inl (cI, 20, .inl g2)), (kE, .inl (cI, 20, .inl g3)), (kF, .inl (cI, 20, .inl g4))]) hD hS hA [0, 1, 2, 3, 4, 5, 6] rfl
  refine va_callv (va_runV (As := []) (rest := []) ⟨hx, hb, hml, hown, hts⟩ (kX7_colours l dC dI k0 kN kA kO kK kV kG kP kC kD kE kF kX kY kT kU cI g1 g2 g3 g4 H.size) (cwV 0 hts gX7_rounds_X7_colours rfl rfl rfl (by decide +kernel) ⟨Nat.le_of_ble_eq_true rfl, Nat.le_of_ble_eq_true rfl⟩) (fPreV hN hZ hS (fun q h => hFc q h) hPc hKc hDc (ci := 10) (q0 := 0) rfl rfl) rfl rfl hl.1 rfl (lv_room (Nat.le_of_ble_eq_true rfl)) dX7_rounds_6 ⟨Nat.le_of_ble_eq_true rfl, Nat.le_of_ble_eq_true rfl⟩) hS (fun q _ h => hFc q h) hFc (fun u t H1 locs ht hvm hw hB hz1 hk1 hS => ?_)
  obtain ⟨hP1, hK1, hD1⟩ := hB
  rw [ht] at hP1
  have hK1 := va_K.moved hvm.symm hK1
  obtain ⟨u1, u2⟩ := u
  obtain ⟨hP, hD⟩ := va_join (wr := []) (w1 := [(k0, .inr (10, [.ref kN, .ref kA, .ref kO, .ref kK, .ref kV, .ref kG, .ref kP, .ref kC, .ref kD, .ref kE, .ref kF, .ref kX, .ref kY, .int 0, .ref kT, .ref kU, .int 0, .int 0, .int 0])), (kN, .inl (cI, 2, .inl (fun _ => 0))), (kA, .inl (cI, 2, .inl (fun _ => 0))), (kC, .inl (cI, 20, .inl u1)), (kD, .inl (cI, 20, .inl u2))]) hP hD [0, 1, 2, 3, 4, 5, 6] [] rfl rfl (by decide) (by decide) hk1 hFc hP1 hD1
  generalize H1 = H at hP hS ⊢
  have hP : va_P (dC, dI) vwCl [(k0, .inr (10, [.ref kN, .ref kA, .ref kO, .ref kK, .ref kV, .ref kG, .ref kP, .ref kC, .ref kD, .ref kE, .ref kF, .ref kX, .ref kY, .int 0, .ref kT, .ref kU, .int 0, .int 0, .int 0])), (kN, .inl (cI, 2, .inl (fun _ => 0))), (kA, .inl (cI, 2, .inl (fun _ => 0))), (kC, .inl (cI, 20, .inl u1)), (kD, .inl (cI, 20, .inl u2))] _ := hP
  have hD : va_D A [(k0, .inr (10, [.ref kN, .ref kA, .ref kO, .ref kK, .ref kV, .ref kG, .ref kP, .ref kC, .ref kD, .ref kE, .ref kF, .ref kX, .ref kY, .int 0, .ref kT, .ref kU, .int 0, .int 0, .int 0])), (kN, .inl (cI, 2, .inl (fun _ => 0))), (kA, .inl (cI, 2, .inl (fun _ => 0))), (kC, .inl (cI, 20, .inl u1)), (kD, .inl (cI, 20, .inl u2))] := hD
  refine W.widen (k := 2) (n := 40) (Nat.le_of_ble_eq_true rfl) (Nat.le_of_ble_eq_true rfl) ?_
  have hu3 := hw
  refine lv_aload_n hx hb dX7_rounds_9 rfl (lv_at hl 0 rfl) ?_
  refine va_get (D := (dC, dI)) (ci := 10) (v := .int 0) (C := RX7) (T := TX7) (N := 19) hx hb hts (fun w h => List.mem_cons_of_mem _ (List.mem_append_left _ (List.mem_append_right _ (h)))) hown hK hP 0 rfl rfl 13 (by decide) (hts (.fieldLink RX7 218 "NetcompareModel" "roundMany" "I") (List.mem_cons_of_mem _ (List.mem_append_left _ (List.mem_append_left _ (List.mem_append_left _ (List.mem_of_getElem? (i := 1) rfl)))))) (fun _ h9 => h9) rfl dX7_rounds_10 ?_
  exact ret _ 0 _ _ _ _ _ _ (⟨rfl, rfl⟩) (hP.sub [0] rfl) (hK.sub [] rfl) (hD.sub [0] (by decide) rfl) hS (Nat.le_of_ble_eq_true rfl) (Nat.le_of_ble_eq_true rfl) dX7_rounds_13

set_option maxHeartbeats 4000000 in
set_option maxRecDepth 100000 in
/-- the model: netClasses on a fresh one -/
theorem kX7_netClasses (l : Launch) (dC : Nat → ClassId) (dI : Nat → Nat → Nat) (k0 kN kA kO kK kV kG kP kC kD kE kF kX kY kT kU : Nat) (cI : ClassId) (g1 g2 g3 g4 : Nat → Int32) (sz : Nat) : fMi l yX7_netClasses wsX7_netClasses ({ frames := 5, cells := 2, slots := 40, locals := 116 } : Room) dC dI [.ref k0] [(k0, .inr (10, [.ref kN, .ref kA, .ref kO, .ref kK, .ref kV, .ref kG, .ref kP, .ref kC, .ref kD, .ref kE, .ref kF, .ref kX, .ref kY, .int 0, .ref kT, .ref kU, .int 0, .int 0, .int 0])), (kN, .inl (cI, 2, .inl (fun _ => 0))), (kA, .inl (cI, 2, .inl (fun _ => 0))), (kC, .inl (cI, 20, .inl g1)), (kD, .inl (cI, 20, .inl g2)), (kE, .inl (cI, 20, .inl g3)), (kF, .inl (cI, 20, .inl g4))] [(cI, .int)] sz (fun (r : Int32) (u : Int32) => u = 0 ∧ r = 0) (fun u => [(k0, .inr (10, [.ref kN, .ref kA, .ref kO, .ref kK, .ref kV, .ref kG, .ref kP, .ref kC, .ref kD, .ref kE, .ref kF, .ref kX, .ref kY, .int 0, .ref kT, .ref kU, .int u, .int 0, .int 0]))]) (fun u => []) := by
  refine oP_i (y := yX7_netClasses) (cc := cX7_netClasses) (maxL := 1) (by decide) rfl (Nat.le_of_ble_eq_true rfl) ?_
  intro p e s m args below meth c ls A Q hx hb hr hml hown hts hN hZ hA hin hlk hP hK hD hl ret
  have hS : va_S A s.heap s.heap [] := va_S.rf
  have hl : lv_has ls 1 [(0, .ref k0)] := hl
  have hP : va_P (dC, dI) vwCl [(k0, .inr (10, [.ref kN, .ref kA, .ref kO, .ref kK, .ref kV, .ref kG, .ref kP, .ref kC, .ref kD, .ref kE, .ref kF, .ref kX, .ref kY, .int 0, .ref kT, .ref kU, .int 0, .int 0, .int 0])), (kN, .inl (cI, 2, .inl (fun _ => 0))), (kA, .inl (cI, 2, .inl (fun _ => 0))), (kC, .inl (cI, 20, .inl g1)), (kD, .inl (cI, 20, .inl g2)), (kE, .inl (cI, 20, .inl g3)), (kF, .inl (cI, 20, .inl g4))] _ := hP
  have hD : va_D A [(k0, .inr (10, [.ref kN, .ref kA, .ref kO, .ref kK, .ref kV, .ref kG, .ref kP, .ref kC, .ref kD, .ref kE, .ref kF, .ref kX, .ref kY, .int 0, .ref kT, .ref kU, .int 0, .int 0, .int 0])), (kN, .inl (cI, 2, .inl (fun _ => 0))), (kA, .inl (cI, 2, .inl (fun _ => 0))), (kC, .inl (cI, 20, .inl g1)), (kD, .inl (cI, 20, .inl g2)), (kE, .inl (cI, 20, .inl g3)), (kF, .inl (cI, 20, .inl g4))] := hD
  refine lv_aload_n hx hb dX7_netClasses_0 rfl (lv_at hl 0 rfl) ?_
  refine lv_iconst (v := 0) hx hb dX7_netClasses_1 (by decide) ?_
  refine va_put (D := (dC, dI)) (ci := 10) (v := .int 0) (ty := .int) (C := RX7) (T := TX7) (N := 19) hx hb hts (fun w h => List.mem_cons_of_mem _ (List.mem_append_left _ (List.mem_append_right _ (h)))) tyX7 tyX7_ok nmX7 hown hK hP hD hS 0 rfl rfl 16 (by decide) (hts (.fieldLink RX7 57 "NetcompareModel" "thrown" "I") (List.mem_cons_of_mem _ (List.mem_append_left _ (List.mem_append_left _ (List.mem_append_left _ (List.mem_of_getElem? (i := 0) rfl)))))) (fun _ h9 => h9) rfl (by decide +kernel) rfl rfl (Nat.le_of_ble_eq_true rfl) dX7_netClasses_2 (fun H locs hP hD hS => ?_)
  have hP : va_P (dC, dI) vwCl [(k0, .inr (10, [.ref kN, .ref kA, .ref kO, .ref kK, .ref kV, .ref kG, .ref kP, .ref kC, .ref kD, .ref kE, .ref kF, .ref kX, .ref kY, .int 0, .ref kT, .ref kU, .int 0, .int 0, .int 0])), (kN, .inl (cI, 2, .inl (fun _ => 0))), (kA, .inl (cI, 2, .inl (fun _ => 0))), (kC, .inl (cI, 20, .inl g1)), (kD, .inl (cI, 20, .inl g2)), (kE, .inl (cI, 20, .inl g3)), (kF, .inl (cI, 20, .inl g4))] _ := hP
  have hD : va_D A [(k0, .inr (10, [.ref kN, .ref kA, .ref kO, .ref kK, .ref kV, .ref kG, .ref kP, .ref kC, .ref kD, .ref kE, .ref kF, .ref kX, .ref kY, .int 0, .ref kT, .ref kU, .int 0, .int 0, .int 0])), (kN, .inl (cI, 2, .inl (fun _ => 0))), (kA, .inl (cI, 2, .inl (fun _ => 0))), (kC, .inl (cI, 20, .inl g1)), (kD, .inl (cI, 20, .inl g2)), (kE, .inl (cI, 20, .inl g3)), (kF, .inl (cI, 20, .inl g4))] := hD
  refine lv_aload_n hx hb dX7_netClasses_5 rfl (lv_at hl 0 rfl) ?_
  have hPc := hP.sub (ws' := [(k0, .inr (10, [.ref kN, .ref kA, .ref kO, .ref kK, .ref kV, .ref kG, .ref kP, .ref kC, .ref kD, .ref kE, .ref kF, .ref kX, .ref kY, .int 0, .ref kT, .ref kU, .int 0, .int 0, .int 0])), (kN, .inl (cI, 2, .inl (fun _ => 0))), (kA, .inl (cI, 2, .inl (fun _ => 0))), (kC, .inl (cI, 20, .inl g1)), (kD, .inl (cI, 20, .inl g2)), (kE, .inl (cI, 20, .inl g3)), (kF, .inl (cI, 20, .inl g4))]) [0, 1, 2, 3, 4, 5, 6] rfl
  have hDc := hD.sub (ws' := [(k0, .inr (10, [.ref kN, .ref kA, .ref kO, .ref kK, .ref kV, .ref kG, .ref kP, .ref kC, .ref kD, .ref kE, .ref kF, .ref kX, .ref kY, .int 0, .ref kT, .ref kU, .int 0, .int 0, .int 0])), (kN, .inl (cI, 2, .inl (fun _ => 0))), (kA, .inl (cI, 2, .inl (fun _ => 0))), (kC, .inl (cI, 20, .inl g1)), (kD, .inl (cI, 20, .inl g2)), (kE, .inl (cI, 20, .inl g3)), (kF, .inl (cI, 20, .inl g4))]) [0, 1, 2, 3, 4, 5, 6] (by decide) rfl
  have hKc := hK.sub (tys' := [(cI, .int)]) [0] rfl
  have hFc := va_free (wc := [(k0, .inr (10, [.ref kN, .ref kA, .ref kO, .ref kK, .ref kV, .ref kG, .ref kP, .ref kC, .ref kD, .ref kE, .ref kF, .ref kX, .ref kY, .int 0, .ref kT, .ref kU, .int 0, .int 0, .int 0])), (kN, .inl (cI, 2, .inl (fun _ => 0))), (kA, .inl (cI, 2, .inl (fun _ => 0))), (kC, .inl (cI, 20, .inl g1)), (kD, .inl (cI, 20, .inl g2)), (kE, .inl (cI, 20, .inl g3)), (kF, .inl (cI, 20, .inl g4))]) hD hS hA [0, 1, 2, 3, 4, 5, 6] rfl
  refine va_callv (va_runV (As := []) (rest := []) ⟨hx, hb, hml, hown, hts⟩ (kX7_colours l dC dI k0 kN kA kO kK kV kG kP kC kD kE kF kX kY kT kU cI g1 g2 g3 g4 H.size) (cwV 0 hts gX7_netClasses_X7_colours rfl rfl rfl (by decide +kernel) ⟨Nat.le_of_ble_eq_true rfl, Nat.le_of_ble_eq_true rfl⟩) (fPreV hN hZ hS (fun q h => hFc q h) hPc hKc hDc (ci := 10) (q0 := 0) rfl rfl) rfl rfl hl.1 rfl (lv_room (Nat.le_of_ble_eq_true rfl)) dX7_netClasses_6 ⟨Nat.le_of_ble_eq_true rfl, Nat.le_of_ble_eq_true rfl⟩) hS (fun q _ h => hFc q h) hFc (fun u t H1 locs ht hvm hw hB hz1 hk1 hS => ?_)
  obtain ⟨hP1, hK1, hD1⟩ := hB
  rw [ht] at hP1
  have hK1 := va_K.moved hvm.symm hK1
  obtain ⟨u1, u2⟩ := u
  obtain ⟨hP, hD⟩ := va_join (wr := []) (w1 := [(k0, .inr (10, [.ref kN, .ref kA, .ref kO, .ref kK, .ref kV, .ref kG, .ref kP, .ref kC, .ref kD, .ref kE, .ref kF, .ref kX, .ref kY, .int 0, .ref kT, .ref kU, .int 0, .int 0, .int 0])), (kN, .inl (cI, 2, .inl (fun _ => 0))), (kA, .inl (cI, 2, .inl (fun _ => 0))), (kC, .inl (cI, 20, .inl u1)), (kD, .inl (cI, 20, .inl u2))]) hP hD [0, 1, 2, 3, 4, 5, 6] [] rfl rfl (by decide) (by decide) hk1 hFc hP1 hD1
  generalize H1 = H at hP hS ⊢
  have hP : va_P (dC, dI) vwCl [(k0, .inr (10, [.ref kN, .ref kA, .ref kO, .ref kK, .ref kV, .ref kG, .ref kP, .ref kC, .ref kD, .ref kE, .ref kF, .ref kX, .ref kY, .int 0, .ref kT, .ref kU, .int 0, .int 0, .int 0])), (kN, .inl (cI, 2, .inl (fun _ => 0))), (kA, .inl (cI, 2, .inl (fun _ => 0))), (kC, .inl (cI, 20, .inl u1)), (kD, .inl (cI, 20, .inl u2))] _ := hP
  have hD : va_D A [(k0, .inr (10, [.ref kN, .ref kA, .ref kO, .ref kK, .ref kV, .ref kG, .ref kP, .ref kC, .ref kD, .ref kE, .ref kF, .ref kX, .ref kY, .int 0, .ref kT, .ref kU, .int 0, .int 0, .int 0])), (kN, .inl (cI, 2, .inl (fun _ => 0))), (kA, .inl (cI, 2, .inl (fun _ => 0))), (kC, .inl (cI, 20, .inl u1)), (kD, .inl (cI, 20, .inl u2))] := hD
  refine W.widen (k := 2) (n := 40) (Nat.le_of_ble_eq_true rfl) (Nat.le_of_ble_eq_true rfl) ?_
  have hu3 := hw
  refine lv_aload_n hx hb dX7_netClasses_9 rfl (lv_at hl 0 rfl) ?_
  refine va_get (D := (dC, dI)) (ci := 10) (v := .ref kC) (C := RX7) (T := TX7) (N := 19) hx hb hts (fun w h => List.mem_cons_of_mem _ (List.mem_append_left _ (List.mem_append_right _ (h)))) hown hK hP 0 rfl rfl 7 (by decide) (hts (.fieldLink RX7 33 "NetcompareModel" "netColours" "[I") (List.mem_cons_of_mem _ (List.mem_append_left _ (List.mem_append_left _ (List.mem_append_left _ (List.mem_of_getElem? (i := 1) rfl)))))) (fun _ h9 => h9) rfl dX7_netClasses_10 ?_
  have hPc := hP.sub (ws' := [(kC, .inl (cI, 20, .inl u1))]) [3] rfl
  have hDc := hD.sub (ws' := [(kC, .inl (cI, 20, .inl u1))]) [3] (by decide) rfl
  have hKc := hK.sub (tys' := [(cI, .int)]) [0] rfl
  have hFc := va_free (wc := [(kC, .inl (cI, 20, .inl u1))]) hD hS hA [3] rfl
  refine va_calli (va_runS (As := [.ref kC]) (rest := []) ⟨hx, hb, hml, hown, hts⟩ (kX7_classes l dC dI kC cI u1 H.size hu3.1) (va_cwS 1 hts gX7_netClasses_X7_classes rfl rfl rfl (by decide +kernel) ⟨Nat.le_of_ble_eq_true rfl, Nat.le_of_ble_eq_true rfl⟩) (fPreS hN hZ hS (fun q h => hFc q h) hPc hKc hDc) rfl rfl hl.1 rfl (lv_room (Nat.le_of_ble_eq_true rfl)) dX7_netClasses_13 ⟨Nat.le_of_ble_eq_true rfl, Nat.le_of_ble_eq_true rfl⟩) hS (fun q _ h => hFc q h) hFc (fun r u t H1 locs ht hvm hw hB hz1 hk1 hS => ?_)
  obtain ⟨hP1, hK1, hD1⟩ := hB
  rw [ht] at hP1
  have hK1 := va_K.moved hvm.symm hK1
  obtain ⟨hP, hD⟩ := va_join (wr := [(k0, .inr (10, [.ref kN, .ref kA, .ref kO, .ref kK, .ref kV, .ref kG, .ref kP, .ref kC, .ref kD, .ref kE, .ref kF, .ref kX, .ref kY, .int 0, .ref kT, .ref kU, .int 0, .int 0, .int 0])), (kN, .inl (cI, 2, .inl (fun _ => 0))), (kA, .inl (cI, 2, .inl (fun _ => 0))), (kD, .inl (cI, 20, .inl u2))]) (w1 := [(kC, .inl (cI, 20, .inl u1))]) hP hD [3] [0, 1, 2, 4] rfl rfl (by decide) (by decide) hk1 hFc hP1 hD1
  generalize H1 = H at hP hS ⊢
  have hP : va_P (dC, dI) vwCl [(k0, .inr (10, [.ref kN, .ref kA, .ref kO, .ref kK, .ref kV, .ref kG, .ref kP, .ref kC, .ref kD, .ref kE, .ref kF, .ref kX, .ref kY, .int 0, .ref kT, .ref kU, .int 0, .int 0, .int 0])), (kN, .inl (cI, 2, .inl (fun _ => 0))), (kA, .inl (cI, 2, .inl (fun _ => 0))), (kD, .inl (cI, 20, .inl u2)), (kC, .inl (cI, 20, .inl u1))] _ := hP
  have hD : va_D A [(k0, .inr (10, [.ref kN, .ref kA, .ref kO, .ref kK, .ref kV, .ref kG, .ref kP, .ref kC, .ref kD, .ref kE, .ref kF, .ref kX, .ref kY, .int 0, .ref kT, .ref kU, .int 0, .int 0, .int 0])), (kN, .inl (cI, 2, .inl (fun _ => 0))), (kA, .inl (cI, 2, .inl (fun _ => 0))), (kD, .inl (cI, 20, .inl u2)), (kC, .inl (cI, 20, .inl u1))] := hD
  subst hw
  exact ret _ 0 _ _ _ _ _ _ (⟨rfl, rfl⟩) (hP.sub [0] rfl) (hK.sub [] rfl) (hD.sub [0] (by decide) rfl) hS (Nat.le_of_ble_eq_true rfl) (Nat.le_of_ble_eq_true rfl) dX7_netClasses_16

set_option maxHeartbeats 4000000 in
set_option maxRecDepth 100000 in
/-- the model: partClasses on a fresh one -/
theorem kX7_partClasses (l : Launch) (dC : Nat → ClassId) (dI : Nat → Nat → Nat) (k0 kN kA kO kK kV kG kP kC kD kE kF kX kY kT kU : Nat) (cI : ClassId) (g1 g2 g3 g4 : Nat → Int32) (sz : Nat) : fMi l yX7_partClasses wsX7_partClasses ({ frames := 5, cells := 2, slots := 40, locals := 116 } : Room) dC dI [.ref k0] [(k0, .inr (10, [.ref kN, .ref kA, .ref kO, .ref kK, .ref kV, .ref kG, .ref kP, .ref kC, .ref kD, .ref kE, .ref kF, .ref kX, .ref kY, .int 0, .ref kT, .ref kU, .int 0, .int 0, .int 0])), (kN, .inl (cI, 2, .inl (fun _ => 0))), (kA, .inl (cI, 2, .inl (fun _ => 0))), (kC, .inl (cI, 20, .inl g1)), (kD, .inl (cI, 20, .inl g2)), (kE, .inl (cI, 20, .inl g3)), (kF, .inl (cI, 20, .inl g4))] [(cI, .int)] sz (fun (r : Int32) (u : Int32) => u = 0 ∧ r = 0) (fun u => [(k0, .inr (10, [.ref kN, .ref kA, .ref kO, .ref kK, .ref kV, .ref kG, .ref kP, .ref kC, .ref kD, .ref kE, .ref kF, .ref kX, .ref kY, .int 0, .ref kT, .ref kU, .int u, .int 0, .int 0]))]) (fun u => []) := by
  refine oP_i (y := yX7_partClasses) (cc := cX7_partClasses) (maxL := 1) (by decide) rfl (Nat.le_of_ble_eq_true rfl) ?_
  intro p e s m args below meth c ls A Q hx hb hr hml hown hts hN hZ hA hin hlk hP hK hD hl ret
  have hS : va_S A s.heap s.heap [] := va_S.rf
  have hl : lv_has ls 1 [(0, .ref k0)] := hl
  have hP : va_P (dC, dI) vwCl [(k0, .inr (10, [.ref kN, .ref kA, .ref kO, .ref kK, .ref kV, .ref kG, .ref kP, .ref kC, .ref kD, .ref kE, .ref kF, .ref kX, .ref kY, .int 0, .ref kT, .ref kU, .int 0, .int 0, .int 0])), (kN, .inl (cI, 2, .inl (fun _ => 0))), (kA, .inl (cI, 2, .inl (fun _ => 0))), (kC, .inl (cI, 20, .inl g1)), (kD, .inl (cI, 20, .inl g2)), (kE, .inl (cI, 20, .inl g3)), (kF, .inl (cI, 20, .inl g4))] _ := hP
  have hD : va_D A [(k0, .inr (10, [.ref kN, .ref kA, .ref kO, .ref kK, .ref kV, .ref kG, .ref kP, .ref kC, .ref kD, .ref kE, .ref kF, .ref kX, .ref kY, .int 0, .ref kT, .ref kU, .int 0, .int 0, .int 0])), (kN, .inl (cI, 2, .inl (fun _ => 0))), (kA, .inl (cI, 2, .inl (fun _ => 0))), (kC, .inl (cI, 20, .inl g1)), (kD, .inl (cI, 20, .inl g2)), (kE, .inl (cI, 20, .inl g3)), (kF, .inl (cI, 20, .inl g4))] := hD
  refine lv_aload_n hx hb dX7_partClasses_0 rfl (lv_at hl 0 rfl) ?_
  refine lv_iconst (v := 0) hx hb dX7_partClasses_1 (by decide) ?_
  refine va_put (D := (dC, dI)) (ci := 10) (v := .int 0) (ty := .int) (C := RX7) (T := TX7) (N := 19) hx hb hts (fun w h => List.mem_cons_of_mem _ (List.mem_append_left _ (List.mem_append_right _ (h)))) tyX7 tyX7_ok nmX7 hown hK hP hD hS 0 rfl rfl 16 (by decide) (hts (.fieldLink RX7 57 "NetcompareModel" "thrown" "I") (List.mem_cons_of_mem _ (List.mem_append_left _ (List.mem_append_left _ (List.mem_append_left _ (List.mem_of_getElem? (i := 0) rfl)))))) (fun _ h9 => h9) rfl (by decide +kernel) rfl rfl (Nat.le_of_ble_eq_true rfl) dX7_partClasses_2 (fun H locs hP hD hS => ?_)
  have hP : va_P (dC, dI) vwCl [(k0, .inr (10, [.ref kN, .ref kA, .ref kO, .ref kK, .ref kV, .ref kG, .ref kP, .ref kC, .ref kD, .ref kE, .ref kF, .ref kX, .ref kY, .int 0, .ref kT, .ref kU, .int 0, .int 0, .int 0])), (kN, .inl (cI, 2, .inl (fun _ => 0))), (kA, .inl (cI, 2, .inl (fun _ => 0))), (kC, .inl (cI, 20, .inl g1)), (kD, .inl (cI, 20, .inl g2)), (kE, .inl (cI, 20, .inl g3)), (kF, .inl (cI, 20, .inl g4))] _ := hP
  have hD : va_D A [(k0, .inr (10, [.ref kN, .ref kA, .ref kO, .ref kK, .ref kV, .ref kG, .ref kP, .ref kC, .ref kD, .ref kE, .ref kF, .ref kX, .ref kY, .int 0, .ref kT, .ref kU, .int 0, .int 0, .int 0])), (kN, .inl (cI, 2, .inl (fun _ => 0))), (kA, .inl (cI, 2, .inl (fun _ => 0))), (kC, .inl (cI, 20, .inl g1)), (kD, .inl (cI, 20, .inl g2)), (kE, .inl (cI, 20, .inl g3)), (kF, .inl (cI, 20, .inl g4))] := hD
  refine lv_aload_n hx hb dX7_partClasses_5 rfl (lv_at hl 0 rfl) ?_
  have hPc := hP.sub (ws' := [(k0, .inr (10, [.ref kN, .ref kA, .ref kO, .ref kK, .ref kV, .ref kG, .ref kP, .ref kC, .ref kD, .ref kE, .ref kF, .ref kX, .ref kY, .int 0, .ref kT, .ref kU, .int 0, .int 0, .int 0])), (kN, .inl (cI, 2, .inl (fun _ => 0))), (kA, .inl (cI, 2, .inl (fun _ => 0))), (kC, .inl (cI, 20, .inl g1)), (kD, .inl (cI, 20, .inl g2)), (kE, .inl (cI, 20, .inl g3)), (kF, .inl (cI, 20, .inl g4))]) [0, 1, 2, 3, 4, 5, 6] rfl
  have hDc := hD.sub (ws' := [(k0, .inr (10, [.ref kN, .ref kA, .ref kO, .ref kK, .ref kV, .ref kG, .ref kP, .ref kC, .ref kD, .ref kE, .ref kF, .ref kX, .ref kY, .int 0, .ref kT, .ref kU, .int 0, .int 0, .int 0])), (kN, .inl (cI, 2, .inl (fun _ => 0))), (kA, .inl (cI, 2, .inl (fun _ => 0))), (kC, .inl (cI, 20, .inl g1)), (kD, .inl (cI, 20, .inl g2)), (kE, .inl (cI, 20, .inl g3)), (kF, .inl (cI, 20, .inl g4))]) [0, 1, 2, 3, 4, 5, 6] (by decide) rfl
  have hKc := hK.sub (tys' := [(cI, .int)]) [0] rfl
  have hFc := va_free (wc := [(k0, .inr (10, [.ref kN, .ref kA, .ref kO, .ref kK, .ref kV, .ref kG, .ref kP, .ref kC, .ref kD, .ref kE, .ref kF, .ref kX, .ref kY, .int 0, .ref kT, .ref kU, .int 0, .int 0, .int 0])), (kN, .inl (cI, 2, .inl (fun _ => 0))), (kA, .inl (cI, 2, .inl (fun _ => 0))), (kC, .inl (cI, 20, .inl g1)), (kD, .inl (cI, 20, .inl g2)), (kE, .inl (cI, 20, .inl g3)), (kF, .inl (cI, 20, .inl g4))]) hD hS hA [0, 1, 2, 3, 4, 5, 6] rfl
  refine va_callv (va_runV (As := []) (rest := []) ⟨hx, hb, hml, hown, hts⟩ (kX7_colours l dC dI k0 kN kA kO kK kV kG kP kC kD kE kF kX kY kT kU cI g1 g2 g3 g4 H.size) (cwV 0 hts gX7_partClasses_X7_colours rfl rfl rfl (by decide +kernel) ⟨Nat.le_of_ble_eq_true rfl, Nat.le_of_ble_eq_true rfl⟩) (fPreV hN hZ hS (fun q h => hFc q h) hPc hKc hDc (ci := 10) (q0 := 0) rfl rfl) rfl rfl hl.1 rfl (lv_room (Nat.le_of_ble_eq_true rfl)) dX7_partClasses_6 ⟨Nat.le_of_ble_eq_true rfl, Nat.le_of_ble_eq_true rfl⟩) hS (fun q _ h => hFc q h) hFc (fun u t H1 locs ht hvm hw hB hz1 hk1 hS => ?_)
  obtain ⟨hP1, hK1, hD1⟩ := hB
  rw [ht] at hP1
  have hK1 := va_K.moved hvm.symm hK1
  obtain ⟨u1, u2⟩ := u
  obtain ⟨hP, hD⟩ := va_join (wr := []) (w1 := [(k0, .inr (10, [.ref kN, .ref kA, .ref kO, .ref kK, .ref kV, .ref kG, .ref kP, .ref kC, .ref kD, .ref kE, .ref kF, .ref kX, .ref kY, .int 0, .ref kT, .ref kU, .int 0, .int 0, .int 0])), (kN, .inl (cI, 2, .inl (fun _ => 0))), (kA, .inl (cI, 2, .inl (fun _ => 0))), (kC, .inl (cI, 20, .inl u1)), (kD, .inl (cI, 20, .inl u2))]) hP hD [0, 1, 2, 3, 4, 5, 6] [] rfl rfl (by decide) (by decide) hk1 hFc hP1 hD1
  generalize H1 = H at hP hS ⊢
  have hP : va_P (dC, dI) vwCl [(k0, .inr (10, [.ref kN, .ref kA, .ref kO, .ref kK, .ref kV, .ref kG, .ref kP, .ref kC, .ref kD, .ref kE, .ref kF, .ref kX, .ref kY, .int 0, .ref kT, .ref kU, .int 0, .int 0, .int 0])), (kN, .inl (cI, 2, .inl (fun _ => 0))), (kA, .inl (cI, 2, .inl (fun _ => 0))), (kC, .inl (cI, 20, .inl u1)), (kD, .inl (cI, 20, .inl u2))] _ := hP
  have hD : va_D A [(k0, .inr (10, [.ref kN, .ref kA, .ref kO, .ref kK, .ref kV, .ref kG, .ref kP, .ref kC, .ref kD, .ref kE, .ref kF, .ref kX, .ref kY, .int 0, .ref kT, .ref kU, .int 0, .int 0, .int 0])), (kN, .inl (cI, 2, .inl (fun _ => 0))), (kA, .inl (cI, 2, .inl (fun _ => 0))), (kC, .inl (cI, 20, .inl u1)), (kD, .inl (cI, 20, .inl u2))] := hD
  refine W.widen (k := 2) (n := 40) (Nat.le_of_ble_eq_true rfl) (Nat.le_of_ble_eq_true rfl) ?_
  have hu3 := hw
  refine lv_aload_n hx hb dX7_partClasses_9 rfl (lv_at hl 0 rfl) ?_
  refine va_get (D := (dC, dI)) (ci := 10) (v := .ref kD) (C := RX7) (T := TX7) (N := 19) hx hb hts (fun w h => List.mem_cons_of_mem _ (List.mem_append_left _ (List.mem_append_right _ (h)))) hown hK hP 0 rfl rfl 8 (by decide) (hts (.fieldLink RX7 36 "NetcompareModel" "partColours" "[I") (List.mem_cons_of_mem _ (List.mem_append_left _ (List.mem_append_left _ (List.mem_append_left _ (List.mem_of_getElem? (i := 1) rfl)))))) (fun _ h9 => h9) rfl dX7_partClasses_10 ?_
  have hPc := hP.sub (ws' := [(kD, .inl (cI, 20, .inl u2))]) [4] rfl
  have hDc := hD.sub (ws' := [(kD, .inl (cI, 20, .inl u2))]) [4] (by decide) rfl
  have hKc := hK.sub (tys' := [(cI, .int)]) [0] rfl
  have hFc := va_free (wc := [(kD, .inl (cI, 20, .inl u2))]) hD hS hA [4] rfl
  refine va_calli (va_runS (As := [.ref kD]) (rest := []) ⟨hx, hb, hml, hown, hts⟩ (kX7_classes l dC dI kD cI u2 H.size hu3.2) (va_cwS 1 hts gX7_partClasses_X7_classes rfl rfl rfl (by decide +kernel) ⟨Nat.le_of_ble_eq_true rfl, Nat.le_of_ble_eq_true rfl⟩) (fPreS hN hZ hS (fun q h => hFc q h) hPc hKc hDc) rfl rfl hl.1 rfl (lv_room (Nat.le_of_ble_eq_true rfl)) dX7_partClasses_13 ⟨Nat.le_of_ble_eq_true rfl, Nat.le_of_ble_eq_true rfl⟩) hS (fun q _ h => hFc q h) hFc (fun r u t H1 locs ht hvm hw hB hz1 hk1 hS => ?_)
  obtain ⟨hP1, hK1, hD1⟩ := hB
  rw [ht] at hP1
  have hK1 := va_K.moved hvm.symm hK1
  obtain ⟨hP, hD⟩ := va_join (wr := [(k0, .inr (10, [.ref kN, .ref kA, .ref kO, .ref kK, .ref kV, .ref kG, .ref kP, .ref kC, .ref kD, .ref kE, .ref kF, .ref kX, .ref kY, .int 0, .ref kT, .ref kU, .int 0, .int 0, .int 0])), (kN, .inl (cI, 2, .inl (fun _ => 0))), (kA, .inl (cI, 2, .inl (fun _ => 0))), (kC, .inl (cI, 20, .inl u1))]) (w1 := [(kD, .inl (cI, 20, .inl u2))]) hP hD [4] [0, 1, 2, 3] rfl rfl (by decide) (by decide) hk1 hFc hP1 hD1
  generalize H1 = H at hP hS ⊢
  have hP : va_P (dC, dI) vwCl [(k0, .inr (10, [.ref kN, .ref kA, .ref kO, .ref kK, .ref kV, .ref kG, .ref kP, .ref kC, .ref kD, .ref kE, .ref kF, .ref kX, .ref kY, .int 0, .ref kT, .ref kU, .int 0, .int 0, .int 0])), (kN, .inl (cI, 2, .inl (fun _ => 0))), (kA, .inl (cI, 2, .inl (fun _ => 0))), (kC, .inl (cI, 20, .inl u1)), (kD, .inl (cI, 20, .inl u2))] _ := hP
  have hD : va_D A [(k0, .inr (10, [.ref kN, .ref kA, .ref kO, .ref kK, .ref kV, .ref kG, .ref kP, .ref kC, .ref kD, .ref kE, .ref kF, .ref kX, .ref kY, .int 0, .ref kT, .ref kU, .int 0, .int 0, .int 0])), (kN, .inl (cI, 2, .inl (fun _ => 0))), (kA, .inl (cI, 2, .inl (fun _ => 0))), (kC, .inl (cI, 20, .inl u1)), (kD, .inl (cI, 20, .inl u2))] := hD
  subst hw
  exact ret _ 0 _ _ _ _ _ _ (⟨rfl, rfl⟩) (hP.sub [0] rfl) (hK.sub [] rfl) (hD.sub [0] (by decide) rfl) hS (Nat.le_of_ble_eq_true rfl) (Nat.le_of_ble_eq_true rfl) dX7_partClasses_16

set_option maxHeartbeats 4000000 in
set_option maxRecDepth 100000 in
/-- the model: differences on a fresh one -/
theorem kX7_differences (l : Launch) (dC : Nat → ClassId) (dI : Nat → Nat → Nat) (k0 kN kA kO kK kV kG kP kC kD kE kF kX kY kT kU : Nat) (cI : ClassId) (g1 g2 g3 g4 : Nat → Int32) (sz : Nat) : fMi l yX7_differences wsX7_differences ({ frames := 5, cells := 2, slots := 40, locals := 116 } : Room) dC dI [.ref k0] [(k0, .inr (10, [.ref kN, .ref kA, .ref kO, .ref kK, .ref kV, .ref kG, .ref kP, .ref kC, .ref kD, .ref kE, .ref kF, .ref kX, .ref kY, .int 0, .ref kT, .ref kU, .int 0, .int 0, .int 0])), (kN, .inl (cI, 2, .inl (fun _ => 0))), (kA, .inl (cI, 2, .inl (fun _ => 0))), (kC, .inl (cI, 20, .inl g1)), (kD, .inl (cI, 20, .inl g2)), (kE, .inl (cI, 20, .inl g3)), (kF, .inl (cI, 20, .inl g4))] [(cI, .int)] sz (fun (r : Int32) (u : Int32) => u = 0 ∧ r = 0) (fun u => [(k0, .inr (10, [.ref kN, .ref kA, .ref kO, .ref kK, .ref kV, .ref kG, .ref kP, .ref kC, .ref kD, .ref kE, .ref kF, .ref kX, .ref kY, .int 0, .ref kT, .ref kU, .int u, .int 0, .int 0]))]) (fun u => []) := by
  refine oP_i (y := yX7_differences) (cc := cX7_differences) (maxL := 1) (by decide) rfl (Nat.le_of_ble_eq_true rfl) ?_
  intro p e s m args below meth c ls A Q hx hb hr hml hown hts hN hZ hA hin hlk hP hK hD hl ret
  have hS : va_S A s.heap s.heap [] := va_S.rf
  have hl : lv_has ls 1 [(0, .ref k0)] := hl
  have hP : va_P (dC, dI) vwCl [(k0, .inr (10, [.ref kN, .ref kA, .ref kO, .ref kK, .ref kV, .ref kG, .ref kP, .ref kC, .ref kD, .ref kE, .ref kF, .ref kX, .ref kY, .int 0, .ref kT, .ref kU, .int 0, .int 0, .int 0])), (kN, .inl (cI, 2, .inl (fun _ => 0))), (kA, .inl (cI, 2, .inl (fun _ => 0))), (kC, .inl (cI, 20, .inl g1)), (kD, .inl (cI, 20, .inl g2)), (kE, .inl (cI, 20, .inl g3)), (kF, .inl (cI, 20, .inl g4))] _ := hP
  have hD : va_D A [(k0, .inr (10, [.ref kN, .ref kA, .ref kO, .ref kK, .ref kV, .ref kG, .ref kP, .ref kC, .ref kD, .ref kE, .ref kF, .ref kX, .ref kY, .int 0, .ref kT, .ref kU, .int 0, .int 0, .int 0])), (kN, .inl (cI, 2, .inl (fun _ => 0))), (kA, .inl (cI, 2, .inl (fun _ => 0))), (kC, .inl (cI, 20, .inl g1)), (kD, .inl (cI, 20, .inl g2)), (kE, .inl (cI, 20, .inl g3)), (kF, .inl (cI, 20, .inl g4))] := hD
  refine lv_aload_n hx hb dX7_differences_0 rfl (lv_at hl 0 rfl) ?_
  refine lv_iconst (v := 0) hx hb dX7_differences_1 (by decide) ?_
  refine va_put (D := (dC, dI)) (ci := 10) (v := .int 0) (ty := .int) (C := RX7) (T := TX7) (N := 19) hx hb hts (fun w h => List.mem_cons_of_mem _ (List.mem_append_left _ (List.mem_append_right _ (h)))) tyX7 tyX7_ok nmX7 hown hK hP hD hS 0 rfl rfl 16 (by decide) (hts (.fieldLink RX7 57 "NetcompareModel" "thrown" "I") (List.mem_cons_of_mem _ (List.mem_append_left _ (List.mem_append_left _ (List.mem_append_left _ (List.mem_of_getElem? (i := 0) rfl)))))) (fun _ h9 => h9) rfl (by decide +kernel) rfl rfl (Nat.le_of_ble_eq_true rfl) dX7_differences_2 (fun H locs hP hD hS => ?_)
  have hP : va_P (dC, dI) vwCl [(k0, .inr (10, [.ref kN, .ref kA, .ref kO, .ref kK, .ref kV, .ref kG, .ref kP, .ref kC, .ref kD, .ref kE, .ref kF, .ref kX, .ref kY, .int 0, .ref kT, .ref kU, .int 0, .int 0, .int 0])), (kN, .inl (cI, 2, .inl (fun _ => 0))), (kA, .inl (cI, 2, .inl (fun _ => 0))), (kC, .inl (cI, 20, .inl g1)), (kD, .inl (cI, 20, .inl g2)), (kE, .inl (cI, 20, .inl g3)), (kF, .inl (cI, 20, .inl g4))] _ := hP
  have hD : va_D A [(k0, .inr (10, [.ref kN, .ref kA, .ref kO, .ref kK, .ref kV, .ref kG, .ref kP, .ref kC, .ref kD, .ref kE, .ref kF, .ref kX, .ref kY, .int 0, .ref kT, .ref kU, .int 0, .int 0, .int 0])), (kN, .inl (cI, 2, .inl (fun _ => 0))), (kA, .inl (cI, 2, .inl (fun _ => 0))), (kC, .inl (cI, 20, .inl g1)), (kD, .inl (cI, 20, .inl g2)), (kE, .inl (cI, 20, .inl g3)), (kF, .inl (cI, 20, .inl g4))] := hD
  refine lv_aload_n hx hb dX7_differences_5 rfl (lv_at hl 0 rfl) ?_
  have hPc := hP.sub (ws' := [(k0, .inr (10, [.ref kN, .ref kA, .ref kO, .ref kK, .ref kV, .ref kG, .ref kP, .ref kC, .ref kD, .ref kE, .ref kF, .ref kX, .ref kY, .int 0, .ref kT, .ref kU, .int 0, .int 0, .int 0])), (kN, .inl (cI, 2, .inl (fun _ => 0))), (kA, .inl (cI, 2, .inl (fun _ => 0))), (kC, .inl (cI, 20, .inl g1)), (kD, .inl (cI, 20, .inl g2)), (kE, .inl (cI, 20, .inl g3)), (kF, .inl (cI, 20, .inl g4))]) [0, 1, 2, 3, 4, 5, 6] rfl
  have hDc := hD.sub (ws' := [(k0, .inr (10, [.ref kN, .ref kA, .ref kO, .ref kK, .ref kV, .ref kG, .ref kP, .ref kC, .ref kD, .ref kE, .ref kF, .ref kX, .ref kY, .int 0, .ref kT, .ref kU, .int 0, .int 0, .int 0])), (kN, .inl (cI, 2, .inl (fun _ => 0))), (kA, .inl (cI, 2, .inl (fun _ => 0))), (kC, .inl (cI, 20, .inl g1)), (kD, .inl (cI, 20, .inl g2)), (kE, .inl (cI, 20, .inl g3)), (kF, .inl (cI, 20, .inl g4))]) [0, 1, 2, 3, 4, 5, 6] (by decide) rfl
  have hKc := hK.sub (tys' := [(cI, .int)]) [0] rfl
  have hFc := va_free (wc := [(k0, .inr (10, [.ref kN, .ref kA, .ref kO, .ref kK, .ref kV, .ref kG, .ref kP, .ref kC, .ref kD, .ref kE, .ref kF, .ref kX, .ref kY, .int 0, .ref kT, .ref kU, .int 0, .int 0, .int 0])), (kN, .inl (cI, 2, .inl (fun _ => 0))), (kA, .inl (cI, 2, .inl (fun _ => 0))), (kC, .inl (cI, 20, .inl g1)), (kD, .inl (cI, 20, .inl g2)), (kE, .inl (cI, 20, .inl g3)), (kF, .inl (cI, 20, .inl g4))]) hD hS hA [0, 1, 2, 3, 4, 5, 6] rfl
  refine va_callv (va_runV (As := []) (rest := []) ⟨hx, hb, hml, hown, hts⟩ (kX7_colours l dC dI k0 kN kA kO kK kV kG kP kC kD kE kF kX kY kT kU cI g1 g2 g3 g4 H.size) (cwV 0 hts gX7_differences_X7_colours rfl rfl rfl (by decide +kernel) ⟨Nat.le_of_ble_eq_true rfl, Nat.le_of_ble_eq_true rfl⟩) (fPreV hN hZ hS (fun q h => hFc q h) hPc hKc hDc (ci := 10) (q0 := 0) rfl rfl) rfl rfl hl.1 rfl (lv_room (Nat.le_of_ble_eq_true rfl)) dX7_differences_6 ⟨Nat.le_of_ble_eq_true rfl, Nat.le_of_ble_eq_true rfl⟩) hS (fun q _ h => hFc q h) hFc (fun u t H1 locs ht hvm hw hB hz1 hk1 hS => ?_)
  obtain ⟨hP1, hK1, hD1⟩ := hB
  rw [ht] at hP1
  have hK1 := va_K.moved hvm.symm hK1
  obtain ⟨u1, u2⟩ := u
  obtain ⟨hP, hD⟩ := va_join (wr := []) (w1 := [(k0, .inr (10, [.ref kN, .ref kA, .ref kO, .ref kK, .ref kV, .ref kG, .ref kP, .ref kC, .ref kD, .ref kE, .ref kF, .ref kX, .ref kY, .int 0, .ref kT, .ref kU, .int 0, .int 0, .int 0])), (kN, .inl (cI, 2, .inl (fun _ => 0))), (kA, .inl (cI, 2, .inl (fun _ => 0))), (kC, .inl (cI, 20, .inl u1)), (kD, .inl (cI, 20, .inl u2))]) hP hD [0, 1, 2, 3, 4, 5, 6] [] rfl rfl (by decide) (by decide) hk1 hFc hP1 hD1
  generalize H1 = H at hP hS ⊢
  have hP : va_P (dC, dI) vwCl [(k0, .inr (10, [.ref kN, .ref kA, .ref kO, .ref kK, .ref kV, .ref kG, .ref kP, .ref kC, .ref kD, .ref kE, .ref kF, .ref kX, .ref kY, .int 0, .ref kT, .ref kU, .int 0, .int 0, .int 0])), (kN, .inl (cI, 2, .inl (fun _ => 0))), (kA, .inl (cI, 2, .inl (fun _ => 0))), (kC, .inl (cI, 20, .inl u1)), (kD, .inl (cI, 20, .inl u2))] _ := hP
  have hD : va_D A [(k0, .inr (10, [.ref kN, .ref kA, .ref kO, .ref kK, .ref kV, .ref kG, .ref kP, .ref kC, .ref kD, .ref kE, .ref kF, .ref kX, .ref kY, .int 0, .ref kT, .ref kU, .int 0, .int 0, .int 0])), (kN, .inl (cI, 2, .inl (fun _ => 0))), (kA, .inl (cI, 2, .inl (fun _ => 0))), (kC, .inl (cI, 20, .inl u1)), (kD, .inl (cI, 20, .inl u2))] := hD
  refine W.widen (k := 2) (n := 40) (Nat.le_of_ble_eq_true rfl) (Nat.le_of_ble_eq_true rfl) ?_
  have hu3 := hw
  refine lv_aload_n hx hb dX7_differences_9 rfl (lv_at hl 0 rfl) ?_
  have hPc := hP.sub (ws' := [(k0, .inr (10, [.ref kN, .ref kA, .ref kO, .ref kK, .ref kV, .ref kG, .ref kP, .ref kC, .ref kD, .ref kE, .ref kF, .ref kX, .ref kY, .int 0, .ref kT, .ref kU, .int 0, .int 0, .int 0])), (kC, .inl (cI, 20, .inl u1)), (kD, .inl (cI, 20, .inl u2))]) [0, 3, 4] rfl
  have hDc := hD.sub (ws' := [(k0, .inr (10, [.ref kN, .ref kA, .ref kO, .ref kK, .ref kV, .ref kG, .ref kP, .ref kC, .ref kD, .ref kE, .ref kF, .ref kX, .ref kY, .int 0, .ref kT, .ref kU, .int 0, .int 0, .int 0])), (kC, .inl (cI, 20, .inl u1)), (kD, .inl (cI, 20, .inl u2))]) [0, 3, 4] (by decide) rfl
  have hKc := hK.sub (tys' := [(cI, .int)]) [0] rfl
  have hFc := va_free (wc := [(k0, .inr (10, [.ref kN, .ref kA, .ref kO, .ref kK, .ref kV, .ref kG, .ref kP, .ref kC, .ref kD, .ref kE, .ref kF, .ref kX, .ref kY, .int 0, .ref kT, .ref kU, .int 0, .int 0, .int 0])), (kC, .inl (cI, 20, .inl u1)), (kD, .inl (cI, 20, .inl u2))]) hD hS hA [0, 3, 4] rfl
  refine va_calli (va_runV (As := []) (rest := []) ⟨hx, hb, hml, hown, hts⟩ (kX7_unequal l dC dI k0 kN kA kO kK kV kG kP kC kD kE kF kX kY kT kU cI u1 u2 H.size hu3.1 hu3.2) (cwV 0 hts gX7_differences_X7_unequal rfl rfl rfl (by decide +kernel) ⟨Nat.le_of_ble_eq_true rfl, Nat.le_of_ble_eq_true rfl⟩) (fPreV hN hZ hS (fun q h => hFc q h) hPc hKc hDc (ci := 10) (q0 := 0) rfl rfl) rfl rfl hl.1 rfl (lv_room (Nat.le_of_ble_eq_true rfl)) dX7_differences_10 ⟨Nat.le_of_ble_eq_true rfl, Nat.le_of_ble_eq_true rfl⟩) hS (fun q _ h => hFc q h) hFc (fun r u t H1 locs ht hvm hw hB hz1 hk1 hS => ?_)
  obtain ⟨hP1, hK1, hD1⟩ := hB
  rw [ht] at hP1
  have hK1 := va_K.moved hvm.symm hK1
  obtain ⟨hP, hD⟩ := va_join (wr := [(kN, .inl (cI, 2, .inl (fun _ => 0))), (kA, .inl (cI, 2, .inl (fun _ => 0)))]) (w1 := [(k0, .inr (10, [.ref kN, .ref kA, .ref kO, .ref kK, .ref kV, .ref kG, .ref kP, .ref kC, .ref kD, .ref kE, .ref kF, .ref kX, .ref kY, .int 0, .ref kT, .ref kU, .int 0, .int 0, .int 0])), (kC, .inl (cI, 20, .inl u1)), (kD, .inl (cI, 20, .inl u2))]) hP hD [0, 3, 4] [1, 2] rfl rfl (by decide) (by decide) hk1 hFc hP1 hD1
  generalize H1 = H at hP hS ⊢
  have hP : va_P (dC, dI) vwCl [(kN, .inl (cI, 2, .inl (fun _ => 0))), (kA, .inl (cI, 2, .inl (fun _ => 0))), (k0, .inr (10, [.ref kN, .ref kA, .ref kO, .ref kK, .ref kV, .ref kG, .ref kP, .ref kC, .ref kD, .ref kE, .ref kF, .ref kX, .ref kY, .int 0, .ref kT, .ref kU, .int 0, .int 0, .int 0])), (kC, .inl (cI, 20, .inl u1)), (kD, .inl (cI, 20, .inl u2))] _ := hP
  have hD : va_D A [(kN, .inl (cI, 2, .inl (fun _ => 0))), (kA, .inl (cI, 2, .inl (fun _ => 0))), (k0, .inr (10, [.ref kN, .ref kA, .ref kO, .ref kK, .ref kV, .ref kG, .ref kP, .ref kC, .ref kD, .ref kE, .ref kF, .ref kX, .ref kY, .int 0, .ref kT, .ref kU, .int 0, .int 0, .int 0])), (kC, .inl (cI, 20, .inl u1)), (kD, .inl (cI, 20, .inl u2))] := hD
  subst hw
  exact ret _ 0 _ _ _ _ _ _ (⟨rfl, rfl⟩) (hP.sub [2] rfl) (hK.sub [] rfl) (hD.sub [2] (by decide) rfl) hS (Nat.le_of_ble_eq_true rfl) (Nat.le_of_ble_eq_true rfl) dX7_differences_13

set_option maxHeartbeats 4000000 in
set_option maxRecDepth 100000 in
/-- the model: netsLike on a fresh one -/
theorem kX7_netsLike (l : Launch) (dC : Nat → ClassId) (dI : Nat → Nat → Nat) (k0 kN kA kO kK kV kG kP kC kD kE kF kX kY kT kU : Nat) (cI : ClassId) (p0 p1 p2 : Int32) (sz : Nat) : fMi l yX7_netsLike wsX7_netsLike ({ frames := 2, cells := 0, slots := 0, locals := 47 } : Room) dC dI [.ref k0, .int p0, .int p1, .int p2] [(k0, .inr (10, [.ref kN, .ref kA, .ref kO, .ref kK, .ref kV, .ref kG, .ref kP, .ref kC, .ref kD, .ref kE, .ref kF, .ref kX, .ref kY, .int 0, .ref kT, .ref kU, .int 0, .int 0, .int 0])), (kN, .inl (cI, 2, .inl (fun _ => 0))), (kA, .inl (cI, 2, .inl (fun _ => 0)))] [(cI, .int)] sz (fun (r : Int32) (u : Int32) => u = 1 ∧ ((¬ ((p0 = 0) ∨ (p0 = 1))) ∨ (¬ ((p2 = 0) ∨ (p2 = 1)))) ∨ u = 2 ∧ (¬ ((¬ ((p0 = 0) ∨ (p0 = 1))) ∨ (¬ ((p2 = 0) ∨ (p2 = 1)))))) (fun u => [(k0, .inr (10, [.ref kN, .ref kA, .ref kO, .ref kK, .ref kV, .ref kG, .ref kP, .ref kC, .ref kD, .ref kE, .ref kF, .ref kX, .ref kY, .int 0, .ref kT, .ref kU, .int u, .int 0, .int 0]))]) (fun u => []) := by
  refine oP_i (y := yX7_netsLike) (cc := cX7_netsLike) (maxL := 4) (by decide) rfl (Nat.le_of_ble_eq_true rfl) ?_
  intro p e s m args below meth c ls A Q hx hb hr hml hown hts hN hZ hA hin hlk hP hK hD hl ret
  have hS : va_S A s.heap s.heap [] := va_S.rf
  have hl : lv_has ls 4 [(0, .ref k0), (1, .int p0), (2, .int p1), (3, .int p2)] := hl
  have hP : va_P (dC, dI) vwCl [(k0, .inr (10, [.ref kN, .ref kA, .ref kO, .ref kK, .ref kV, .ref kG, .ref kP, .ref kC, .ref kD, .ref kE, .ref kF, .ref kX, .ref kY, .int 0, .ref kT, .ref kU, .int 0, .int 0, .int 0])), (kN, .inl (cI, 2, .inl (fun _ => 0))), (kA, .inl (cI, 2, .inl (fun _ => 0)))] _ := hP
  have hD : va_D A [(k0, .inr (10, [.ref kN, .ref kA, .ref kO, .ref kK, .ref kV, .ref kG, .ref kP, .ref kC, .ref kD, .ref kE, .ref kF, .ref kX, .ref kY, .int 0, .ref kT, .ref kU, .int 0, .int 0, .int 0])), (kN, .inl (cI, 2, .inl (fun _ => 0))), (kA, .inl (cI, 2, .inl (fun _ => 0)))] := hD
  refine lv_aload_n hx hb dX7_netsLike_0 rfl (lv_at hl 0 rfl) ?_
  refine lv_iload_n hx hb dX7_netsLike_1 rfl (lv_at hl 1 rfl) ?_
  have hPc := hP.sub (ws' := []) [] rfl
  have hDc := hD.sub (ws' := []) [] (by decide) rfl
  have hKc := hK.sub (tys' := []) [] rfl
  have hFc := va_free (wc := []) hD hS hA [] rfl
  refine va_calli (va_runS (As := [.int p0]) (rest := [.ref k0]) ⟨hx, hb, hml, hown, hts⟩ (kX7_isCircuit l dC dI p0 s.heap.size) (va_cwS 1 hts gX7_netsLike_X7_isCircuit rfl rfl rfl (by decide +kernel) ⟨Nat.le_of_ble_eq_true rfl, Nat.le_of_ble_eq_true rfl⟩) (fPreS hN hZ hS (fun q h => hFc q h) hPc hKc hDc) rfl rfl hl.1 rfl (lv_room (Nat.le_of_ble_eq_true rfl)) dX7_netsLike_2 ⟨Nat.le_of_ble_eq_true rfl, Nat.le_of_ble_eq_true rfl⟩) hS (fun q _ h => hFc q h) hFc (fun r u t H1 locs ht hvm hw hB hz1 hk1 hS => ?_)
  obtain ⟨hP1, hK1, hD1⟩ := hB
  rw [ht] at hP1
  have hK1 := va_K.moved hvm.symm hK1
  obtain ⟨hP, hD⟩ := va_join (wr := [(k0, .inr (10, [.ref kN, .ref kA, .ref kO, .ref kK, .ref kV, .ref kG, .ref kP, .ref kC, .ref kD, .ref kE, .ref kF, .ref kX, .ref kY, .int 0, .ref kT, .ref kU, .int 0, .int 0, .int 0])), (kN, .inl (cI, 2, .inl (fun _ => 0))), (kA, .inl (cI, 2, .inl (fun _ => 0)))]) (w1 := []) hP hD [] [0, 1, 2] rfl rfl (by decide) (by decide) hk1 hFc hP1 hD1
  generalize H1 = H at hP hS ⊢
  have hP : va_P (dC, dI) vwCl [(k0, .inr (10, [.ref kN, .ref kA, .ref kO, .ref kK, .ref kV, .ref kG, .ref kP, .ref kC, .ref kD, .ref kE, .ref kF, .ref kX, .ref kY, .int 0, .ref kT, .ref kU, .int 0, .int 0, .int 0])), (kN, .inl (cI, 2, .inl (fun _ => 0))), (kA, .inl (cI, 2, .inl (fun _ => 0)))] _ := hP
  have hD : va_D A [(k0, .inr (10, [.ref kN, .ref kA, .ref kO, .ref kK, .ref kV, .ref kG, .ref kP, .ref kC, .ref kD, .ref kE, .ref kF, .ref kX, .ref kY, .int 0, .ref kT, .ref kU, .int 0, .int 0, .int 0])), (kN, .inl (cI, 2, .inl (fun _ => 0))), (kA, .inl (cI, 2, .inl (fun _ => 0)))] := hD
  rcases hw with ⟨rfl, hc | hc⟩ | ⟨rfl, hc⟩
  · skip
    subst hc
    have hP : va_P (dC, dI) vwCl [(k0, .inr (10, [.ref kN, .ref kA, .ref kO, .ref kK, .ref kV, .ref kG, .ref kP, .ref kC, .ref kD, .ref kE, .ref kF, .ref kX, .ref kY, .int 0, .ref kT, .ref kU, .int 0, .int 0, .int 0])), (kN, .inl (cI, 2, .inl (fun _ => 0))), (kA, .inl (cI, 2, .inl (fun _ => 0)))] _ := hP
    have hD : va_D A [(k0, .inr (10, [.ref kN, .ref kA, .ref kO, .ref kK, .ref kV, .ref kG, .ref kP, .ref kC, .ref kD, .ref kE, .ref kF, .ref kX, .ref kY, .int 0, .ref kT, .ref kU, .int 0, .int 0, .int 0])), (kN, .inl (cI, 2, .inl (fun _ => 0))), (kA, .inl (cI, 2, .inl (fun _ => 0)))] := hD
    refine lv_if_eq (tgt := 15) hx hb dX7_netsLike_5 (by decide) (fun h9 => absurd h9 (by decide)) (fun _ => ?_)
    refine lv_iload_n hx hb dX7_netsLike_8 rfl (lv_at hl 3 rfl) ?_
    have hPc := hP.sub (ws' := []) [] rfl
    have hDc := hD.sub (ws' := []) [] (by decide) rfl
    have hKc := hK.sub (tys' := []) [] rfl
    have hFc := va_free (wc := []) hD hS hA [] rfl
    refine va_calli (va_runS (As := [.int p2]) (rest := [.ref k0]) ⟨hx, hb, hml, hown, hts⟩ (kX7_isCircuit l dC dI p2 H.size) (va_cwS 1 hts gX7_netsLike_X7_isCircuit rfl rfl rfl (by decide +kernel) ⟨Nat.le_of_ble_eq_true rfl, Nat.le_of_ble_eq_true rfl⟩) (fPreS hN hZ hS (fun q h => hFc q h) hPc hKc hDc) rfl rfl hl.1 rfl (lv_room (Nat.le_of_ble_eq_true rfl)) dX7_netsLike_9 ⟨Nat.le_of_ble_eq_true rfl, Nat.le_of_ble_eq_true rfl⟩) hS (fun q _ h => hFc q h) hFc (fun r u t H1 locs ht hvm hw hB hz1 hk1 hS => ?_)
    obtain ⟨hP1, hK1, hD1⟩ := hB
    rw [ht] at hP1
    have hK1 := va_K.moved hvm.symm hK1
    obtain ⟨hP, hD⟩ := va_join (wr := [(k0, .inr (10, [.ref kN, .ref kA, .ref kO, .ref kK, .ref kV, .ref kG, .ref kP, .ref kC, .ref kD, .ref kE, .ref kF, .ref kX, .ref kY, .int 0, .ref kT, .ref kU, .int 0, .int 0, .int 0])), (kN, .inl (cI, 2, .inl (fun _ => 0))), (kA, .inl (cI, 2, .inl (fun _ => 0)))]) (w1 := []) hP hD [] [0, 1, 2] rfl rfl (by decide) (by decide) hk1 hFc hP1 hD1
    generalize H1 = H at hP hS ⊢
    have hP : va_P (dC, dI) vwCl [(k0, .inr (10, [.ref kN, .ref kA, .ref kO, .ref kK, .ref kV, .ref kG, .ref kP, .ref kC, .ref kD, .ref kE, .ref kF, .ref kX, .ref kY, .int 0, .ref kT, .ref kU, .int 0, .int 0, .int 0])), (kN, .inl (cI, 2, .inl (fun _ => 0))), (kA, .inl (cI, 2, .inl (fun _ => 0)))] _ := hP
    have hD : va_D A [(k0, .inr (10, [.ref kN, .ref kA, .ref kO, .ref kK, .ref kV, .ref kG, .ref kP, .ref kC, .ref kD, .ref kE, .ref kF, .ref kX, .ref kY, .int 0, .ref kT, .ref kU, .int 0, .int 0, .int 0])), (kN, .inl (cI, 2, .inl (fun _ => 0))), (kA, .inl (cI, 2, .inl (fun _ => 0)))] := hD
    rcases hw with ⟨rfl, hc | hc⟩ | ⟨rfl, hc⟩
    · skip
      subst hc
      have hP : va_P (dC, dI) vwCl [(k0, .inr (10, [.ref kN, .ref kA, .ref kO, .ref kK, .ref kV, .ref kG, .ref kP, .ref kC, .ref kD, .ref kE, .ref kF, .ref kX, .ref kY, .int 0, .ref kT, .ref kU, .int 0, .int 0, .int 0])), (kN, .inl (cI, 2, .inl (fun _ => 0))), (kA, .inl (cI, 2, .inl (fun _ => 0)))] _ := hP
      have hD : va_D A [(k0, .inr (10, [.ref kN, .ref kA, .ref kO, .ref kK, .ref kV, .ref kG, .ref kP, .ref kC, .ref kD, .ref kE, .ref kF, .ref kX, .ref kY, .int 0, .ref kT, .ref kU, .int 0, .int 0, .int 0])), (kN, .inl (cI, 2, .inl (fun _ => 0))), (kA, .inl (cI, 2, .inl (fun _ => 0)))] := hD
      refine lv_if_ne (tgt := 19) hx hb dX7_netsLike_12 (by decide) (fun _ => ?_) (fun h9 => absurd h9 (by decide))
      refine lv_aload_n hx hb dX7_netsLike_19 rfl (lv_at hl 0 rfl) ?_
      refine lv_iload_n hx hb dX7_netsLike_20 rfl (lv_at hl 1 rfl) ?_
      refine lv_iload_n hx hb dX7_netsLike_21 rfl (lv_at hl 2 rfl) ?_
      have hPc := hP.sub (ws' := [(k0, .inr (10, [.ref kN, .ref kA, .ref kO, .ref kK, .ref kV, .ref kG, .ref kP, .ref kC, .ref kD, .ref kE, .ref kF, .ref kX, .ref kY, .int 0, .ref kT, .ref kU, .int 0, .int 0, .int 0])), (kN, .inl (cI, 2, .inl (fun _ => 0)))]) [0, 1] rfl
      have hDc := hD.sub (ws' := [(k0, .inr (10, [.ref kN, .ref kA, .ref kO, .ref kK, .ref kV, .ref kG, .ref kP, .ref kC, .ref kD, .ref kE, .ref kF, .ref kX, .ref kY, .int 0, .ref kT, .ref kU, .int 0, .int 0, .int 0])), (kN, .inl (cI, 2, .inl (fun _ => 0)))]) [0, 1] (by decide) rfl
      have hKc := hK.sub (tys' := [(cI, .int)]) [0] rfl
      have hFc := va_free (wc := [(k0, .inr (10, [.ref kN, .ref kA, .ref kO, .ref kK, .ref kV, .ref kG, .ref kP, .ref kC, .ref kD, .ref kE, .ref kF, .ref kX, .ref kY, .int 0, .ref kT, .ref kU, .int 0, .int 0, .int 0])), (kN, .inl (cI, 2, .inl (fun _ => 0)))]) hD hS hA [0, 1] rfl
      refine va_calli (va_runV (As := [.int 0, .int p1]) (rest := [.ref k0]) ⟨hx, hb, hml, hown, hts⟩ (kX7_isNet0 l dC dI k0 kN kA kO kK kV kG kP kC kD kE kF kX kY kT kU cI p1 H.size) (cwV 2 hts gX7_netsLike_X7_isNet rfl rfl rfl (by decide +kernel) ⟨Nat.le_of_ble_eq_true rfl, Nat.le_of_ble_eq_true rfl⟩) (fPreV hN hZ hS (fun q h => hFc q h) hPc hKc hDc (ci := 10) (q0 := 0) rfl rfl) rfl rfl hl.1 rfl (lv_room (Nat.le_of_ble_eq_true rfl)) dX7_netsLike_22 ⟨Nat.le_of_ble_eq_true rfl, Nat.le_of_ble_eq_true rfl⟩) hS (fun q _ h => hFc q h) hFc (fun r u t H1 locs ht hvm hw hB hz1 hk1 hS => ?_)
      obtain ⟨hP1, hK1, hD1⟩ := hB
      rw [ht] at hP1
      have hK1 := va_K.moved hvm.symm hK1
      obtain ⟨hP, hD⟩ := va_join (wr := [(kA, .inl (cI, 2, .inl (fun _ => 0)))]) (w1 := [(k0, .inr (10, [.ref kN, .ref kA, .ref kO, .ref kK, .ref kV, .ref kG, .ref kP, .ref kC, .ref kD, .ref kE, .ref kF, .ref kX, .ref kY, .int 0, .ref kT, .ref kU, .int 0, .int 0, .int 0])), (kN, .inl (cI, 2, .inl (fun _ => 0)))]) hP hD [0, 1] [2] rfl rfl (by decide) (by decide) hk1 hFc hP1 hD1
      generalize H1 = H at hP hS ⊢
      have hP : va_P (dC, dI) vwCl [(kA, .inl (cI, 2, .inl (fun _ => 0))), (k0, .inr (10, [.ref kN, .ref kA, .ref kO, .ref kK, .ref kV, .ref kG, .ref kP, .ref kC, .ref kD, .ref kE, .ref kF, .ref kX, .ref kY, .int 0, .ref kT, .ref kU, .int 0, .int 0, .int 0])), (kN, .inl (cI, 2, .inl (fun _ => 0)))] _ := hP
      have hD : va_D A [(kA, .inl (cI, 2, .inl (fun _ => 0))), (k0, .inr (10, [.ref kN, .ref kA, .ref kO, .ref kK, .ref kV, .ref kG, .ref kP, .ref kC, .ref kD, .ref kE, .ref kF, .ref kX, .ref kY, .int 0, .ref kT, .ref kU, .int 0, .int 0, .int 0])), (kN, .inl (cI, 2, .inl (fun _ => 0)))] := hD
      subst hw
      refine lv_if_ne (tgt := 32) hx hb dX7_netsLike_25 (by decide) (fun h9 => absurd (by decide) h9) (fun _ => ?_)
      refine lv_iconst (v := 2) hx hb dX7_netsLike_28 (by decide) ?_
      refine lv_goto (tgt := 33) hx hb dX7_netsLike_29 (by decide) ?_
      refine va_put (D := (dC, dI)) (ci := 10) (v := .int 2) (ty := .int) (C := RX7) (T := TX7) (N := 19) hx hb hts (fun w h => List.mem_cons_of_mem _ (List.mem_append_left _ (List.mem_append_right _ (h)))) tyX7 tyX7_ok nmX7 hown hK hP hD hS 1 rfl rfl 16 (by decide) (hts (.fieldLink RX7 57 "NetcompareModel" "thrown" "I") (List.mem_cons_of_mem _ (List.mem_append_left _ (List.mem_append_left _ (List.mem_append_left _ (List.mem_of_getElem? (i := 0) rfl)))))) (fun _ h9 => h9) rfl (by decide +kernel) rfl rfl (Nat.le_of_ble_eq_true rfl) dX7_netsLike_33 (fun H locs hP hD hS => ?_)
      have hP : va_P (dC, dI) vwCl [(kA, .inl (cI, 2, .inl (fun _ => 0))), (k0, .inr (10, [.ref kN, .ref kA, .ref kO, .ref kK, .ref kV, .ref kG, .ref kP, .ref kC, .ref kD, .ref kE, .ref kF, .ref kX, .ref kY, .int 0, .ref kT, .ref kU, .int 2, .int 0, .int 0])), (kN, .inl (cI, 2, .inl (fun _ => 0)))] _ := hP
      have hD : va_D A [(kA, .inl (cI, 2, .inl (fun _ => 0))), (k0, .inr (10, [.ref kN, .ref kA, .ref kO, .ref kK, .ref kV, .ref kG, .ref kP, .ref kC, .ref kD, .ref kE, .ref kF, .ref kX, .ref kY, .int 0, .ref kT, .ref kU, .int 2, .int 0, .int 0])), (kN, .inl (cI, 2, .inl (fun _ => 0)))] := hD
      refine lv_aload_n hx hb dX7_netsLike_36 rfl (lv_at hl 0 rfl) ?_
      refine va_get (D := (dC, dI)) (ci := 10) (v := .int 2) (C := RX7) (T := TX7) (N := 19) hx hb hts (fun w h => List.mem_cons_of_mem _ (List.mem_append_left _ (List.mem_append_right _ (h)))) hown hK hP 1 rfl rfl 16 (by decide) (hts (.fieldLink RX7 57 "NetcompareModel" "thrown" "I") (List.mem_cons_of_mem _ (List.mem_append_left _ (List.mem_append_left _ (List.mem_append_left _ (List.mem_of_getElem? (i := 0) rfl)))))) (fun _ h9 => h9) rfl dX7_netsLike_37 ?_
      refine lv_if_le (tgt := 45) hx hb dX7_netsLike_40 (by decide) (fun h9 => absurd h9 (by decide)) (fun _ => ?_)
      refine lv_iconst (v := (-1)) hx hb dX7_netsLike_43 (by decide) ?_
      exact ret _ 2 _ _ _ _ _ _ (Or.inr (⟨rfl, (fun h9 => h9.elim ((fun h9 => h9 (Or.inl (rfl)))) ((fun h9 => h9 (Or.inl (rfl)))))⟩)) (hP.sub [1] rfl) (hK.sub [] rfl) (hD.sub [1] (by decide) rfl) hS (Nat.le_of_ble_eq_true rfl) (Nat.le_of_ble_eq_true rfl) dX7_netsLike_44
    · skip
      subst hc
      have hP : va_P (dC, dI) vwCl [(k0, .inr (10, [.ref kN, .ref kA, .ref kO, .ref kK, .ref kV, .ref kG, .ref kP, .ref kC, .ref kD, .ref kE, .ref kF, .ref kX, .ref kY, .int 0, .ref kT, .ref kU, .int 0, .int 0, .int 0])), (kN, .inl (cI, 2, .inl (fun _ => 0))), (kA, .inl (cI, 2, .inl (fun _ => 0)))] _ := hP
      have hD : va_D A [(k0, .inr (10, [.ref kN, .ref kA, .ref kO, .ref kK, .ref kV, .ref kG, .ref kP, .ref kC, .ref kD, .ref kE, .ref kF, .ref kX, .ref kY, .int 0, .ref kT, .ref kU, .int 0, .int 0, .int 0])), (kN, .inl (cI, 2, .inl (fun _ => 0))), (kA, .inl (cI, 2, .inl (fun _ => 0)))] := hD
      refine lv_if_ne (tgt := 19) hx hb dX7_netsLike_12 (by decide) (fun _ => ?_) (fun h9 => absurd h9 (by decide))
      refine lv_aload_n hx hb dX7_netsLike_19 rfl (lv_at hl 0 rfl) ?_
      refine lv_iload_n hx hb dX7_netsLike_20 rfl (lv_at hl 1 rfl) ?_
      refine lv_iload_n hx hb dX7_netsLike_21 rfl (lv_at hl 2 rfl) ?_
      have hPc := hP.sub (ws' := [(k0, .inr (10, [.ref kN, .ref kA, .ref kO, .ref kK, .ref kV, .ref kG, .ref kP, .ref kC, .ref kD, .ref kE, .ref kF, .ref kX, .ref kY, .int 0, .ref kT, .ref kU, .int 0, .int 0, .int 0])), (kN, .inl (cI, 2, .inl (fun _ => 0)))]) [0, 1] rfl
      have hDc := hD.sub (ws' := [(k0, .inr (10, [.ref kN, .ref kA, .ref kO, .ref kK, .ref kV, .ref kG, .ref kP, .ref kC, .ref kD, .ref kE, .ref kF, .ref kX, .ref kY, .int 0, .ref kT, .ref kU, .int 0, .int 0, .int 0])), (kN, .inl (cI, 2, .inl (fun _ => 0)))]) [0, 1] (by decide) rfl
      have hKc := hK.sub (tys' := [(cI, .int)]) [0] rfl
      have hFc := va_free (wc := [(k0, .inr (10, [.ref kN, .ref kA, .ref kO, .ref kK, .ref kV, .ref kG, .ref kP, .ref kC, .ref kD, .ref kE, .ref kF, .ref kX, .ref kY, .int 0, .ref kT, .ref kU, .int 0, .int 0, .int 0])), (kN, .inl (cI, 2, .inl (fun _ => 0)))]) hD hS hA [0, 1] rfl
      refine va_calli (va_runV (As := [.int 0, .int p1]) (rest := [.ref k0]) ⟨hx, hb, hml, hown, hts⟩ (kX7_isNet0 l dC dI k0 kN kA kO kK kV kG kP kC kD kE kF kX kY kT kU cI p1 H.size) (cwV 2 hts gX7_netsLike_X7_isNet rfl rfl rfl (by decide +kernel) ⟨Nat.le_of_ble_eq_true rfl, Nat.le_of_ble_eq_true rfl⟩) (fPreV hN hZ hS (fun q h => hFc q h) hPc hKc hDc (ci := 10) (q0 := 0) rfl rfl) rfl rfl hl.1 rfl (lv_room (Nat.le_of_ble_eq_true rfl)) dX7_netsLike_22 ⟨Nat.le_of_ble_eq_true rfl, Nat.le_of_ble_eq_true rfl⟩) hS (fun q _ h => hFc q h) hFc (fun r u t H1 locs ht hvm hw hB hz1 hk1 hS => ?_)
      obtain ⟨hP1, hK1, hD1⟩ := hB
      rw [ht] at hP1
      have hK1 := va_K.moved hvm.symm hK1
      obtain ⟨hP, hD⟩ := va_join (wr := [(kA, .inl (cI, 2, .inl (fun _ => 0)))]) (w1 := [(k0, .inr (10, [.ref kN, .ref kA, .ref kO, .ref kK, .ref kV, .ref kG, .ref kP, .ref kC, .ref kD, .ref kE, .ref kF, .ref kX, .ref kY, .int 0, .ref kT, .ref kU, .int 0, .int 0, .int 0])), (kN, .inl (cI, 2, .inl (fun _ => 0)))]) hP hD [0, 1] [2] rfl rfl (by decide) (by decide) hk1 hFc hP1 hD1
      generalize H1 = H at hP hS ⊢
      have hP : va_P (dC, dI) vwCl [(kA, .inl (cI, 2, .inl (fun _ => 0))), (k0, .inr (10, [.ref kN, .ref kA, .ref kO, .ref kK, .ref kV, .ref kG, .ref kP, .ref kC, .ref kD, .ref kE, .ref kF, .ref kX, .ref kY, .int 0, .ref kT, .ref kU, .int 0, .int 0, .int 0])), (kN, .inl (cI, 2, .inl (fun _ => 0)))] _ := hP
      have hD : va_D A [(kA, .inl (cI, 2, .inl (fun _ => 0))), (k0, .inr (10, [.ref kN, .ref kA, .ref kO, .ref kK, .ref kV, .ref kG, .ref kP, .ref kC, .ref kD, .ref kE, .ref kF, .ref kX, .ref kY, .int 0, .ref kT, .ref kU, .int 0, .int 0, .int 0])), (kN, .inl (cI, 2, .inl (fun _ => 0)))] := hD
      subst hw
      refine lv_if_ne (tgt := 32) hx hb dX7_netsLike_25 (by decide) (fun h9 => absurd (by decide) h9) (fun _ => ?_)
      refine lv_iconst (v := 2) hx hb dX7_netsLike_28 (by decide) ?_
      refine lv_goto (tgt := 33) hx hb dX7_netsLike_29 (by decide) ?_
      refine va_put (D := (dC, dI)) (ci := 10) (v := .int 2) (ty := .int) (C := RX7) (T := TX7) (N := 19) hx hb hts (fun w h => List.mem_cons_of_mem _ (List.mem_append_left _ (List.mem_append_right _ (h)))) tyX7 tyX7_ok nmX7 hown hK hP hD hS 1 rfl rfl 16 (by decide) (hts (.fieldLink RX7 57 "NetcompareModel" "thrown" "I") (List.mem_cons_of_mem _ (List.mem_append_left _ (List.mem_append_left _ (List.mem_append_left _ (List.mem_of_getElem? (i := 0) rfl)))))) (fun _ h9 => h9) rfl (by decide +kernel) rfl rfl (Nat.le_of_ble_eq_true rfl) dX7_netsLike_33 (fun H locs hP hD hS => ?_)
      have hP : va_P (dC, dI) vwCl [(kA, .inl (cI, 2, .inl (fun _ => 0))), (k0, .inr (10, [.ref kN, .ref kA, .ref kO, .ref kK, .ref kV, .ref kG, .ref kP, .ref kC, .ref kD, .ref kE, .ref kF, .ref kX, .ref kY, .int 0, .ref kT, .ref kU, .int 2, .int 0, .int 0])), (kN, .inl (cI, 2, .inl (fun _ => 0)))] _ := hP
      have hD : va_D A [(kA, .inl (cI, 2, .inl (fun _ => 0))), (k0, .inr (10, [.ref kN, .ref kA, .ref kO, .ref kK, .ref kV, .ref kG, .ref kP, .ref kC, .ref kD, .ref kE, .ref kF, .ref kX, .ref kY, .int 0, .ref kT, .ref kU, .int 2, .int 0, .int 0])), (kN, .inl (cI, 2, .inl (fun _ => 0)))] := hD
      refine lv_aload_n hx hb dX7_netsLike_36 rfl (lv_at hl 0 rfl) ?_
      refine va_get (D := (dC, dI)) (ci := 10) (v := .int 2) (C := RX7) (T := TX7) (N := 19) hx hb hts (fun w h => List.mem_cons_of_mem _ (List.mem_append_left _ (List.mem_append_right _ (h)))) hown hK hP 1 rfl rfl 16 (by decide) (hts (.fieldLink RX7 57 "NetcompareModel" "thrown" "I") (List.mem_cons_of_mem _ (List.mem_append_left _ (List.mem_append_left _ (List.mem_append_left _ (List.mem_of_getElem? (i := 0) rfl)))))) (fun _ h9 => h9) rfl dX7_netsLike_37 ?_
      refine lv_if_le (tgt := 45) hx hb dX7_netsLike_40 (by decide) (fun h9 => absurd h9 (by decide)) (fun _ => ?_)
      refine lv_iconst (v := (-1)) hx hb dX7_netsLike_43 (by decide) ?_
      exact ret _ 2 _ _ _ _ _ _ (Or.inr (⟨rfl, (fun h9 => h9.elim ((fun h9 => h9 (Or.inl (rfl)))) ((fun h9 => h9 (Or.inr (rfl)))))⟩)) (hP.sub [1] rfl) (hK.sub [] rfl) (hD.sub [1] (by decide) rfl) hS (Nat.le_of_ble_eq_true rfl) (Nat.le_of_ble_eq_true rfl) dX7_netsLike_44
    · skip
      have hc1 := hc
      refine lv_if_ne (tgt := 19) hx hb dX7_netsLike_12 (by decide) (fun h9 => absurd (by decide) h9) (fun _ => ?_)
      refine lv_iconst (v := 1) hx hb dX7_netsLike_15 (by decide) ?_
      refine lv_goto (tgt := 33) hx hb dX7_netsLike_16 (by decide) ?_
      refine va_put (D := (dC, dI)) (ci := 10) (v := .int 1) (ty := .int) (C := RX7) (T := TX7) (N := 19) hx hb hts (fun w h => List.mem_cons_of_mem _ (List.mem_append_left _ (List.mem_append_right _ (h)))) tyX7 tyX7_ok nmX7 hown hK hP hD hS 0 rfl rfl 16 (by decide) (hts (.fieldLink RX7 57 "NetcompareModel" "thrown" "I") (List.mem_cons_of_mem _ (List.mem_append_left _ (List.mem_append_left _ (List.mem_append_left _ (List.mem_of_getElem? (i := 0) rfl)))))) (fun _ h9 => h9) rfl (by decide +kernel) rfl rfl (Nat.le_of_ble_eq_true rfl) dX7_netsLike_33 (fun H locs hP hD hS => ?_)
      have hP : va_P (dC, dI) vwCl [(k0, .inr (10, [.ref kN, .ref kA, .ref kO, .ref kK, .ref kV, .ref kG, .ref kP, .ref kC, .ref kD, .ref kE, .ref kF, .ref kX, .ref kY, .int 0, .ref kT, .ref kU, .int 1, .int 0, .int 0])), (kN, .inl (cI, 2, .inl (fun _ => 0))), (kA, .inl (cI, 2, .inl (fun _ => 0)))] _ := hP
      have hD : va_D A [(k0, .inr (10, [.ref kN, .ref kA, .ref kO, .ref kK, .ref kV, .ref kG, .ref kP, .ref kC, .ref kD, .ref kE, .ref kF, .ref kX, .ref kY, .int 0, .ref kT, .ref kU, .int 1, .int 0, .int 0])), (kN, .inl (cI, 2, .inl (fun _ => 0))), (kA, .inl (cI, 2, .inl (fun _ => 0)))] := hD
      refine lv_aload_n hx hb dX7_netsLike_36 rfl (lv_at hl 0 rfl) ?_
      refine va_get (D := (dC, dI)) (ci := 10) (v := .int 1) (C := RX7) (T := TX7) (N := 19) hx hb hts (fun w h => List.mem_cons_of_mem _ (List.mem_append_left _ (List.mem_append_right _ (h)))) hown hK hP 0 rfl rfl 16 (by decide) (hts (.fieldLink RX7 57 "NetcompareModel" "thrown" "I") (List.mem_cons_of_mem _ (List.mem_append_left _ (List.mem_append_left _ (List.mem_append_left _ (List.mem_of_getElem? (i := 0) rfl)))))) (fun _ h9 => h9) rfl dX7_netsLike_37 ?_
      refine lv_if_le (tgt := 45) hx hb dX7_netsLike_40 (by decide) (fun h9 => absurd h9 (by decide)) (fun _ => ?_)
      refine lv_iconst (v := (-1)) hx hb dX7_netsLike_43 (by decide) ?_
      exact ret _ 1 _ _ _ _ _ _ (Or.inl (⟨rfl, Or.inr (hc1)⟩)) (hP.sub [0] rfl) (hK.sub [] rfl) (hD.sub [0] (by decide) rfl) hS (Nat.le_of_ble_eq_true rfl) (Nat.le_of_ble_eq_true rfl) dX7_netsLike_44
  · skip
    subst hc
    have hP : va_P (dC, dI) vwCl [(k0, .inr (10, [.ref kN, .ref kA, .ref kO, .ref kK, .ref kV, .ref kG, .ref kP, .ref kC, .ref kD, .ref kE, .ref kF, .ref kX, .ref kY, .int 0, .ref kT, .ref kU, .int 0, .int 0, .int 0])), (kN, .inl (cI, 2, .inl (fun _ => 0))), (kA, .inl (cI, 2, .inl (fun _ => 0)))] _ := hP
    have hD : va_D A [(k0, .inr (10, [.ref kN, .ref kA, .ref kO, .ref kK, .ref kV, .ref kG, .ref kP, .ref kC, .ref kD, .ref kE, .ref kF, .ref kX, .ref kY, .int 0, .ref kT, .ref kU, .int 0, .int 0, .int 0])), (kN, .inl (cI, 2, .inl (fun _ => 0))), (kA, .inl (cI, 2, .inl (fun _ => 0)))] := hD
    refine lv_if_eq (tgt := 15) hx hb dX7_netsLike_5 (by decide) (fun h9 => absurd h9 (by decide)) (fun _ => ?_)
    refine lv_iload_n hx hb dX7_netsLike_8 rfl (lv_at hl 3 rfl) ?_
    have hPc := hP.sub (ws' := []) [] rfl
    have hDc := hD.sub (ws' := []) [] (by decide) rfl
    have hKc := hK.sub (tys' := []) [] rfl
    have hFc := va_free (wc := []) hD hS hA [] rfl
    refine va_calli (va_runS (As := [.int p2]) (rest := [.ref k0]) ⟨hx, hb, hml, hown, hts⟩ (kX7_isCircuit l dC dI p2 H.size) (va_cwS 1 hts gX7_netsLike_X7_isCircuit rfl rfl rfl (by decide +kernel) ⟨Nat.le_of_ble_eq_true rfl, Nat.le_of_ble_eq_true rfl⟩) (fPreS hN hZ hS (fun q h => hFc q h) hPc hKc hDc) rfl rfl hl.1 rfl (lv_room (Nat.le_of_ble_eq_true rfl)) dX7_netsLike_9 ⟨Nat.le_of_ble_eq_true rfl, Nat.le_of_ble_eq_true rfl⟩) hS (fun q _ h => hFc q h) hFc (fun r u t H1 locs ht hvm hw hB hz1 hk1 hS => ?_)
    obtain ⟨hP1, hK1, hD1⟩ := hB
    rw [ht] at hP1
    have hK1 := va_K.moved hvm.symm hK1
    obtain ⟨hP, hD⟩ := va_join (wr := [(k0, .inr (10, [.ref kN, .ref kA, .ref kO, .ref kK, .ref kV, .ref kG, .ref kP, .ref kC, .ref kD, .ref kE, .ref kF, .ref kX, .ref kY, .int 0, .ref kT, .ref kU, .int 0, .int 0, .int 0])), (kN, .inl (cI, 2, .inl (fun _ => 0))), (kA, .inl (cI, 2, .inl (fun _ => 0)))]) (w1 := []) hP hD [] [0, 1, 2] rfl rfl (by decide) (by decide) hk1 hFc hP1 hD1
    generalize H1 = H at hP hS ⊢
    have hP : va_P (dC, dI) vwCl [(k0, .inr (10, [.ref kN, .ref kA, .ref kO, .ref kK, .ref kV, .ref kG, .ref kP, .ref kC, .ref kD, .ref kE, .ref kF, .ref kX, .ref kY, .int 0, .ref kT, .ref kU, .int 0, .int 0, .int 0])), (kN, .inl (cI, 2, .inl (fun _ => 0))), (kA, .inl (cI, 2, .inl (fun _ => 0)))] _ := hP
    have hD : va_D A [(k0, .inr (10, [.ref kN, .ref kA, .ref kO, .ref kK, .ref kV, .ref kG, .ref kP, .ref kC, .ref kD, .ref kE, .ref kF, .ref kX, .ref kY, .int 0, .ref kT, .ref kU, .int 0, .int 0, .int 0])), (kN, .inl (cI, 2, .inl (fun _ => 0))), (kA, .inl (cI, 2, .inl (fun _ => 0)))] := hD
    rcases hw with ⟨rfl, hc | hc⟩ | ⟨rfl, hc⟩
    · skip
      subst hc
      have hP : va_P (dC, dI) vwCl [(k0, .inr (10, [.ref kN, .ref kA, .ref kO, .ref kK, .ref kV, .ref kG, .ref kP, .ref kC, .ref kD, .ref kE, .ref kF, .ref kX, .ref kY, .int 0, .ref kT, .ref kU, .int 0, .int 0, .int 0])), (kN, .inl (cI, 2, .inl (fun _ => 0))), (kA, .inl (cI, 2, .inl (fun _ => 0)))] _ := hP
      have hD : va_D A [(k0, .inr (10, [.ref kN, .ref kA, .ref kO, .ref kK, .ref kV, .ref kG, .ref kP, .ref kC, .ref kD, .ref kE, .ref kF, .ref kX, .ref kY, .int 0, .ref kT, .ref kU, .int 0, .int 0, .int 0])), (kN, .inl (cI, 2, .inl (fun _ => 0))), (kA, .inl (cI, 2, .inl (fun _ => 0)))] := hD
      refine lv_if_ne (tgt := 19) hx hb dX7_netsLike_12 (by decide) (fun _ => ?_) (fun h9 => absurd h9 (by decide))
      refine lv_aload_n hx hb dX7_netsLike_19 rfl (lv_at hl 0 rfl) ?_
      refine lv_iload_n hx hb dX7_netsLike_20 rfl (lv_at hl 1 rfl) ?_
      refine lv_iload_n hx hb dX7_netsLike_21 rfl (lv_at hl 2 rfl) ?_
      have hPc := hP.sub (ws' := [(k0, .inr (10, [.ref kN, .ref kA, .ref kO, .ref kK, .ref kV, .ref kG, .ref kP, .ref kC, .ref kD, .ref kE, .ref kF, .ref kX, .ref kY, .int 0, .ref kT, .ref kU, .int 0, .int 0, .int 0])), (kN, .inl (cI, 2, .inl (fun _ => 0)))]) [0, 1] rfl
      have hDc := hD.sub (ws' := [(k0, .inr (10, [.ref kN, .ref kA, .ref kO, .ref kK, .ref kV, .ref kG, .ref kP, .ref kC, .ref kD, .ref kE, .ref kF, .ref kX, .ref kY, .int 0, .ref kT, .ref kU, .int 0, .int 0, .int 0])), (kN, .inl (cI, 2, .inl (fun _ => 0)))]) [0, 1] (by decide) rfl
      have hKc := hK.sub (tys' := [(cI, .int)]) [0] rfl
      have hFc := va_free (wc := [(k0, .inr (10, [.ref kN, .ref kA, .ref kO, .ref kK, .ref kV, .ref kG, .ref kP, .ref kC, .ref kD, .ref kE, .ref kF, .ref kX, .ref kY, .int 0, .ref kT, .ref kU, .int 0, .int 0, .int 0])), (kN, .inl (cI, 2, .inl (fun _ => 0)))]) hD hS hA [0, 1] rfl
      refine va_calli (va_runV (As := [.int 1, .int p1]) (rest := [.ref k0]) ⟨hx, hb, hml, hown, hts⟩ (kX7_isNet1 l dC dI k0 kN kA kO kK kV kG kP kC kD kE kF kX kY kT kU cI p1 H.size) (cwV 2 hts gX7_netsLike_X7_isNet rfl rfl rfl (by decide +kernel) ⟨Nat.le_of_ble_eq_true rfl, Nat.le_of_ble_eq_true rfl⟩) (fPreV hN hZ hS (fun q h => hFc q h) hPc hKc hDc (ci := 10) (q0 := 0) rfl rfl) rfl rfl hl.1 rfl (lv_room (Nat.le_of_ble_eq_true rfl)) dX7_netsLike_22 ⟨Nat.le_of_ble_eq_true rfl, Nat.le_of_ble_eq_true rfl⟩) hS (fun q _ h => hFc q h) hFc (fun r u t H1 locs ht hvm hw hB hz1 hk1 hS => ?_)
      obtain ⟨hP1, hK1, hD1⟩ := hB
      rw [ht] at hP1
      have hK1 := va_K.moved hvm.symm hK1
      obtain ⟨hP, hD⟩ := va_join (wr := [(kA, .inl (cI, 2, .inl (fun _ => 0)))]) (w1 := [(k0, .inr (10, [.ref kN, .ref kA, .ref kO, .ref kK, .ref kV, .ref kG, .ref kP, .ref kC, .ref kD, .ref kE, .ref kF, .ref kX, .ref kY, .int 0, .ref kT, .ref kU, .int 0, .int 0, .int 0])), (kN, .inl (cI, 2, .inl (fun _ => 0)))]) hP hD [0, 1] [2] rfl rfl (by decide) (by decide) hk1 hFc hP1 hD1
      generalize H1 = H at hP hS ⊢
      have hP : va_P (dC, dI) vwCl [(kA, .inl (cI, 2, .inl (fun _ => 0))), (k0, .inr (10, [.ref kN, .ref kA, .ref kO, .ref kK, .ref kV, .ref kG, .ref kP, .ref kC, .ref kD, .ref kE, .ref kF, .ref kX, .ref kY, .int 0, .ref kT, .ref kU, .int 0, .int 0, .int 0])), (kN, .inl (cI, 2, .inl (fun _ => 0)))] _ := hP
      have hD : va_D A [(kA, .inl (cI, 2, .inl (fun _ => 0))), (k0, .inr (10, [.ref kN, .ref kA, .ref kO, .ref kK, .ref kV, .ref kG, .ref kP, .ref kC, .ref kD, .ref kE, .ref kF, .ref kX, .ref kY, .int 0, .ref kT, .ref kU, .int 0, .int 0, .int 0])), (kN, .inl (cI, 2, .inl (fun _ => 0)))] := hD
      subst hw
      refine lv_if_ne (tgt := 32) hx hb dX7_netsLike_25 (by decide) (fun h9 => absurd (by decide) h9) (fun _ => ?_)
      refine lv_iconst (v := 2) hx hb dX7_netsLike_28 (by decide) ?_
      refine lv_goto (tgt := 33) hx hb dX7_netsLike_29 (by decide) ?_
      refine va_put (D := (dC, dI)) (ci := 10) (v := .int 2) (ty := .int) (C := RX7) (T := TX7) (N := 19) hx hb hts (fun w h => List.mem_cons_of_mem _ (List.mem_append_left _ (List.mem_append_right _ (h)))) tyX7 tyX7_ok nmX7 hown hK hP hD hS 1 rfl rfl 16 (by decide) (hts (.fieldLink RX7 57 "NetcompareModel" "thrown" "I") (List.mem_cons_of_mem _ (List.mem_append_left _ (List.mem_append_left _ (List.mem_append_left _ (List.mem_of_getElem? (i := 0) rfl)))))) (fun _ h9 => h9) rfl (by decide +kernel) rfl rfl (Nat.le_of_ble_eq_true rfl) dX7_netsLike_33 (fun H locs hP hD hS => ?_)
      have hP : va_P (dC, dI) vwCl [(kA, .inl (cI, 2, .inl (fun _ => 0))), (k0, .inr (10, [.ref kN, .ref kA, .ref kO, .ref kK, .ref kV, .ref kG, .ref kP, .ref kC, .ref kD, .ref kE, .ref kF, .ref kX, .ref kY, .int 0, .ref kT, .ref kU, .int 2, .int 0, .int 0])), (kN, .inl (cI, 2, .inl (fun _ => 0)))] _ := hP
      have hD : va_D A [(kA, .inl (cI, 2, .inl (fun _ => 0))), (k0, .inr (10, [.ref kN, .ref kA, .ref kO, .ref kK, .ref kV, .ref kG, .ref kP, .ref kC, .ref kD, .ref kE, .ref kF, .ref kX, .ref kY, .int 0, .ref kT, .ref kU, .int 2, .int 0, .int 0])), (kN, .inl (cI, 2, .inl (fun _ => 0)))] := hD
      refine lv_aload_n hx hb dX7_netsLike_36 rfl (lv_at hl 0 rfl) ?_
      refine va_get (D := (dC, dI)) (ci := 10) (v := .int 2) (C := RX7) (T := TX7) (N := 19) hx hb hts (fun w h => List.mem_cons_of_mem _ (List.mem_append_left _ (List.mem_append_right _ (h)))) hown hK hP 1 rfl rfl 16 (by decide) (hts (.fieldLink RX7 57 "NetcompareModel" "thrown" "I") (List.mem_cons_of_mem _ (List.mem_append_left _ (List.mem_append_left _ (List.mem_append_left _ (List.mem_of_getElem? (i := 0) rfl)))))) (fun _ h9 => h9) rfl dX7_netsLike_37 ?_
      refine lv_if_le (tgt := 45) hx hb dX7_netsLike_40 (by decide) (fun h9 => absurd h9 (by decide)) (fun _ => ?_)
      refine lv_iconst (v := (-1)) hx hb dX7_netsLike_43 (by decide) ?_
      exact ret _ 2 _ _ _ _ _ _ (Or.inr (⟨rfl, (fun h9 => h9.elim ((fun h9 => h9 (Or.inr (rfl)))) ((fun h9 => h9 (Or.inl (rfl)))))⟩)) (hP.sub [1] rfl) (hK.sub [] rfl) (hD.sub [1] (by decide) rfl) hS (Nat.le_of_ble_eq_true rfl) (Nat.le_of_ble_eq_true rfl) dX7_netsLike_44
    · skip
      subst hc
      have hP : va_P (dC, dI) vwCl [(k0, .inr (10, [.ref kN, .ref kA, .ref kO, .ref kK, .ref kV, .ref kG, .ref kP, .ref kC, .ref kD, .ref kE, .ref kF, .ref kX, .ref kY, .int 0, .ref kT, .ref kU, .int 0, .int 0, .int 0])), (kN, .inl (cI, 2, .inl (fun _ => 0))), (kA, .inl (cI, 2, .inl (fun _ => 0)))] _ := hP
      have hD : va_D A [(k0, .inr (10, [.ref kN, .ref kA, .ref kO, .ref kK, .ref kV, .ref kG, .ref kP, .ref kC, .ref kD, .ref kE, .ref kF, .ref kX, .ref kY, .int 0, .ref kT, .ref kU, .int 0, .int 0, .int 0])), (kN, .inl (cI, 2, .inl (fun _ => 0))), (kA, .inl (cI, 2, .inl (fun _ => 0)))] := hD
      refine lv_if_ne (tgt := 19) hx hb dX7_netsLike_12 (by decide) (fun _ => ?_) (fun h9 => absurd h9 (by decide))
      refine lv_aload_n hx hb dX7_netsLike_19 rfl (lv_at hl 0 rfl) ?_
      refine lv_iload_n hx hb dX7_netsLike_20 rfl (lv_at hl 1 rfl) ?_
      refine lv_iload_n hx hb dX7_netsLike_21 rfl (lv_at hl 2 rfl) ?_
      have hPc := hP.sub (ws' := [(k0, .inr (10, [.ref kN, .ref kA, .ref kO, .ref kK, .ref kV, .ref kG, .ref kP, .ref kC, .ref kD, .ref kE, .ref kF, .ref kX, .ref kY, .int 0, .ref kT, .ref kU, .int 0, .int 0, .int 0])), (kN, .inl (cI, 2, .inl (fun _ => 0)))]) [0, 1] rfl
      have hDc := hD.sub (ws' := [(k0, .inr (10, [.ref kN, .ref kA, .ref kO, .ref kK, .ref kV, .ref kG, .ref kP, .ref kC, .ref kD, .ref kE, .ref kF, .ref kX, .ref kY, .int 0, .ref kT, .ref kU, .int 0, .int 0, .int 0])), (kN, .inl (cI, 2, .inl (fun _ => 0)))]) [0, 1] (by decide) rfl
      have hKc := hK.sub (tys' := [(cI, .int)]) [0] rfl
      have hFc := va_free (wc := [(k0, .inr (10, [.ref kN, .ref kA, .ref kO, .ref kK, .ref kV, .ref kG, .ref kP, .ref kC, .ref kD, .ref kE, .ref kF, .ref kX, .ref kY, .int 0, .ref kT, .ref kU, .int 0, .int 0, .int 0])), (kN, .inl (cI, 2, .inl (fun _ => 0)))]) hD hS hA [0, 1] rfl
      refine va_calli (va_runV (As := [.int 1, .int p1]) (rest := [.ref k0]) ⟨hx, hb, hml, hown, hts⟩ (kX7_isNet1 l dC dI k0 kN kA kO kK kV kG kP kC kD kE kF kX kY kT kU cI p1 H.size) (cwV 2 hts gX7_netsLike_X7_isNet rfl rfl rfl (by decide +kernel) ⟨Nat.le_of_ble_eq_true rfl, Nat.le_of_ble_eq_true rfl⟩) (fPreV hN hZ hS (fun q h => hFc q h) hPc hKc hDc (ci := 10) (q0 := 0) rfl rfl) rfl rfl hl.1 rfl (lv_room (Nat.le_of_ble_eq_true rfl)) dX7_netsLike_22 ⟨Nat.le_of_ble_eq_true rfl, Nat.le_of_ble_eq_true rfl⟩) hS (fun q _ h => hFc q h) hFc (fun r u t H1 locs ht hvm hw hB hz1 hk1 hS => ?_)
      obtain ⟨hP1, hK1, hD1⟩ := hB
      rw [ht] at hP1
      have hK1 := va_K.moved hvm.symm hK1
      obtain ⟨hP, hD⟩ := va_join (wr := [(kA, .inl (cI, 2, .inl (fun _ => 0)))]) (w1 := [(k0, .inr (10, [.ref kN, .ref kA, .ref kO, .ref kK, .ref kV, .ref kG, .ref kP, .ref kC, .ref kD, .ref kE, .ref kF, .ref kX, .ref kY, .int 0, .ref kT, .ref kU, .int 0, .int 0, .int 0])), (kN, .inl (cI, 2, .inl (fun _ => 0)))]) hP hD [0, 1] [2] rfl rfl (by decide) (by decide) hk1 hFc hP1 hD1
      generalize H1 = H at hP hS ⊢
      have hP : va_P (dC, dI) vwCl [(kA, .inl (cI, 2, .inl (fun _ => 0))), (k0, .inr (10, [.ref kN, .ref kA, .ref kO, .ref kK, .ref kV, .ref kG, .ref kP, .ref kC, .ref kD, .ref kE, .ref kF, .ref kX, .ref kY, .int 0, .ref kT, .ref kU, .int 0, .int 0, .int 0])), (kN, .inl (cI, 2, .inl (fun _ => 0)))] _ := hP
      have hD : va_D A [(kA, .inl (cI, 2, .inl (fun _ => 0))), (k0, .inr (10, [.ref kN, .ref kA, .ref kO, .ref kK, .ref kV, .ref kG, .ref kP, .ref kC, .ref kD, .ref kE, .ref kF, .ref kX, .ref kY, .int 0, .ref kT, .ref kU, .int 0, .int 0, .int 0])), (kN, .inl (cI, 2, .inl (fun _ => 0)))] := hD
      subst hw
      refine lv_if_ne (tgt := 32) hx hb dX7_netsLike_25 (by decide) (fun h9 => absurd (by decide) h9) (fun _ => ?_)
      refine lv_iconst (v := 2) hx hb dX7_netsLike_28 (by decide) ?_
      refine lv_goto (tgt := 33) hx hb dX7_netsLike_29 (by decide) ?_
      refine va_put (D := (dC, dI)) (ci := 10) (v := .int 2) (ty := .int) (C := RX7) (T := TX7) (N := 19) hx hb hts (fun w h => List.mem_cons_of_mem _ (List.mem_append_left _ (List.mem_append_right _ (h)))) tyX7 tyX7_ok nmX7 hown hK hP hD hS 1 rfl rfl 16 (by decide) (hts (.fieldLink RX7 57 "NetcompareModel" "thrown" "I") (List.mem_cons_of_mem _ (List.mem_append_left _ (List.mem_append_left _ (List.mem_append_left _ (List.mem_of_getElem? (i := 0) rfl)))))) (fun _ h9 => h9) rfl (by decide +kernel) rfl rfl (Nat.le_of_ble_eq_true rfl) dX7_netsLike_33 (fun H locs hP hD hS => ?_)
      have hP : va_P (dC, dI) vwCl [(kA, .inl (cI, 2, .inl (fun _ => 0))), (k0, .inr (10, [.ref kN, .ref kA, .ref kO, .ref kK, .ref kV, .ref kG, .ref kP, .ref kC, .ref kD, .ref kE, .ref kF, .ref kX, .ref kY, .int 0, .ref kT, .ref kU, .int 2, .int 0, .int 0])), (kN, .inl (cI, 2, .inl (fun _ => 0)))] _ := hP
      have hD : va_D A [(kA, .inl (cI, 2, .inl (fun _ => 0))), (k0, .inr (10, [.ref kN, .ref kA, .ref kO, .ref kK, .ref kV, .ref kG, .ref kP, .ref kC, .ref kD, .ref kE, .ref kF, .ref kX, .ref kY, .int 0, .ref kT, .ref kU, .int 2, .int 0, .int 0])), (kN, .inl (cI, 2, .inl (fun _ => 0)))] := hD
      refine lv_aload_n hx hb dX7_netsLike_36 rfl (lv_at hl 0 rfl) ?_
      refine va_get (D := (dC, dI)) (ci := 10) (v := .int 2) (C := RX7) (T := TX7) (N := 19) hx hb hts (fun w h => List.mem_cons_of_mem _ (List.mem_append_left _ (List.mem_append_right _ (h)))) hown hK hP 1 rfl rfl 16 (by decide) (hts (.fieldLink RX7 57 "NetcompareModel" "thrown" "I") (List.mem_cons_of_mem _ (List.mem_append_left _ (List.mem_append_left _ (List.mem_append_left _ (List.mem_of_getElem? (i := 0) rfl)))))) (fun _ h9 => h9) rfl dX7_netsLike_37 ?_
      refine lv_if_le (tgt := 45) hx hb dX7_netsLike_40 (by decide) (fun h9 => absurd h9 (by decide)) (fun _ => ?_)
      refine lv_iconst (v := (-1)) hx hb dX7_netsLike_43 (by decide) ?_
      exact ret _ 2 _ _ _ _ _ _ (Or.inr (⟨rfl, (fun h9 => h9.elim ((fun h9 => h9 (Or.inr (rfl)))) ((fun h9 => h9 (Or.inr (rfl)))))⟩)) (hP.sub [1] rfl) (hK.sub [] rfl) (hD.sub [1] (by decide) rfl) hS (Nat.le_of_ble_eq_true rfl) (Nat.le_of_ble_eq_true rfl) dX7_netsLike_44
    · skip
      have hc2 := hc
      refine lv_if_ne (tgt := 19) hx hb dX7_netsLike_12 (by decide) (fun h9 => absurd (by decide) h9) (fun _ => ?_)
      refine lv_iconst (v := 1) hx hb dX7_netsLike_15 (by decide) ?_
      refine lv_goto (tgt := 33) hx hb dX7_netsLike_16 (by decide) ?_
      refine va_put (D := (dC, dI)) (ci := 10) (v := .int 1) (ty := .int) (C := RX7) (T := TX7) (N := 19) hx hb hts (fun w h => List.mem_cons_of_mem _ (List.mem_append_left _ (List.mem_append_right _ (h)))) tyX7 tyX7_ok nmX7 hown hK hP hD hS 0 rfl rfl 16 (by decide) (hts (.fieldLink RX7 57 "NetcompareModel" "thrown" "I") (List.mem_cons_of_mem _ (List.mem_append_left _ (List.mem_append_left _ (List.mem_append_left _ (List.mem_of_getElem? (i := 0) rfl)))))) (fun _ h9 => h9) rfl (by decide +kernel) rfl rfl (Nat.le_of_ble_eq_true rfl) dX7_netsLike_33 (fun H locs hP hD hS => ?_)
      have hP : va_P (dC, dI) vwCl [(k0, .inr (10, [.ref kN, .ref kA, .ref kO, .ref kK, .ref kV, .ref kG, .ref kP, .ref kC, .ref kD, .ref kE, .ref kF, .ref kX, .ref kY, .int 0, .ref kT, .ref kU, .int 1, .int 0, .int 0])), (kN, .inl (cI, 2, .inl (fun _ => 0))), (kA, .inl (cI, 2, .inl (fun _ => 0)))] _ := hP
      have hD : va_D A [(k0, .inr (10, [.ref kN, .ref kA, .ref kO, .ref kK, .ref kV, .ref kG, .ref kP, .ref kC, .ref kD, .ref kE, .ref kF, .ref kX, .ref kY, .int 0, .ref kT, .ref kU, .int 1, .int 0, .int 0])), (kN, .inl (cI, 2, .inl (fun _ => 0))), (kA, .inl (cI, 2, .inl (fun _ => 0)))] := hD
      refine lv_aload_n hx hb dX7_netsLike_36 rfl (lv_at hl 0 rfl) ?_
      refine va_get (D := (dC, dI)) (ci := 10) (v := .int 1) (C := RX7) (T := TX7) (N := 19) hx hb hts (fun w h => List.mem_cons_of_mem _ (List.mem_append_left _ (List.mem_append_right _ (h)))) hown hK hP 0 rfl rfl 16 (by decide) (hts (.fieldLink RX7 57 "NetcompareModel" "thrown" "I") (List.mem_cons_of_mem _ (List.mem_append_left _ (List.mem_append_left _ (List.mem_append_left _ (List.mem_of_getElem? (i := 0) rfl)))))) (fun _ h9 => h9) rfl dX7_netsLike_37 ?_
      refine lv_if_le (tgt := 45) hx hb dX7_netsLike_40 (by decide) (fun h9 => absurd h9 (by decide)) (fun _ => ?_)
      refine lv_iconst (v := (-1)) hx hb dX7_netsLike_43 (by decide) ?_
      exact ret _ 1 _ _ _ _ _ _ (Or.inl (⟨rfl, Or.inr (hc2)⟩)) (hP.sub [0] rfl) (hK.sub [] rfl) (hD.sub [0] (by decide) rfl) hS (Nat.le_of_ble_eq_true rfl) (Nat.le_of_ble_eq_true rfl) dX7_netsLike_44
  · skip
    have hc3 := hc
    refine lv_if_eq (tgt := 15) hx hb dX7_netsLike_5 (by decide) (fun _ => ?_) (fun h9 => absurd (by decide) h9)
    refine lv_iconst (v := 1) hx hb dX7_netsLike_15 (by decide) ?_
    refine lv_goto (tgt := 33) hx hb dX7_netsLike_16 (by decide) ?_
    refine va_put (D := (dC, dI)) (ci := 10) (v := .int 1) (ty := .int) (C := RX7) (T := TX7) (N := 19) hx hb hts (fun w h => List.mem_cons_of_mem _ (List.mem_append_left _ (List.mem_append_right _ (h)))) tyX7 tyX7_ok nmX7 hown hK hP hD hS 0 rfl rfl 16 (by decide) (hts (.fieldLink RX7 57 "NetcompareModel" "thrown" "I") (List.mem_cons_of_mem _ (List.mem_append_left _ (List.mem_append_left _ (List.mem_append_left _ (List.mem_of_getElem? (i := 0) rfl)))))) (fun _ h9 => h9) rfl (by decide +kernel) rfl rfl (Nat.le_of_ble_eq_true rfl) dX7_netsLike_33 (fun H locs hP hD hS => ?_)
    have hP : va_P (dC, dI) vwCl [(k0, .inr (10, [.ref kN, .ref kA, .ref kO, .ref kK, .ref kV, .ref kG, .ref kP, .ref kC, .ref kD, .ref kE, .ref kF, .ref kX, .ref kY, .int 0, .ref kT, .ref kU, .int 1, .int 0, .int 0])), (kN, .inl (cI, 2, .inl (fun _ => 0))), (kA, .inl (cI, 2, .inl (fun _ => 0)))] _ := hP
    have hD : va_D A [(k0, .inr (10, [.ref kN, .ref kA, .ref kO, .ref kK, .ref kV, .ref kG, .ref kP, .ref kC, .ref kD, .ref kE, .ref kF, .ref kX, .ref kY, .int 0, .ref kT, .ref kU, .int 1, .int 0, .int 0])), (kN, .inl (cI, 2, .inl (fun _ => 0))), (kA, .inl (cI, 2, .inl (fun _ => 0)))] := hD
    refine lv_aload_n hx hb dX7_netsLike_36 rfl (lv_at hl 0 rfl) ?_
    refine va_get (D := (dC, dI)) (ci := 10) (v := .int 1) (C := RX7) (T := TX7) (N := 19) hx hb hts (fun w h => List.mem_cons_of_mem _ (List.mem_append_left _ (List.mem_append_right _ (h)))) hown hK hP 0 rfl rfl 16 (by decide) (hts (.fieldLink RX7 57 "NetcompareModel" "thrown" "I") (List.mem_cons_of_mem _ (List.mem_append_left _ (List.mem_append_left _ (List.mem_append_left _ (List.mem_of_getElem? (i := 0) rfl)))))) (fun _ h9 => h9) rfl dX7_netsLike_37 ?_
    refine lv_if_le (tgt := 45) hx hb dX7_netsLike_40 (by decide) (fun h9 => absurd h9 (by decide)) (fun _ => ?_)
    refine lv_iconst (v := (-1)) hx hb dX7_netsLike_43 (by decide) ?_
    exact ret _ 1 _ _ _ _ _ _ (Or.inl (⟨rfl, Or.inl (hc3)⟩)) (hP.sub [0] rfl) (hK.sub [] rfl) (hD.sub [0] (by decide) rfl) hS (Nat.le_of_ble_eq_true rfl) (Nat.le_of_ble_eq_true rfl) dX7_netsLike_44

set_option maxHeartbeats 4000000 in
set_option maxRecDepth 100000 in
/-- the model: partsLike on a fresh one -/
theorem kX7_partsLike (l : Launch) (dC : Nat → ClassId) (dI : Nat → Nat → Nat) (k0 kN kA kO kK kV kG kP kC kD kE kF kX kY kT kU : Nat) (cI : ClassId) (p0 p1 p2 : Int32) (sz : Nat) : fMi l yX7_partsLike wsX7_partsLike ({ frames := 2, cells := 0, slots := 0, locals := 47 } : Room) dC dI [.ref k0, .int p0, .int p1, .int p2] [(k0, .inr (10, [.ref kN, .ref kA, .ref kO, .ref kK, .ref kV, .ref kG, .ref kP, .ref kC, .ref kD, .ref kE, .ref kF, .ref kX, .ref kY, .int 0, .ref kT, .ref kU, .int 0, .int 0, .int 0])), (kN, .inl (cI, 2, .inl (fun _ => 0))), (kA, .inl (cI, 2, .inl (fun _ => 0)))] [(cI, .int)] sz (fun (r : Int32) (u : Int32) => u = 1 ∧ ((¬ ((p0 = 0) ∨ (p0 = 1))) ∨ (¬ ((p2 = 0) ∨ (p2 = 1)))) ∨ u = 2 ∧ (¬ ((¬ ((p0 = 0) ∨ (p0 = 1))) ∨ (¬ ((p2 = 0) ∨ (p2 = 1)))))) (fun u => [(k0, .inr (10, [.ref kN, .ref kA, .ref kO, .ref kK, .ref kV, .ref kG, .ref kP, .ref kC, .ref kD, .ref kE, .ref kF, .ref kX, .ref kY, .int 0, .ref kT, .ref kU, .int u, .int 0, .int 0]))]) (fun u => []) := by
  refine oP_i (y := yX7_partsLike) (cc := cX7_partsLike) (maxL := 4) (by decide) rfl (Nat.le_of_ble_eq_true rfl) ?_
  intro p e s m args below meth c ls A Q hx hb hr hml hown hts hN hZ hA hin hlk hP hK hD hl ret
  have hS : va_S A s.heap s.heap [] := va_S.rf
  have hl : lv_has ls 4 [(0, .ref k0), (1, .int p0), (2, .int p1), (3, .int p2)] := hl
  have hP : va_P (dC, dI) vwCl [(k0, .inr (10, [.ref kN, .ref kA, .ref kO, .ref kK, .ref kV, .ref kG, .ref kP, .ref kC, .ref kD, .ref kE, .ref kF, .ref kX, .ref kY, .int 0, .ref kT, .ref kU, .int 0, .int 0, .int 0])), (kN, .inl (cI, 2, .inl (fun _ => 0))), (kA, .inl (cI, 2, .inl (fun _ => 0)))] _ := hP
  have hD : va_D A [(k0, .inr (10, [.ref kN, .ref kA, .ref kO, .ref kK, .ref kV, .ref kG, .ref kP, .ref kC, .ref kD, .ref kE, .ref kF, .ref kX, .ref kY, .int 0, .ref kT, .ref kU, .int 0, .int 0, .int 0])), (kN, .inl (cI, 2, .inl (fun _ => 0))), (kA, .inl (cI, 2, .inl (fun _ => 0)))] := hD
  refine lv_aload_n hx hb dX7_partsLike_0 rfl (lv_at hl 0 rfl) ?_
  refine lv_iload_n hx hb dX7_partsLike_1 rfl (lv_at hl 1 rfl) ?_
  have hPc := hP.sub (ws' := []) [] rfl
  have hDc := hD.sub (ws' := []) [] (by decide) rfl
  have hKc := hK.sub (tys' := []) [] rfl
  have hFc := va_free (wc := []) hD hS hA [] rfl
  refine va_calli (va_runS (As := [.int p0]) (rest := [.ref k0]) ⟨hx, hb, hml, hown, hts⟩ (kX7_isCircuit l dC dI p0 s.heap.size) (va_cwS 1 hts gX7_partsLike_X7_isCircuit rfl rfl rfl (by decide +kernel) ⟨Nat.le_of_ble_eq_true rfl, Nat.le_of_ble_eq_true rfl⟩) (fPreS hN hZ hS (fun q h => hFc q h) hPc hKc hDc) rfl rfl hl.1 rfl (lv_room (Nat.le_of_ble_eq_true rfl)) dX7_partsLike_2 ⟨Nat.le_of_ble_eq_true rfl, Nat.le_of_ble_eq_true rfl⟩) hS (fun q _ h => hFc q h) hFc (fun r u t H1 locs ht hvm hw hB hz1 hk1 hS => ?_)
  obtain ⟨hP1, hK1, hD1⟩ := hB
  rw [ht] at hP1
  have hK1 := va_K.moved hvm.symm hK1
  obtain ⟨hP, hD⟩ := va_join (wr := [(k0, .inr (10, [.ref kN, .ref kA, .ref kO, .ref kK, .ref kV, .ref kG, .ref kP, .ref kC, .ref kD, .ref kE, .ref kF, .ref kX, .ref kY, .int 0, .ref kT, .ref kU, .int 0, .int 0, .int 0])), (kN, .inl (cI, 2, .inl (fun _ => 0))), (kA, .inl (cI, 2, .inl (fun _ => 0)))]) (w1 := []) hP hD [] [0, 1, 2] rfl rfl (by decide) (by decide) hk1 hFc hP1 hD1
  generalize H1 = H at hP hS ⊢
  have hP : va_P (dC, dI) vwCl [(k0, .inr (10, [.ref kN, .ref kA, .ref kO, .ref kK, .ref kV, .ref kG, .ref kP, .ref kC, .ref kD, .ref kE, .ref kF, .ref kX, .ref kY, .int 0, .ref kT, .ref kU, .int 0, .int 0, .int 0])), (kN, .inl (cI, 2, .inl (fun _ => 0))), (kA, .inl (cI, 2, .inl (fun _ => 0)))] _ := hP
  have hD : va_D A [(k0, .inr (10, [.ref kN, .ref kA, .ref kO, .ref kK, .ref kV, .ref kG, .ref kP, .ref kC, .ref kD, .ref kE, .ref kF, .ref kX, .ref kY, .int 0, .ref kT, .ref kU, .int 0, .int 0, .int 0])), (kN, .inl (cI, 2, .inl (fun _ => 0))), (kA, .inl (cI, 2, .inl (fun _ => 0)))] := hD
  rcases hw with ⟨rfl, hc | hc⟩ | ⟨rfl, hc⟩
  · skip
    subst hc
    have hP : va_P (dC, dI) vwCl [(k0, .inr (10, [.ref kN, .ref kA, .ref kO, .ref kK, .ref kV, .ref kG, .ref kP, .ref kC, .ref kD, .ref kE, .ref kF, .ref kX, .ref kY, .int 0, .ref kT, .ref kU, .int 0, .int 0, .int 0])), (kN, .inl (cI, 2, .inl (fun _ => 0))), (kA, .inl (cI, 2, .inl (fun _ => 0)))] _ := hP
    have hD : va_D A [(k0, .inr (10, [.ref kN, .ref kA, .ref kO, .ref kK, .ref kV, .ref kG, .ref kP, .ref kC, .ref kD, .ref kE, .ref kF, .ref kX, .ref kY, .int 0, .ref kT, .ref kU, .int 0, .int 0, .int 0])), (kN, .inl (cI, 2, .inl (fun _ => 0))), (kA, .inl (cI, 2, .inl (fun _ => 0)))] := hD
    refine lv_if_eq (tgt := 15) hx hb dX7_partsLike_5 (by decide) (fun h9 => absurd h9 (by decide)) (fun _ => ?_)
    refine lv_iload_n hx hb dX7_partsLike_8 rfl (lv_at hl 3 rfl) ?_
    have hPc := hP.sub (ws' := []) [] rfl
    have hDc := hD.sub (ws' := []) [] (by decide) rfl
    have hKc := hK.sub (tys' := []) [] rfl
    have hFc := va_free (wc := []) hD hS hA [] rfl
    refine va_calli (va_runS (As := [.int p2]) (rest := [.ref k0]) ⟨hx, hb, hml, hown, hts⟩ (kX7_isCircuit l dC dI p2 H.size) (va_cwS 1 hts gX7_partsLike_X7_isCircuit rfl rfl rfl (by decide +kernel) ⟨Nat.le_of_ble_eq_true rfl, Nat.le_of_ble_eq_true rfl⟩) (fPreS hN hZ hS (fun q h => hFc q h) hPc hKc hDc) rfl rfl hl.1 rfl (lv_room (Nat.le_of_ble_eq_true rfl)) dX7_partsLike_9 ⟨Nat.le_of_ble_eq_true rfl, Nat.le_of_ble_eq_true rfl⟩) hS (fun q _ h => hFc q h) hFc (fun r u t H1 locs ht hvm hw hB hz1 hk1 hS => ?_)
    obtain ⟨hP1, hK1, hD1⟩ := hB
    rw [ht] at hP1
    have hK1 := va_K.moved hvm.symm hK1
    obtain ⟨hP, hD⟩ := va_join (wr := [(k0, .inr (10, [.ref kN, .ref kA, .ref kO, .ref kK, .ref kV, .ref kG, .ref kP, .ref kC, .ref kD, .ref kE, .ref kF, .ref kX, .ref kY, .int 0, .ref kT, .ref kU, .int 0, .int 0, .int 0])), (kN, .inl (cI, 2, .inl (fun _ => 0))), (kA, .inl (cI, 2, .inl (fun _ => 0)))]) (w1 := []) hP hD [] [0, 1, 2] rfl rfl (by decide) (by decide) hk1 hFc hP1 hD1
    generalize H1 = H at hP hS ⊢
    have hP : va_P (dC, dI) vwCl [(k0, .inr (10, [.ref kN, .ref kA, .ref kO, .ref kK, .ref kV, .ref kG, .ref kP, .ref kC, .ref kD, .ref kE, .ref kF, .ref kX, .ref kY, .int 0, .ref kT, .ref kU, .int 0, .int 0, .int 0])), (kN, .inl (cI, 2, .inl (fun _ => 0))), (kA, .inl (cI, 2, .inl (fun _ => 0)))] _ := hP
    have hD : va_D A [(k0, .inr (10, [.ref kN, .ref kA, .ref kO, .ref kK, .ref kV, .ref kG, .ref kP, .ref kC, .ref kD, .ref kE, .ref kF, .ref kX, .ref kY, .int 0, .ref kT, .ref kU, .int 0, .int 0, .int 0])), (kN, .inl (cI, 2, .inl (fun _ => 0))), (kA, .inl (cI, 2, .inl (fun _ => 0)))] := hD
    rcases hw with ⟨rfl, hc | hc⟩ | ⟨rfl, hc⟩
    · skip
      subst hc
      have hP : va_P (dC, dI) vwCl [(k0, .inr (10, [.ref kN, .ref kA, .ref kO, .ref kK, .ref kV, .ref kG, .ref kP, .ref kC, .ref kD, .ref kE, .ref kF, .ref kX, .ref kY, .int 0, .ref kT, .ref kU, .int 0, .int 0, .int 0])), (kN, .inl (cI, 2, .inl (fun _ => 0))), (kA, .inl (cI, 2, .inl (fun _ => 0)))] _ := hP
      have hD : va_D A [(k0, .inr (10, [.ref kN, .ref kA, .ref kO, .ref kK, .ref kV, .ref kG, .ref kP, .ref kC, .ref kD, .ref kE, .ref kF, .ref kX, .ref kY, .int 0, .ref kT, .ref kU, .int 0, .int 0, .int 0])), (kN, .inl (cI, 2, .inl (fun _ => 0))), (kA, .inl (cI, 2, .inl (fun _ => 0)))] := hD
      refine lv_if_ne (tgt := 19) hx hb dX7_partsLike_12 (by decide) (fun _ => ?_) (fun h9 => absurd h9 (by decide))
      refine lv_aload_n hx hb dX7_partsLike_19 rfl (lv_at hl 0 rfl) ?_
      refine lv_iload_n hx hb dX7_partsLike_20 rfl (lv_at hl 1 rfl) ?_
      refine lv_iload_n hx hb dX7_partsLike_21 rfl (lv_at hl 2 rfl) ?_
      have hPc := hP.sub (ws' := [(k0, .inr (10, [.ref kN, .ref kA, .ref kO, .ref kK, .ref kV, .ref kG, .ref kP, .ref kC, .ref kD, .ref kE, .ref kF, .ref kX, .ref kY, .int 0, .ref kT, .ref kU, .int 0, .int 0, .int 0])), (kA, .inl (cI, 2, .inl (fun _ => 0)))]) [0, 2] rfl
      have hDc := hD.sub (ws' := [(k0, .inr (10, [.ref kN, .ref kA, .ref kO, .ref kK, .ref kV, .ref kG, .ref kP, .ref kC, .ref kD, .ref kE, .ref kF, .ref kX, .ref kY, .int 0, .ref kT, .ref kU, .int 0, .int 0, .int 0])), (kA, .inl (cI, 2, .inl (fun _ => 0)))]) [0, 2] (by decide) rfl
      have hKc := hK.sub (tys' := [(cI, .int)]) [0] rfl
      have hFc := va_free (wc := [(k0, .inr (10, [.ref kN, .ref kA, .ref kO, .ref kK, .ref kV, .ref kG, .ref kP, .ref kC, .ref kD, .ref kE, .ref kF, .ref kX, .ref kY, .int 0, .ref kT, .ref kU, .int 0, .int 0, .int 0])), (kA, .inl (cI, 2, .inl (fun _ => 0)))]) hD hS hA [0, 2] rfl
      refine va_calli (va_runV (As := [.int 0, .int p1]) (rest := [.ref k0]) ⟨hx, hb, hml, hown, hts⟩ (kX7_isPart0 l dC dI k0 kN kA kO kK kV kG kP kC kD kE kF kX kY kT kU cI p1 H.size) (cwV 2 hts gX7_partsLike_X7_isPart rfl rfl rfl (by decide +kernel) ⟨Nat.le_of_ble_eq_true rfl, Nat.le_of_ble_eq_true rfl⟩) (fPreV hN hZ hS (fun q h => hFc q h) hPc hKc hDc (ci := 10) (q0 := 0) rfl rfl) rfl rfl hl.1 rfl (lv_room (Nat.le_of_ble_eq_true rfl)) dX7_partsLike_22 ⟨Nat.le_of_ble_eq_true rfl, Nat.le_of_ble_eq_true rfl⟩) hS (fun q _ h => hFc q h) hFc (fun r u t H1 locs ht hvm hw hB hz1 hk1 hS => ?_)
      obtain ⟨hP1, hK1, hD1⟩ := hB
      rw [ht] at hP1
      have hK1 := va_K.moved hvm.symm hK1
      obtain ⟨hP, hD⟩ := va_join (wr := [(kN, .inl (cI, 2, .inl (fun _ => 0)))]) (w1 := [(k0, .inr (10, [.ref kN, .ref kA, .ref kO, .ref kK, .ref kV, .ref kG, .ref kP, .ref kC, .ref kD, .ref kE, .ref kF, .ref kX, .ref kY, .int 0, .ref kT, .ref kU, .int 0, .int 0, .int 0])), (kA, .inl (cI, 2, .inl (fun _ => 0)))]) hP hD [0, 2] [1] rfl rfl (by decide) (by decide) hk1 hFc hP1 hD1
      generalize H1 = H at hP hS ⊢
      have hP : va_P (dC, dI) vwCl [(kN, .inl (cI, 2, .inl (fun _ => 0))), (k0, .inr (10, [.ref kN, .ref kA, .ref kO, .ref kK, .ref kV, .ref kG, .ref kP, .ref kC, .ref kD, .ref kE, .ref kF, .ref kX, .ref kY, .int 0, .ref kT, .ref kU, .int 0, .int 0, .int 0])), (kA, .inl (cI, 2, .inl (fun _ => 0)))] _ := hP
      have hD : va_D A [(kN, .inl (cI, 2, .inl (fun _ => 0))), (k0, .inr (10, [.ref kN, .ref kA, .ref kO, .ref kK, .ref kV, .ref kG, .ref kP, .ref kC, .ref kD, .ref kE, .ref kF, .ref kX, .ref kY, .int 0, .ref kT, .ref kU, .int 0, .int 0, .int 0])), (kA, .inl (cI, 2, .inl (fun _ => 0)))] := hD
      subst hw
      refine lv_if_ne (tgt := 32) hx hb dX7_partsLike_25 (by decide) (fun h9 => absurd (by decide) h9) (fun _ => ?_)
      refine lv_iconst (v := 2) hx hb dX7_partsLike_28 (by decide) ?_
      refine lv_goto (tgt := 33) hx hb dX7_partsLike_29 (by decide) ?_
      refine va_put (D := (dC, dI)) (ci := 10) (v := .int 2) (ty := .int) (C := RX7) (T := TX7) (N := 19) hx hb hts (fun w h => List.mem_cons_of_mem _ (List.mem_append_left _ (List.mem_append_right _ (h)))) tyX7 tyX7_ok nmX7 hown hK hP hD hS 1 rfl rfl 16 (by decide) (hts (.fieldLink RX7 57 "NetcompareModel" "thrown" "I") (List.mem_cons_of_mem _ (List.mem_append_left _ (List.mem_append_left _ (List.mem_append_left _ (List.mem_of_getElem? (i := 0) rfl)))))) (fun _ h9 => h9) rfl (by decide +kernel) rfl rfl (Nat.le_of_ble_eq_true rfl) dX7_partsLike_33 (fun H locs hP hD hS => ?_)
      have hP : va_P (dC, dI) vwCl [(kN, .inl (cI, 2, .inl (fun _ => 0))), (k0, .inr (10, [.ref kN, .ref kA, .ref kO, .ref kK, .ref kV, .ref kG, .ref kP, .ref kC, .ref kD, .ref kE, .ref kF, .ref kX, .ref kY, .int 0, .ref kT, .ref kU, .int 2, .int 0, .int 0])), (kA, .inl (cI, 2, .inl (fun _ => 0)))] _ := hP
      have hD : va_D A [(kN, .inl (cI, 2, .inl (fun _ => 0))), (k0, .inr (10, [.ref kN, .ref kA, .ref kO, .ref kK, .ref kV, .ref kG, .ref kP, .ref kC, .ref kD, .ref kE, .ref kF, .ref kX, .ref kY, .int 0, .ref kT, .ref kU, .int 2, .int 0, .int 0])), (kA, .inl (cI, 2, .inl (fun _ => 0)))] := hD
      refine lv_aload_n hx hb dX7_partsLike_36 rfl (lv_at hl 0 rfl) ?_
      refine va_get (D := (dC, dI)) (ci := 10) (v := .int 2) (C := RX7) (T := TX7) (N := 19) hx hb hts (fun w h => List.mem_cons_of_mem _ (List.mem_append_left _ (List.mem_append_right _ (h)))) hown hK hP 1 rfl rfl 16 (by decide) (hts (.fieldLink RX7 57 "NetcompareModel" "thrown" "I") (List.mem_cons_of_mem _ (List.mem_append_left _ (List.mem_append_left _ (List.mem_append_left _ (List.mem_of_getElem? (i := 0) rfl)))))) (fun _ h9 => h9) rfl dX7_partsLike_37 ?_
      refine lv_if_le (tgt := 45) hx hb dX7_partsLike_40 (by decide) (fun h9 => absurd h9 (by decide)) (fun _ => ?_)
      refine lv_iconst (v := (-1)) hx hb dX7_partsLike_43 (by decide) ?_
      exact ret _ 2 _ _ _ _ _ _ (Or.inr (⟨rfl, (fun h9 => h9.elim ((fun h9 => h9 (Or.inl (rfl)))) ((fun h9 => h9 (Or.inl (rfl)))))⟩)) (hP.sub [1] rfl) (hK.sub [] rfl) (hD.sub [1] (by decide) rfl) hS (Nat.le_of_ble_eq_true rfl) (Nat.le_of_ble_eq_true rfl) dX7_partsLike_44
    · skip
      subst hc
      have hP : va_P (dC, dI) vwCl [(k0, .inr (10, [.ref kN, .ref kA, .ref kO, .ref kK, .ref kV, .ref kG, .ref kP, .ref kC, .ref kD, .ref kE, .ref kF, .ref kX, .ref kY, .int 0, .ref kT, .ref kU, .int 0, .int 0, .int 0])), (kN, .inl (cI, 2, .inl (fun _ => 0))), (kA, .inl (cI, 2, .inl (fun _ => 0)))] _ := hP
      have hD : va_D A [(k0, .inr (10, [.ref kN, .ref kA, .ref kO, .ref kK, .ref kV, .ref kG, .ref kP, .ref kC, .ref kD, .ref kE, .ref kF, .ref kX, .ref kY, .int 0, .ref kT, .ref kU, .int 0, .int 0, .int 0])), (kN, .inl (cI, 2, .inl (fun _ => 0))), (kA, .inl (cI, 2, .inl (fun _ => 0)))] := hD
      refine lv_if_ne (tgt := 19) hx hb dX7_partsLike_12 (by decide) (fun _ => ?_) (fun h9 => absurd h9 (by decide))
      refine lv_aload_n hx hb dX7_partsLike_19 rfl (lv_at hl 0 rfl) ?_
      refine lv_iload_n hx hb dX7_partsLike_20 rfl (lv_at hl 1 rfl) ?_
      refine lv_iload_n hx hb dX7_partsLike_21 rfl (lv_at hl 2 rfl) ?_
      have hPc := hP.sub (ws' := [(k0, .inr (10, [.ref kN, .ref kA, .ref kO, .ref kK, .ref kV, .ref kG, .ref kP, .ref kC, .ref kD, .ref kE, .ref kF, .ref kX, .ref kY, .int 0, .ref kT, .ref kU, .int 0, .int 0, .int 0])), (kA, .inl (cI, 2, .inl (fun _ => 0)))]) [0, 2] rfl
      have hDc := hD.sub (ws' := [(k0, .inr (10, [.ref kN, .ref kA, .ref kO, .ref kK, .ref kV, .ref kG, .ref kP, .ref kC, .ref kD, .ref kE, .ref kF, .ref kX, .ref kY, .int 0, .ref kT, .ref kU, .int 0, .int 0, .int 0])), (kA, .inl (cI, 2, .inl (fun _ => 0)))]) [0, 2] (by decide) rfl
      have hKc := hK.sub (tys' := [(cI, .int)]) [0] rfl
      have hFc := va_free (wc := [(k0, .inr (10, [.ref kN, .ref kA, .ref kO, .ref kK, .ref kV, .ref kG, .ref kP, .ref kC, .ref kD, .ref kE, .ref kF, .ref kX, .ref kY, .int 0, .ref kT, .ref kU, .int 0, .int 0, .int 0])), (kA, .inl (cI, 2, .inl (fun _ => 0)))]) hD hS hA [0, 2] rfl
      refine va_calli (va_runV (As := [.int 0, .int p1]) (rest := [.ref k0]) ⟨hx, hb, hml, hown, hts⟩ (kX7_isPart0 l dC dI k0 kN kA kO kK kV kG kP kC kD kE kF kX kY kT kU cI p1 H.size) (cwV 2 hts gX7_partsLike_X7_isPart rfl rfl rfl (by decide +kernel) ⟨Nat.le_of_ble_eq_true rfl, Nat.le_of_ble_eq_true rfl⟩) (fPreV hN hZ hS (fun q h => hFc q h) hPc hKc hDc (ci := 10) (q0 := 0) rfl rfl) rfl rfl hl.1 rfl (lv_room (Nat.le_of_ble_eq_true rfl)) dX7_partsLike_22 ⟨Nat.le_of_ble_eq_true rfl, Nat.le_of_ble_eq_true rfl⟩) hS (fun q _ h => hFc q h) hFc (fun r u t H1 locs ht hvm hw hB hz1 hk1 hS => ?_)
      obtain ⟨hP1, hK1, hD1⟩ := hB
      rw [ht] at hP1
      have hK1 := va_K.moved hvm.symm hK1
      obtain ⟨hP, hD⟩ := va_join (wr := [(kN, .inl (cI, 2, .inl (fun _ => 0)))]) (w1 := [(k0, .inr (10, [.ref kN, .ref kA, .ref kO, .ref kK, .ref kV, .ref kG, .ref kP, .ref kC, .ref kD, .ref kE, .ref kF, .ref kX, .ref kY, .int 0, .ref kT, .ref kU, .int 0, .int 0, .int 0])), (kA, .inl (cI, 2, .inl (fun _ => 0)))]) hP hD [0, 2] [1] rfl rfl (by decide) (by decide) hk1 hFc hP1 hD1
      generalize H1 = H at hP hS ⊢
      have hP : va_P (dC, dI) vwCl [(kN, .inl (cI, 2, .inl (fun _ => 0))), (k0, .inr (10, [.ref kN, .ref kA, .ref kO, .ref kK, .ref kV, .ref kG, .ref kP, .ref kC, .ref kD, .ref kE, .ref kF, .ref kX, .ref kY, .int 0, .ref kT, .ref kU, .int 0, .int 0, .int 0])), (kA, .inl (cI, 2, .inl (fun _ => 0)))] _ := hP
      have hD : va_D A [(kN, .inl (cI, 2, .inl (fun _ => 0))), (k0, .inr (10, [.ref kN, .ref kA, .ref kO, .ref kK, .ref kV, .ref kG, .ref kP, .ref kC, .ref kD, .ref kE, .ref kF, .ref kX, .ref kY, .int 0, .ref kT, .ref kU, .int 0, .int 0, .int 0])), (kA, .inl (cI, 2, .inl (fun _ => 0)))] := hD
      subst hw
      refine lv_if_ne (tgt := 32) hx hb dX7_partsLike_25 (by decide) (fun h9 => absurd (by decide) h9) (fun _ => ?_)
      refine lv_iconst (v := 2) hx hb dX7_partsLike_28 (by decide) ?_
      refine lv_goto (tgt := 33) hx hb dX7_partsLike_29 (by decide) ?_
      refine va_put (D := (dC, dI)) (ci := 10) (v := .int 2) (ty := .int) (C := RX7) (T := TX7) (N := 19) hx hb hts (fun w h => List.mem_cons_of_mem _ (List.mem_append_left _ (List.mem_append_right _ (h)))) tyX7 tyX7_ok nmX7 hown hK hP hD hS 1 rfl rfl 16 (by decide) (hts (.fieldLink RX7 57 "NetcompareModel" "thrown" "I") (List.mem_cons_of_mem _ (List.mem_append_left _ (List.mem_append_left _ (List.mem_append_left _ (List.mem_of_getElem? (i := 0) rfl)))))) (fun _ h9 => h9) rfl (by decide +kernel) rfl rfl (Nat.le_of_ble_eq_true rfl) dX7_partsLike_33 (fun H locs hP hD hS => ?_)
      have hP : va_P (dC, dI) vwCl [(kN, .inl (cI, 2, .inl (fun _ => 0))), (k0, .inr (10, [.ref kN, .ref kA, .ref kO, .ref kK, .ref kV, .ref kG, .ref kP, .ref kC, .ref kD, .ref kE, .ref kF, .ref kX, .ref kY, .int 0, .ref kT, .ref kU, .int 2, .int 0, .int 0])), (kA, .inl (cI, 2, .inl (fun _ => 0)))] _ := hP
      have hD : va_D A [(kN, .inl (cI, 2, .inl (fun _ => 0))), (k0, .inr (10, [.ref kN, .ref kA, .ref kO, .ref kK, .ref kV, .ref kG, .ref kP, .ref kC, .ref kD, .ref kE, .ref kF, .ref kX, .ref kY, .int 0, .ref kT, .ref kU, .int 2, .int 0, .int 0])), (kA, .inl (cI, 2, .inl (fun _ => 0)))] := hD
      refine lv_aload_n hx hb dX7_partsLike_36 rfl (lv_at hl 0 rfl) ?_
      refine va_get (D := (dC, dI)) (ci := 10) (v := .int 2) (C := RX7) (T := TX7) (N := 19) hx hb hts (fun w h => List.mem_cons_of_mem _ (List.mem_append_left _ (List.mem_append_right _ (h)))) hown hK hP 1 rfl rfl 16 (by decide) (hts (.fieldLink RX7 57 "NetcompareModel" "thrown" "I") (List.mem_cons_of_mem _ (List.mem_append_left _ (List.mem_append_left _ (List.mem_append_left _ (List.mem_of_getElem? (i := 0) rfl)))))) (fun _ h9 => h9) rfl dX7_partsLike_37 ?_
      refine lv_if_le (tgt := 45) hx hb dX7_partsLike_40 (by decide) (fun h9 => absurd h9 (by decide)) (fun _ => ?_)
      refine lv_iconst (v := (-1)) hx hb dX7_partsLike_43 (by decide) ?_
      exact ret _ 2 _ _ _ _ _ _ (Or.inr (⟨rfl, (fun h9 => h9.elim ((fun h9 => h9 (Or.inl (rfl)))) ((fun h9 => h9 (Or.inr (rfl)))))⟩)) (hP.sub [1] rfl) (hK.sub [] rfl) (hD.sub [1] (by decide) rfl) hS (Nat.le_of_ble_eq_true rfl) (Nat.le_of_ble_eq_true rfl) dX7_partsLike_44
    · skip
      have hc1 := hc
      refine lv_if_ne (tgt := 19) hx hb dX7_partsLike_12 (by decide) (fun h9 => absurd (by decide) h9) (fun _ => ?_)
      refine lv_iconst (v := 1) hx hb dX7_partsLike_15 (by decide) ?_
      refine lv_goto (tgt := 33) hx hb dX7_partsLike_16 (by decide) ?_
      refine va_put (D := (dC, dI)) (ci := 10) (v := .int 1) (ty := .int) (C := RX7) (T := TX7) (N := 19) hx hb hts (fun w h => List.mem_cons_of_mem _ (List.mem_append_left _ (List.mem_append_right _ (h)))) tyX7 tyX7_ok nmX7 hown hK hP hD hS 0 rfl rfl 16 (by decide) (hts (.fieldLink RX7 57 "NetcompareModel" "thrown" "I") (List.mem_cons_of_mem _ (List.mem_append_left _ (List.mem_append_left _ (List.mem_append_left _ (List.mem_of_getElem? (i := 0) rfl)))))) (fun _ h9 => h9) rfl (by decide +kernel) rfl rfl (Nat.le_of_ble_eq_true rfl) dX7_partsLike_33 (fun H locs hP hD hS => ?_)
      have hP : va_P (dC, dI) vwCl [(k0, .inr (10, [.ref kN, .ref kA, .ref kO, .ref kK, .ref kV, .ref kG, .ref kP, .ref kC, .ref kD, .ref kE, .ref kF, .ref kX, .ref kY, .int 0, .ref kT, .ref kU, .int 1, .int 0, .int 0])), (kN, .inl (cI, 2, .inl (fun _ => 0))), (kA, .inl (cI, 2, .inl (fun _ => 0)))] _ := hP
      have hD : va_D A [(k0, .inr (10, [.ref kN, .ref kA, .ref kO, .ref kK, .ref kV, .ref kG, .ref kP, .ref kC, .ref kD, .ref kE, .ref kF, .ref kX, .ref kY, .int 0, .ref kT, .ref kU, .int 1, .int 0, .int 0])), (kN, .inl (cI, 2, .inl (fun _ => 0))), (kA, .inl (cI, 2, .inl (fun _ => 0)))] := hD
      refine lv_aload_n hx hb dX7_partsLike_36 rfl (lv_at hl 0 rfl) ?_
      refine va_get (D := (dC, dI)) (ci := 10) (v := .int 1) (C := RX7) (T := TX7) (N := 19) hx hb hts (fun w h => List.mem_cons_of_mem _ (List.mem_append_left _ (List.mem_append_right _ (h)))) hown hK hP 0 rfl rfl 16 (by decide) (hts (.fieldLink RX7 57 "NetcompareModel" "thrown" "I") (List.mem_cons_of_mem _ (List.mem_append_left _ (List.mem_append_left _ (List.mem_append_left _ (List.mem_of_getElem? (i := 0) rfl)))))) (fun _ h9 => h9) rfl dX7_partsLike_37 ?_
      refine lv_if_le (tgt := 45) hx hb dX7_partsLike_40 (by decide) (fun h9 => absurd h9 (by decide)) (fun _ => ?_)
      refine lv_iconst (v := (-1)) hx hb dX7_partsLike_43 (by decide) ?_
      exact ret _ 1 _ _ _ _ _ _ (Or.inl (⟨rfl, Or.inr (hc1)⟩)) (hP.sub [0] rfl) (hK.sub [] rfl) (hD.sub [0] (by decide) rfl) hS (Nat.le_of_ble_eq_true rfl) (Nat.le_of_ble_eq_true rfl) dX7_partsLike_44
  · skip
    subst hc
    have hP : va_P (dC, dI) vwCl [(k0, .inr (10, [.ref kN, .ref kA, .ref kO, .ref kK, .ref kV, .ref kG, .ref kP, .ref kC, .ref kD, .ref kE, .ref kF, .ref kX, .ref kY, .int 0, .ref kT, .ref kU, .int 0, .int 0, .int 0])), (kN, .inl (cI, 2, .inl (fun _ => 0))), (kA, .inl (cI, 2, .inl (fun _ => 0)))] _ := hP
    have hD : va_D A [(k0, .inr (10, [.ref kN, .ref kA, .ref kO, .ref kK, .ref kV, .ref kG, .ref kP, .ref kC, .ref kD, .ref kE, .ref kF, .ref kX, .ref kY, .int 0, .ref kT, .ref kU, .int 0, .int 0, .int 0])), (kN, .inl (cI, 2, .inl (fun _ => 0))), (kA, .inl (cI, 2, .inl (fun _ => 0)))] := hD
    refine lv_if_eq (tgt := 15) hx hb dX7_partsLike_5 (by decide) (fun h9 => absurd h9 (by decide)) (fun _ => ?_)
    refine lv_iload_n hx hb dX7_partsLike_8 rfl (lv_at hl 3 rfl) ?_
    have hPc := hP.sub (ws' := []) [] rfl
    have hDc := hD.sub (ws' := []) [] (by decide) rfl
    have hKc := hK.sub (tys' := []) [] rfl
    have hFc := va_free (wc := []) hD hS hA [] rfl
    refine va_calli (va_runS (As := [.int p2]) (rest := [.ref k0]) ⟨hx, hb, hml, hown, hts⟩ (kX7_isCircuit l dC dI p2 H.size) (va_cwS 1 hts gX7_partsLike_X7_isCircuit rfl rfl rfl (by decide +kernel) ⟨Nat.le_of_ble_eq_true rfl, Nat.le_of_ble_eq_true rfl⟩) (fPreS hN hZ hS (fun q h => hFc q h) hPc hKc hDc) rfl rfl hl.1 rfl (lv_room (Nat.le_of_ble_eq_true rfl)) dX7_partsLike_9 ⟨Nat.le_of_ble_eq_true rfl, Nat.le_of_ble_eq_true rfl⟩) hS (fun q _ h => hFc q h) hFc (fun r u t H1 locs ht hvm hw hB hz1 hk1 hS => ?_)
    obtain ⟨hP1, hK1, hD1⟩ := hB
    rw [ht] at hP1
    have hK1 := va_K.moved hvm.symm hK1
    obtain ⟨hP, hD⟩ := va_join (wr := [(k0, .inr (10, [.ref kN, .ref kA, .ref kO, .ref kK, .ref kV, .ref kG, .ref kP, .ref kC, .ref kD, .ref kE, .ref kF, .ref kX, .ref kY, .int 0, .ref kT, .ref kU, .int 0, .int 0, .int 0])), (kN, .inl (cI, 2, .inl (fun _ => 0))), (kA, .inl (cI, 2, .inl (fun _ => 0)))]) (w1 := []) hP hD [] [0, 1, 2] rfl rfl (by decide) (by decide) hk1 hFc hP1 hD1
    generalize H1 = H at hP hS ⊢
    have hP : va_P (dC, dI) vwCl [(k0, .inr (10, [.ref kN, .ref kA, .ref kO, .ref kK, .ref kV, .ref kG, .ref kP, .ref kC, .ref kD, .ref kE, .ref kF, .ref kX, .ref kY, .int 0, .ref kT, .ref kU, .int 0, .int 0, .int 0])), (kN, .inl (cI, 2, .inl (fun _ => 0))), (kA, .inl (cI, 2, .inl (fun _ => 0)))] _ := hP
    have hD : va_D A [(k0, .inr (10, [.ref kN, .ref kA, .ref kO, .ref kK, .ref kV, .ref kG, .ref kP, .ref kC, .ref kD, .ref kE, .ref kF, .ref kX, .ref kY, .int 0, .ref kT, .ref kU, .int 0, .int 0, .int 0])), (kN, .inl (cI, 2, .inl (fun _ => 0))), (kA, .inl (cI, 2, .inl (fun _ => 0)))] := hD
    rcases hw with ⟨rfl, hc | hc⟩ | ⟨rfl, hc⟩
    · skip
      subst hc
      have hP : va_P (dC, dI) vwCl [(k0, .inr (10, [.ref kN, .ref kA, .ref kO, .ref kK, .ref kV, .ref kG, .ref kP, .ref kC, .ref kD, .ref kE, .ref kF, .ref kX, .ref kY, .int 0, .ref kT, .ref kU, .int 0, .int 0, .int 0])), (kN, .inl (cI, 2, .inl (fun _ => 0))), (kA, .inl (cI, 2, .inl (fun _ => 0)))] _ := hP
      have hD : va_D A [(k0, .inr (10, [.ref kN, .ref kA, .ref kO, .ref kK, .ref kV, .ref kG, .ref kP, .ref kC, .ref kD, .ref kE, .ref kF, .ref kX, .ref kY, .int 0, .ref kT, .ref kU, .int 0, .int 0, .int 0])), (kN, .inl (cI, 2, .inl (fun _ => 0))), (kA, .inl (cI, 2, .inl (fun _ => 0)))] := hD
      refine lv_if_ne (tgt := 19) hx hb dX7_partsLike_12 (by decide) (fun _ => ?_) (fun h9 => absurd h9 (by decide))
      refine lv_aload_n hx hb dX7_partsLike_19 rfl (lv_at hl 0 rfl) ?_
      refine lv_iload_n hx hb dX7_partsLike_20 rfl (lv_at hl 1 rfl) ?_
      refine lv_iload_n hx hb dX7_partsLike_21 rfl (lv_at hl 2 rfl) ?_
      have hPc := hP.sub (ws' := [(k0, .inr (10, [.ref kN, .ref kA, .ref kO, .ref kK, .ref kV, .ref kG, .ref kP, .ref kC, .ref kD, .ref kE, .ref kF, .ref kX, .ref kY, .int 0, .ref kT, .ref kU, .int 0, .int 0, .int 0])), (kA, .inl (cI, 2, .inl (fun _ => 0)))]) [0, 2] rfl
      have hDc := hD.sub (ws' := [(k0, .inr (10, [.ref kN, .ref kA, .ref kO, .ref kK, .ref kV, .ref kG, .ref kP, .ref kC, .ref kD, .ref kE, .ref kF, .ref kX, .ref kY, .int 0, .ref kT, .ref kU, .int 0, .int 0, .int 0])), (kA, .inl (cI, 2, .inl (fun _ => 0)))]) [0, 2] (by decide) rfl
      have hKc := hK.sub (tys' := [(cI, .int)]) [0] rfl
      have hFc := va_free (wc := [(k0, .inr (10, [.ref kN, .ref kA, .ref kO, .ref kK, .ref kV, .ref kG, .ref kP, .ref kC, .ref kD, .ref kE, .ref kF, .ref kX, .ref kY, .int 0, .ref kT, .ref kU, .int 0, .int 0, .int 0])), (kA, .inl (cI, 2, .inl (fun _ => 0)))]) hD hS hA [0, 2] rfl
      refine va_calli (va_runV (As := [.int 1, .int p1]) (rest := [.ref k0]) ⟨hx, hb, hml, hown, hts⟩ (kX7_isPart1 l dC dI k0 kN kA kO kK kV kG kP kC kD kE kF kX kY kT kU cI p1 H.size) (cwV 2 hts gX7_partsLike_X7_isPart rfl rfl rfl (by decide +kernel) ⟨Nat.le_of_ble_eq_true rfl, Nat.le_of_ble_eq_true rfl⟩) (fPreV hN hZ hS (fun q h => hFc q h) hPc hKc hDc (ci := 10) (q0 := 0) rfl rfl) rfl rfl hl.1 rfl (lv_room (Nat.le_of_ble_eq_true rfl)) dX7_partsLike_22 ⟨Nat.le_of_ble_eq_true rfl, Nat.le_of_ble_eq_true rfl⟩) hS (fun q _ h => hFc q h) hFc (fun r u t H1 locs ht hvm hw hB hz1 hk1 hS => ?_)
      obtain ⟨hP1, hK1, hD1⟩ := hB
      rw [ht] at hP1
      have hK1 := va_K.moved hvm.symm hK1
      obtain ⟨hP, hD⟩ := va_join (wr := [(kN, .inl (cI, 2, .inl (fun _ => 0)))]) (w1 := [(k0, .inr (10, [.ref kN, .ref kA, .ref kO, .ref kK, .ref kV, .ref kG, .ref kP, .ref kC, .ref kD, .ref kE, .ref kF, .ref kX, .ref kY, .int 0, .ref kT, .ref kU, .int 0, .int 0, .int 0])), (kA, .inl (cI, 2, .inl (fun _ => 0)))]) hP hD [0, 2] [1] rfl rfl (by decide) (by decide) hk1 hFc hP1 hD1
      generalize H1 = H at hP hS ⊢
      have hP : va_P (dC, dI) vwCl [(kN, .inl (cI, 2, .inl (fun _ => 0))), (k0, .inr (10, [.ref kN, .ref kA, .ref kO, .ref kK, .ref kV, .ref kG, .ref kP, .ref kC, .ref kD, .ref kE, .ref kF, .ref kX, .ref kY, .int 0, .ref kT, .ref kU, .int 0, .int 0, .int 0])), (kA, .inl (cI, 2, .inl (fun _ => 0)))] _ := hP
      have hD : va_D A [(kN, .inl (cI, 2, .inl (fun _ => 0))), (k0, .inr (10, [.ref kN, .ref kA, .ref kO, .ref kK, .ref kV, .ref kG, .ref kP, .ref kC, .ref kD, .ref kE, .ref kF, .ref kX, .ref kY, .int 0, .ref kT, .ref kU, .int 0, .int 0, .int 0])), (kA, .inl (cI, 2, .inl (fun _ => 0)))] := hD
      subst hw
      refine lv_if_ne (tgt := 32) hx hb dX7_partsLike_25 (by decide) (fun h9 => absurd (by decide) h9) (fun _ => ?_)
      refine lv_iconst (v := 2) hx hb dX7_partsLike_28 (by decide) ?_
      refine lv_goto (tgt := 33) hx hb dX7_partsLike_29 (by decide) ?_
      refine va_put (D := (dC, dI)) (ci := 10) (v := .int 2) (ty := .int) (C := RX7) (T := TX7) (N := 19) hx hb hts (fun w h => List.mem_cons_of_mem _ (List.mem_append_left _ (List.mem_append_right _ (h)))) tyX7 tyX7_ok nmX7 hown hK hP hD hS 1 rfl rfl 16 (by decide) (hts (.fieldLink RX7 57 "NetcompareModel" "thrown" "I") (List.mem_cons_of_mem _ (List.mem_append_left _ (List.mem_append_left _ (List.mem_append_left _ (List.mem_of_getElem? (i := 0) rfl)))))) (fun _ h9 => h9) rfl (by decide +kernel) rfl rfl (Nat.le_of_ble_eq_true rfl) dX7_partsLike_33 (fun H locs hP hD hS => ?_)
      have hP : va_P (dC, dI) vwCl [(kN, .inl (cI, 2, .inl (fun _ => 0))), (k0, .inr (10, [.ref kN, .ref kA, .ref kO, .ref kK, .ref kV, .ref kG, .ref kP, .ref kC, .ref kD, .ref kE, .ref kF, .ref kX, .ref kY, .int 0, .ref kT, .ref kU, .int 2, .int 0, .int 0])), (kA, .inl (cI, 2, .inl (fun _ => 0)))] _ := hP
      have hD : va_D A [(kN, .inl (cI, 2, .inl (fun _ => 0))), (k0, .inr (10, [.ref kN, .ref kA, .ref kO, .ref kK, .ref kV, .ref kG, .ref kP, .ref kC, .ref kD, .ref kE, .ref kF, .ref kX, .ref kY, .int 0, .ref kT, .ref kU, .int 2, .int 0, .int 0])), (kA, .inl (cI, 2, .inl (fun _ => 0)))] := hD
      refine lv_aload_n hx hb dX7_partsLike_36 rfl (lv_at hl 0 rfl) ?_
      refine va_get (D := (dC, dI)) (ci := 10) (v := .int 2) (C := RX7) (T := TX7) (N := 19) hx hb hts (fun w h => List.mem_cons_of_mem _ (List.mem_append_left _ (List.mem_append_right _ (h)))) hown hK hP 1 rfl rfl 16 (by decide) (hts (.fieldLink RX7 57 "NetcompareModel" "thrown" "I") (List.mem_cons_of_mem _ (List.mem_append_left _ (List.mem_append_left _ (List.mem_append_left _ (List.mem_of_getElem? (i := 0) rfl)))))) (fun _ h9 => h9) rfl dX7_partsLike_37 ?_
      refine lv_if_le (tgt := 45) hx hb dX7_partsLike_40 (by decide) (fun h9 => absurd h9 (by decide)) (fun _ => ?_)
      refine lv_iconst (v := (-1)) hx hb dX7_partsLike_43 (by decide) ?_
      exact ret _ 2 _ _ _ _ _ _ (Or.inr (⟨rfl, (fun h9 => h9.elim ((fun h9 => h9 (Or.inr (rfl)))) ((fun h9 => h9 (Or.inl (rfl)))))⟩)) (hP.sub [1] rfl) (hK.sub [] rfl) (hD.sub [1] (by decide) rfl) hS (Nat.le_of_ble_eq_true rfl) (Nat.le_of_ble_eq_true rfl) dX7_partsLike_44
    · skip
      subst hc
      have hP : va_P (dC, dI) vwCl [(k0, .inr (10, [.ref kN, .ref kA, .ref kO, .ref kK, .ref kV, .ref kG, .ref kP, .ref kC, .ref kD, .ref kE, .ref kF, .ref kX, .ref kY, .int 0, .ref kT, .ref kU, .int 0, .int 0, .int 0])), (kN, .inl (cI, 2, .inl (fun _ => 0))), (kA, .inl (cI, 2, .inl (fun _ => 0)))] _ := hP
      have hD : va_D A [(k0, .inr (10, [.ref kN, .ref kA, .ref kO, .ref kK, .ref kV, .ref kG, .ref kP, .ref kC, .ref kD, .ref kE, .ref kF, .ref kX, .ref kY, .int 0, .ref kT, .ref kU, .int 0, .int 0, .int 0])), (kN, .inl (cI, 2, .inl (fun _ => 0))), (kA, .inl (cI, 2, .inl (fun _ => 0)))] := hD
      refine lv_if_ne (tgt := 19) hx hb dX7_partsLike_12 (by decide) (fun _ => ?_) (fun h9 => absurd h9 (by decide))
      refine lv_aload_n hx hb dX7_partsLike_19 rfl (lv_at hl 0 rfl) ?_
      refine lv_iload_n hx hb dX7_partsLike_20 rfl (lv_at hl 1 rfl) ?_
      refine lv_iload_n hx hb dX7_partsLike_21 rfl (lv_at hl 2 rfl) ?_
      have hPc := hP.sub (ws' := [(k0, .inr (10, [.ref kN, .ref kA, .ref kO, .ref kK, .ref kV, .ref kG, .ref kP, .ref kC, .ref kD, .ref kE, .ref kF, .ref kX, .ref kY, .int 0, .ref kT, .ref kU, .int 0, .int 0, .int 0])), (kA, .inl (cI, 2, .inl (fun _ => 0)))]) [0, 2] rfl
      have hDc := hD.sub (ws' := [(k0, .inr (10, [.ref kN, .ref kA, .ref kO, .ref kK, .ref kV, .ref kG, .ref kP, .ref kC, .ref kD, .ref kE, .ref kF, .ref kX, .ref kY, .int 0, .ref kT, .ref kU, .int 0, .int 0, .int 0])), (kA, .inl (cI, 2, .inl (fun _ => 0)))]) [0, 2] (by decide) rfl
      have hKc := hK.sub (tys' := [(cI, .int)]) [0] rfl
      have hFc := va_free (wc := [(k0, .inr (10, [.ref kN, .ref kA, .ref kO, .ref kK, .ref kV, .ref kG, .ref kP, .ref kC, .ref kD, .ref kE, .ref kF, .ref kX, .ref kY, .int 0, .ref kT, .ref kU, .int 0, .int 0, .int 0])), (kA, .inl (cI, 2, .inl (fun _ => 0)))]) hD hS hA [0, 2] rfl
      refine va_calli (va_runV (As := [.int 1, .int p1]) (rest := [.ref k0]) ⟨hx, hb, hml, hown, hts⟩ (kX7_isPart1 l dC dI k0 kN kA kO kK kV kG kP kC kD kE kF kX kY kT kU cI p1 H.size) (cwV 2 hts gX7_partsLike_X7_isPart rfl rfl rfl (by decide +kernel) ⟨Nat.le_of_ble_eq_true rfl, Nat.le_of_ble_eq_true rfl⟩) (fPreV hN hZ hS (fun q h => hFc q h) hPc hKc hDc (ci := 10) (q0 := 0) rfl rfl) rfl rfl hl.1 rfl (lv_room (Nat.le_of_ble_eq_true rfl)) dX7_partsLike_22 ⟨Nat.le_of_ble_eq_true rfl, Nat.le_of_ble_eq_true rfl⟩) hS (fun q _ h => hFc q h) hFc (fun r u t H1 locs ht hvm hw hB hz1 hk1 hS => ?_)
      obtain ⟨hP1, hK1, hD1⟩ := hB
      rw [ht] at hP1
      have hK1 := va_K.moved hvm.symm hK1
      obtain ⟨hP, hD⟩ := va_join (wr := [(kN, .inl (cI, 2, .inl (fun _ => 0)))]) (w1 := [(k0, .inr (10, [.ref kN, .ref kA, .ref kO, .ref kK, .ref kV, .ref kG, .ref kP, .ref kC, .ref kD, .ref kE, .ref kF, .ref kX, .ref kY, .int 0, .ref kT, .ref kU, .int 0, .int 0, .int 0])), (kA, .inl (cI, 2, .inl (fun _ => 0)))]) hP hD [0, 2] [1] rfl rfl (by decide) (by decide) hk1 hFc hP1 hD1
      generalize H1 = H at hP hS ⊢
      have hP : va_P (dC, dI) vwCl [(kN, .inl (cI, 2, .inl (fun _ => 0))), (k0, .inr (10, [.ref kN, .ref kA, .ref kO, .ref kK, .ref kV, .ref kG, .ref kP, .ref kC, .ref kD, .ref kE, .ref kF, .ref kX, .ref kY, .int 0, .ref kT, .ref kU, .int 0, .int 0, .int 0])), (kA, .inl (cI, 2, .inl (fun _ => 0)))] _ := hP
      have hD : va_D A [(kN, .inl (cI, 2, .inl (fun _ => 0))), (k0, .inr (10, [.ref kN, .ref kA, .ref kO, .ref kK, .ref kV, .ref kG, .ref kP, .ref kC, .ref kD, .ref kE, .ref kF, .ref kX, .ref kY, .int 0, .ref kT, .ref kU, .int 0, .int 0, .int 0])), (kA, .inl (cI, 2, .inl (fun _ => 0)))] := hD
      subst hw
      refine lv_if_ne (tgt := 32) hx hb dX7_partsLike_25 (by decide) (fun h9 => absurd (by decide) h9) (fun _ => ?_)
      refine lv_iconst (v := 2) hx hb dX7_partsLike_28 (by decide) ?_
      refine lv_goto (tgt := 33) hx hb dX7_partsLike_29 (by decide) ?_
      refine va_put (D := (dC, dI)) (ci := 10) (v := .int 2) (ty := .int) (C := RX7) (T := TX7) (N := 19) hx hb hts (fun w h => List.mem_cons_of_mem _ (List.mem_append_left _ (List.mem_append_right _ (h)))) tyX7 tyX7_ok nmX7 hown hK hP hD hS 1 rfl rfl 16 (by decide) (hts (.fieldLink RX7 57 "NetcompareModel" "thrown" "I") (List.mem_cons_of_mem _ (List.mem_append_left _ (List.mem_append_left _ (List.mem_append_left _ (List.mem_of_getElem? (i := 0) rfl)))))) (fun _ h9 => h9) rfl (by decide +kernel) rfl rfl (Nat.le_of_ble_eq_true rfl) dX7_partsLike_33 (fun H locs hP hD hS => ?_)
      have hP : va_P (dC, dI) vwCl [(kN, .inl (cI, 2, .inl (fun _ => 0))), (k0, .inr (10, [.ref kN, .ref kA, .ref kO, .ref kK, .ref kV, .ref kG, .ref kP, .ref kC, .ref kD, .ref kE, .ref kF, .ref kX, .ref kY, .int 0, .ref kT, .ref kU, .int 2, .int 0, .int 0])), (kA, .inl (cI, 2, .inl (fun _ => 0)))] _ := hP
      have hD : va_D A [(kN, .inl (cI, 2, .inl (fun _ => 0))), (k0, .inr (10, [.ref kN, .ref kA, .ref kO, .ref kK, .ref kV, .ref kG, .ref kP, .ref kC, .ref kD, .ref kE, .ref kF, .ref kX, .ref kY, .int 0, .ref kT, .ref kU, .int 2, .int 0, .int 0])), (kA, .inl (cI, 2, .inl (fun _ => 0)))] := hD
      refine lv_aload_n hx hb dX7_partsLike_36 rfl (lv_at hl 0 rfl) ?_
      refine va_get (D := (dC, dI)) (ci := 10) (v := .int 2) (C := RX7) (T := TX7) (N := 19) hx hb hts (fun w h => List.mem_cons_of_mem _ (List.mem_append_left _ (List.mem_append_right _ (h)))) hown hK hP 1 rfl rfl 16 (by decide) (hts (.fieldLink RX7 57 "NetcompareModel" "thrown" "I") (List.mem_cons_of_mem _ (List.mem_append_left _ (List.mem_append_left _ (List.mem_append_left _ (List.mem_of_getElem? (i := 0) rfl)))))) (fun _ h9 => h9) rfl dX7_partsLike_37 ?_
      refine lv_if_le (tgt := 45) hx hb dX7_partsLike_40 (by decide) (fun h9 => absurd h9 (by decide)) (fun _ => ?_)
      refine lv_iconst (v := (-1)) hx hb dX7_partsLike_43 (by decide) ?_
      exact ret _ 2 _ _ _ _ _ _ (Or.inr (⟨rfl, (fun h9 => h9.elim ((fun h9 => h9 (Or.inr (rfl)))) ((fun h9 => h9 (Or.inr (rfl)))))⟩)) (hP.sub [1] rfl) (hK.sub [] rfl) (hD.sub [1] (by decide) rfl) hS (Nat.le_of_ble_eq_true rfl) (Nat.le_of_ble_eq_true rfl) dX7_partsLike_44
    · skip
      have hc2 := hc
      refine lv_if_ne (tgt := 19) hx hb dX7_partsLike_12 (by decide) (fun h9 => absurd (by decide) h9) (fun _ => ?_)
      refine lv_iconst (v := 1) hx hb dX7_partsLike_15 (by decide) ?_
      refine lv_goto (tgt := 33) hx hb dX7_partsLike_16 (by decide) ?_
      refine va_put (D := (dC, dI)) (ci := 10) (v := .int 1) (ty := .int) (C := RX7) (T := TX7) (N := 19) hx hb hts (fun w h => List.mem_cons_of_mem _ (List.mem_append_left _ (List.mem_append_right _ (h)))) tyX7 tyX7_ok nmX7 hown hK hP hD hS 0 rfl rfl 16 (by decide) (hts (.fieldLink RX7 57 "NetcompareModel" "thrown" "I") (List.mem_cons_of_mem _ (List.mem_append_left _ (List.mem_append_left _ (List.mem_append_left _ (List.mem_of_getElem? (i := 0) rfl)))))) (fun _ h9 => h9) rfl (by decide +kernel) rfl rfl (Nat.le_of_ble_eq_true rfl) dX7_partsLike_33 (fun H locs hP hD hS => ?_)
      have hP : va_P (dC, dI) vwCl [(k0, .inr (10, [.ref kN, .ref kA, .ref kO, .ref kK, .ref kV, .ref kG, .ref kP, .ref kC, .ref kD, .ref kE, .ref kF, .ref kX, .ref kY, .int 0, .ref kT, .ref kU, .int 1, .int 0, .int 0])), (kN, .inl (cI, 2, .inl (fun _ => 0))), (kA, .inl (cI, 2, .inl (fun _ => 0)))] _ := hP
      have hD : va_D A [(k0, .inr (10, [.ref kN, .ref kA, .ref kO, .ref kK, .ref kV, .ref kG, .ref kP, .ref kC, .ref kD, .ref kE, .ref kF, .ref kX, .ref kY, .int 0, .ref kT, .ref kU, .int 1, .int 0, .int 0])), (kN, .inl (cI, 2, .inl (fun _ => 0))), (kA, .inl (cI, 2, .inl (fun _ => 0)))] := hD
      refine lv_aload_n hx hb dX7_partsLike_36 rfl (lv_at hl 0 rfl) ?_
      refine va_get (D := (dC, dI)) (ci := 10) (v := .int 1) (C := RX7) (T := TX7) (N := 19) hx hb hts (fun w h => List.mem_cons_of_mem _ (List.mem_append_left _ (List.mem_append_right _ (h)))) hown hK hP 0 rfl rfl 16 (by decide) (hts (.fieldLink RX7 57 "NetcompareModel" "thrown" "I") (List.mem_cons_of_mem _ (List.mem_append_left _ (List.mem_append_left _ (List.mem_append_left _ (List.mem_of_getElem? (i := 0) rfl)))))) (fun _ h9 => h9) rfl dX7_partsLike_37 ?_
      refine lv_if_le (tgt := 45) hx hb dX7_partsLike_40 (by decide) (fun h9 => absurd h9 (by decide)) (fun _ => ?_)
      refine lv_iconst (v := (-1)) hx hb dX7_partsLike_43 (by decide) ?_
      exact ret _ 1 _ _ _ _ _ _ (Or.inl (⟨rfl, Or.inr (hc2)⟩)) (hP.sub [0] rfl) (hK.sub [] rfl) (hD.sub [0] (by decide) rfl) hS (Nat.le_of_ble_eq_true rfl) (Nat.le_of_ble_eq_true rfl) dX7_partsLike_44
  · skip
    have hc3 := hc
    refine lv_if_eq (tgt := 15) hx hb dX7_partsLike_5 (by decide) (fun _ => ?_) (fun h9 => absurd (by decide) h9)
    refine lv_iconst (v := 1) hx hb dX7_partsLike_15 (by decide) ?_
    refine lv_goto (tgt := 33) hx hb dX7_partsLike_16 (by decide) ?_
    refine va_put (D := (dC, dI)) (ci := 10) (v := .int 1) (ty := .int) (C := RX7) (T := TX7) (N := 19) hx hb hts (fun w h => List.mem_cons_of_mem _ (List.mem_append_left _ (List.mem_append_right _ (h)))) tyX7 tyX7_ok nmX7 hown hK hP hD hS 0 rfl rfl 16 (by decide) (hts (.fieldLink RX7 57 "NetcompareModel" "thrown" "I") (List.mem_cons_of_mem _ (List.mem_append_left _ (List.mem_append_left _ (List.mem_append_left _ (List.mem_of_getElem? (i := 0) rfl)))))) (fun _ h9 => h9) rfl (by decide +kernel) rfl rfl (Nat.le_of_ble_eq_true rfl) dX7_partsLike_33 (fun H locs hP hD hS => ?_)
    have hP : va_P (dC, dI) vwCl [(k0, .inr (10, [.ref kN, .ref kA, .ref kO, .ref kK, .ref kV, .ref kG, .ref kP, .ref kC, .ref kD, .ref kE, .ref kF, .ref kX, .ref kY, .int 0, .ref kT, .ref kU, .int 1, .int 0, .int 0])), (kN, .inl (cI, 2, .inl (fun _ => 0))), (kA, .inl (cI, 2, .inl (fun _ => 0)))] _ := hP
    have hD : va_D A [(k0, .inr (10, [.ref kN, .ref kA, .ref kO, .ref kK, .ref kV, .ref kG, .ref kP, .ref kC, .ref kD, .ref kE, .ref kF, .ref kX, .ref kY, .int 0, .ref kT, .ref kU, .int 1, .int 0, .int 0])), (kN, .inl (cI, 2, .inl (fun _ => 0))), (kA, .inl (cI, 2, .inl (fun _ => 0)))] := hD
    refine lv_aload_n hx hb dX7_partsLike_36 rfl (lv_at hl 0 rfl) ?_
    refine va_get (D := (dC, dI)) (ci := 10) (v := .int 1) (C := RX7) (T := TX7) (N := 19) hx hb hts (fun w h => List.mem_cons_of_mem _ (List.mem_append_left _ (List.mem_append_right _ (h)))) hown hK hP 0 rfl rfl 16 (by decide) (hts (.fieldLink RX7 57 "NetcompareModel" "thrown" "I") (List.mem_cons_of_mem _ (List.mem_append_left _ (List.mem_append_left _ (List.mem_append_left _ (List.mem_of_getElem? (i := 0) rfl)))))) (fun _ h9 => h9) rfl dX7_partsLike_37 ?_
    refine lv_if_le (tgt := 45) hx hb dX7_partsLike_40 (by decide) (fun h9 => absurd h9 (by decide)) (fun _ => ?_)
    refine lv_iconst (v := (-1)) hx hb dX7_partsLike_43 (by decide) ?_
    exact ret _ 1 _ _ _ _ _ _ (Or.inl (⟨rfl, Or.inl (hc3)⟩)) (hP.sub [0] rfl) (hK.sub [] rfl) (hD.sub [0] (by decide) rfl) hS (Nat.le_of_ble_eq_true rfl) (Nat.le_of_ble_eq_true rfl) dX7_partsLike_44

set_option maxHeartbeats 4000000 in
set_option maxRecDepth 100000 in
/-- the model: areAlike on a fresh one -/
theorem kX7_areAlike (l : Launch) (dC : Nat → ClassId) (dI : Nat → Nat → Nat) (k0 kN kA kO kK kV kG kP kC kD kE kF kX kY kT kU : Nat) (cI : ClassId) (p0 p1 : Int32) (sz : Nat) : fMi l yX7_areAlike wsX7_areAlike ({ frames := 2, cells := 0, slots := 0, locals := 47 } : Room) dC dI [.ref k0, .int p0, .int p1] [(k0, .inr (10, [.ref kN, .ref kA, .ref kO, .ref kK, .ref kV, .ref kG, .ref kP, .ref kC, .ref kD, .ref kE, .ref kF, .ref kX, .ref kY, .int 0, .ref kT, .ref kU, .int 0, .int 0, .int 0])), (kN, .inl (cI, 2, .inl (fun _ => 0))), (kA, .inl (cI, 2, .inl (fun _ => 0)))] [(cI, .int)] sz (fun (r : Int32) (u : Int32) => u = 1) (fun u => [(k0, .inr (10, [.ref kN, .ref kA, .ref kO, .ref kK, .ref kV, .ref kG, .ref kP, .ref kC, .ref kD, .ref kE, .ref kF, .ref kX, .ref kY, .int 0, .ref kT, .ref kU, .int u, .int 0, .int 0]))]) (fun u => []) := by
  refine oP_z (y := yX7_areAlike) (cc := cX7_areAlike) (maxL := 3) (by decide) rfl (Nat.le_of_ble_eq_true rfl) ?_
  intro p e s m args below meth c ls A Q hx hb hr hml hown hts hN hZ hA hin hlk hP hK hD hl ret
  have hS : va_S A s.heap s.heap [] := va_S.rf
  have hl : lv_has ls 3 [(0, .ref k0), (1, .int p0), (2, .int p1)] := hl
  have hP : va_P (dC, dI) vwCl [(k0, .inr (10, [.ref kN, .ref kA, .ref kO, .ref kK, .ref kV, .ref kG, .ref kP, .ref kC, .ref kD, .ref kE, .ref kF, .ref kX, .ref kY, .int 0, .ref kT, .ref kU, .int 0, .int 0, .int 0])), (kN, .inl (cI, 2, .inl (fun _ => 0))), (kA, .inl (cI, 2, .inl (fun _ => 0)))] _ := hP
  have hD : va_D A [(k0, .inr (10, [.ref kN, .ref kA, .ref kO, .ref kK, .ref kV, .ref kG, .ref kP, .ref kC, .ref kD, .ref kE, .ref kF, .ref kX, .ref kY, .int 0, .ref kT, .ref kU, .int 0, .int 0, .int 0])), (kN, .inl (cI, 2, .inl (fun _ => 0))), (kA, .inl (cI, 2, .inl (fun _ => 0)))] := hD
  refine lv_aload_n hx hb dX7_areAlike_0 rfl (lv_at hl 0 rfl) ?_
  refine lv_aload_n hx hb dX7_areAlike_1 rfl (lv_at hl 0 rfl) ?_
  refine lv_iconst (v := 0) hx hb dX7_areAlike_2 (by decide) ?_
  refine lv_iload_n hx hb dX7_areAlike_3 rfl (lv_at hl 1 rfl) ?_
  have hPc := hP.sub (ws' := [(k0, .inr (10, [.ref kN, .ref kA, .ref kO, .ref kK, .ref kV, .ref kG, .ref kP, .ref kC, .ref kD, .ref kE, .ref kF, .ref kX, .ref kY, .int 0, .ref kT, .ref kU, .int 0, .int 0, .int 0])), (kN, .inl (cI, 2, .inl (fun _ => 0)))]) [0, 1] rfl
  have hDc := hD.sub (ws' := [(k0, .inr (10, [.ref kN, .ref kA, .ref kO, .ref kK, .ref kV, .ref kG, .ref kP, .ref kC, .ref kD, .ref kE, .ref kF, .ref kX, .ref kY, .int 0, .ref kT, .ref kU, .int 0, .int 0, .int 0])), (kN, .inl (cI, 2, .inl (fun _ => 0)))]) [0, 1] (by decide) rfl
  have hKc := hK.sub (tys' := [(cI, .int)]) [0] rfl
  have hFc := va_free (wc := [(k0, .inr (10, [.ref kN, .ref kA, .ref kO, .ref kK, .ref kV, .ref kG, .ref kP, .ref kC, .ref kD, .ref kE, .ref kF, .ref kX, .ref kY, .int 0, .ref kT, .ref kU, .int 0, .int 0, .int 0])), (kN, .inl (cI, 2, .inl (fun _ => 0)))]) hD hS hA [0, 1] rfl
  refine va_calli (va_runV (As := [.int 0, .int p0]) (rest := [.ref k0]) ⟨hx, hb, hml, hown, hts⟩ (kX7_isNet0 l dC dI k0 kN kA kO kK kV kG kP kC kD kE kF kX kY kT kU cI p0 s.heap.size) (cwV 2 hts gX7_areAlike_X7_isNet rfl rfl rfl (by decide +kernel) ⟨Nat.le_of_ble_eq_true rfl, Nat.le_of_ble_eq_true rfl⟩) (fPreV hN hZ hS (fun q h => hFc q h) hPc hKc hDc (ci := 10) (q0 := 0) rfl rfl) rfl rfl hl.1 rfl (lv_room (Nat.le_of_ble_eq_true rfl)) dX7_areAlike_4 ⟨Nat.le_of_ble_eq_true rfl, Nat.le_of_ble_eq_true rfl⟩) hS (fun q _ h => hFc q h) hFc (fun r u t H1 locs ht hvm hw hB hz1 hk1 hS => ?_)
  obtain ⟨hP1, hK1, hD1⟩ := hB
  rw [ht] at hP1
  have hK1 := va_K.moved hvm.symm hK1
  obtain ⟨hP, hD⟩ := va_join (wr := [(kA, .inl (cI, 2, .inl (fun _ => 0)))]) (w1 := [(k0, .inr (10, [.ref kN, .ref kA, .ref kO, .ref kK, .ref kV, .ref kG, .ref kP, .ref kC, .ref kD, .ref kE, .ref kF, .ref kX, .ref kY, .int 0, .ref kT, .ref kU, .int 0, .int 0, .int 0])), (kN, .inl (cI, 2, .inl (fun _ => 0)))]) hP hD [0, 1] [2] rfl rfl (by decide) (by decide) hk1 hFc hP1 hD1
  generalize H1 = H at hP hS ⊢
  have hP : va_P (dC, dI) vwCl [(kA, .inl (cI, 2, .inl (fun _ => 0))), (k0, .inr (10, [.ref kN, .ref kA, .ref kO, .ref kK, .ref kV, .ref kG, .ref kP, .ref kC, .ref kD, .ref kE, .ref kF, .ref kX, .ref kY, .int 0, .ref kT, .ref kU, .int 0, .int 0, .int 0])), (kN, .inl (cI, 2, .inl (fun _ => 0)))] _ := hP
  have hD : va_D A [(kA, .inl (cI, 2, .inl (fun _ => 0))), (k0, .inr (10, [.ref kN, .ref kA, .ref kO, .ref kK, .ref kV, .ref kG, .ref kP, .ref kC, .ref kD, .ref kE, .ref kF, .ref kX, .ref kY, .int 0, .ref kT, .ref kU, .int 0, .int 0, .int 0])), (kN, .inl (cI, 2, .inl (fun _ => 0)))] := hD
  subst hw
  refine lv_if_eq (tgt := 19) hx hb dX7_areAlike_7 (by decide) (fun _ => ?_) (fun h9 => absurd (by decide) h9)
  refine lv_iconst (v := 1) hx hb dX7_areAlike_19 (by decide) ?_
  refine lv_goto (tgt := 24) hx hb dX7_areAlike_20 (by decide) ?_
  refine va_put (D := (dC, dI)) (ci := 10) (v := .int 1) (ty := .int) (C := RX7) (T := TX7) (N := 19) hx hb hts (fun w h => List.mem_cons_of_mem _ (List.mem_append_left _ (List.mem_append_right _ (h)))) tyX7 tyX7_ok nmX7 hown hK hP hD hS 1 rfl rfl 16 (by decide) (hts (.fieldLink RX7 57 "NetcompareModel" "thrown" "I") (List.mem_cons_of_mem _ (List.mem_append_left _ (List.mem_append_left _ (List.mem_append_left _ (List.mem_of_getElem? (i := 0) rfl)))))) (fun _ h9 => h9) rfl (by decide +kernel) rfl rfl (Nat.le_of_ble_eq_true rfl) dX7_areAlike_24 (fun H locs hP hD hS => ?_)
  have hP : va_P (dC, dI) vwCl [(kA, .inl (cI, 2, .inl (fun _ => 0))), (k0, .inr (10, [.ref kN, .ref kA, .ref kO, .ref kK, .ref kV, .ref kG, .ref kP, .ref kC, .ref kD, .ref kE, .ref kF, .ref kX, .ref kY, .int 0, .ref kT, .ref kU, .int 1, .int 0, .int 0])), (kN, .inl (cI, 2, .inl (fun _ => 0)))] _ := hP
  have hD : va_D A [(kA, .inl (cI, 2, .inl (fun _ => 0))), (k0, .inr (10, [.ref kN, .ref kA, .ref kO, .ref kK, .ref kV, .ref kG, .ref kP, .ref kC, .ref kD, .ref kE, .ref kF, .ref kX, .ref kY, .int 0, .ref kT, .ref kU, .int 1, .int 0, .int 0])), (kN, .inl (cI, 2, .inl (fun _ => 0)))] := hD
  refine lv_aload_n hx hb dX7_areAlike_27 rfl (lv_at hl 0 rfl) ?_
  refine va_get (D := (dC, dI)) (ci := 10) (v := .int 1) (C := RX7) (T := TX7) (N := 19) hx hb hts (fun w h => List.mem_cons_of_mem _ (List.mem_append_left _ (List.mem_append_right _ (h)))) hown hK hP 1 rfl rfl 16 (by decide) (hts (.fieldLink RX7 57 "NetcompareModel" "thrown" "I") (List.mem_cons_of_mem _ (List.mem_append_left _ (List.mem_append_left _ (List.mem_append_left _ (List.mem_of_getElem? (i := 0) rfl)))))) (fun _ h9 => h9) rfl dX7_areAlike_28 ?_
  refine lv_if_le (tgt := 36) hx hb dX7_areAlike_31 (by decide) (fun h9 => absurd h9 (by decide)) (fun _ => ?_)
  refine lv_iconst (v := 0) hx hb dX7_areAlike_34 (by decide) ?_
  exact ret _ 1 _ _ _ _ _ _ (by decide) (rfl) (hP.sub [1] rfl) (hK.sub [] rfl) (hD.sub [1] (by decide) rfl) hS (Nat.le_of_ble_eq_true rfl) (Nat.le_of_ble_eq_true rfl) dX7_areAlike_35

set_option maxHeartbeats 4000000 in
set_option maxRecDepth 100000 in
/-- the model: isMatched on a fresh one -/
theorem kX7_isMatched (l : Launch) (dC : Nat → ClassId) (dI : Nat → Nat → Nat) (k0 kN kA kO kK kV kG kP kC kD kE kF kX kY kT kU : Nat) (cI : ClassId) (g1 g2 g3 g4 : Nat → Int32) (sz : Nat) : fMi l yX7_isMatched wsX7_isMatched ({ frames := 6, cells := 3, slots := 50, locals := 137 } : Room) dC dI [.ref k0] [(k0, .inr (10, [.ref kN, .ref kA, .ref kO, .ref kK, .ref kV, .ref kG, .ref kP, .ref kC, .ref kD, .ref kE, .ref kF, .ref kX, .ref kY, .int 0, .ref kT, .ref kU, .int 0, .int 0, .int 0])), (kN, .inl (cI, 2, .inl (fun _ => 0))), (kA, .inl (cI, 2, .inl (fun _ => 0))), (kC, .inl (cI, 20, .inl g1)), (kD, .inl (cI, 20, .inl g2)), (kE, .inl (cI, 20, .inl g3)), (kF, .inl (cI, 20, .inl g4))] [(cI, .int)] sz (fun (r : Int32) (u : Int32) => u = 0 ∧ r = 1) (fun u => [(k0, .inr (10, [.ref kN, .ref kA, .ref kO, .ref kK, .ref kV, .ref kG, .ref kP, .ref kC, .ref kD, .ref kE, .ref kF, .ref kX, .ref kY, .int 0, .ref kT, .ref kU, .int u, .int 0, .int 0]))]) (fun u => []) := by
  refine oP_z (y := yX7_isMatched) (cc := cX7_isMatched) (maxL := 1) (by decide) rfl (Nat.le_of_ble_eq_true rfl) ?_
  intro p e s m args below meth c ls A Q hx hb hr hml hown hts hN hZ hA hin hlk hP hK hD hl ret
  have hS : va_S A s.heap s.heap [] := va_S.rf
  have hl : lv_has ls 1 [(0, .ref k0)] := hl
  have hP : va_P (dC, dI) vwCl [(k0, .inr (10, [.ref kN, .ref kA, .ref kO, .ref kK, .ref kV, .ref kG, .ref kP, .ref kC, .ref kD, .ref kE, .ref kF, .ref kX, .ref kY, .int 0, .ref kT, .ref kU, .int 0, .int 0, .int 0])), (kN, .inl (cI, 2, .inl (fun _ => 0))), (kA, .inl (cI, 2, .inl (fun _ => 0))), (kC, .inl (cI, 20, .inl g1)), (kD, .inl (cI, 20, .inl g2)), (kE, .inl (cI, 20, .inl g3)), (kF, .inl (cI, 20, .inl g4))] _ := hP
  have hD : va_D A [(k0, .inr (10, [.ref kN, .ref kA, .ref kO, .ref kK, .ref kV, .ref kG, .ref kP, .ref kC, .ref kD, .ref kE, .ref kF, .ref kX, .ref kY, .int 0, .ref kT, .ref kU, .int 0, .int 0, .int 0])), (kN, .inl (cI, 2, .inl (fun _ => 0))), (kA, .inl (cI, 2, .inl (fun _ => 0))), (kC, .inl (cI, 20, .inl g1)), (kD, .inl (cI, 20, .inl g2)), (kE, .inl (cI, 20, .inl g3)), (kF, .inl (cI, 20, .inl g4))] := hD
  refine lv_aload_n hx hb dX7_isMatched_0 rfl (lv_at hl 0 rfl) ?_
  refine lv_iconst (v := 0) hx hb dX7_isMatched_1 (by decide) ?_
  refine va_put (D := (dC, dI)) (ci := 10) (v := .int 0) (ty := .int) (C := RX7) (T := TX7) (N := 19) hx hb hts (fun w h => List.mem_cons_of_mem _ (List.mem_append_left _ (List.mem_append_right _ (h)))) tyX7 tyX7_ok nmX7 hown hK hP hD hS 0 rfl rfl 16 (by decide) (hts (.fieldLink RX7 57 "NetcompareModel" "thrown" "I") (List.mem_cons_of_mem _ (List.mem_append_left _ (List.mem_append_left _ (List.mem_append_left _ (List.mem_of_getElem? (i := 0) rfl)))))) (fun _ h9 => h9) rfl (by decide +kernel) rfl rfl (Nat.le_of_ble_eq_true rfl) dX7_isMatched_2 (fun H locs hP hD hS => ?_)
  have hP : va_P (dC, dI) vwCl [(k0, .inr (10, [.ref kN, .ref kA, .ref kO, .ref kK, .ref kV, .ref kG, .ref kP, .ref kC, .ref kD, .ref kE, .ref kF, .ref kX, .ref kY, .int 0, .ref kT, .ref kU, .int 0, .int 0, .int 0])), (kN, .inl (cI, 2, .inl (fun _ => 0))), (kA, .inl (cI, 2, .inl (fun _ => 0))), (kC, .inl (cI, 20, .inl g1)), (kD, .inl (cI, 20, .inl g2)), (kE, .inl (cI, 20, .inl g3)), (kF, .inl (cI, 20, .inl g4))] _ := hP
  have hD : va_D A [(k0, .inr (10, [.ref kN, .ref kA, .ref kO, .ref kK, .ref kV, .ref kG, .ref kP, .ref kC, .ref kD, .ref kE, .ref kF, .ref kX, .ref kY, .int 0, .ref kT, .ref kU, .int 0, .int 0, .int 0])), (kN, .inl (cI, 2, .inl (fun _ => 0))), (kA, .inl (cI, 2, .inl (fun _ => 0))), (kC, .inl (cI, 20, .inl g1)), (kD, .inl (cI, 20, .inl g2)), (kE, .inl (cI, 20, .inl g3)), (kF, .inl (cI, 20, .inl g4))] := hD
  refine lv_aload_n hx hb dX7_isMatched_5 rfl (lv_at hl 0 rfl) ?_
  have hPc := hP.sub (ws' := [(k0, .inr (10, [.ref kN, .ref kA, .ref kO, .ref kK, .ref kV, .ref kG, .ref kP, .ref kC, .ref kD, .ref kE, .ref kF, .ref kX, .ref kY, .int 0, .ref kT, .ref kU, .int 0, .int 0, .int 0])), (kN, .inl (cI, 2, .inl (fun _ => 0))), (kA, .inl (cI, 2, .inl (fun _ => 0))), (kC, .inl (cI, 20, .inl g1)), (kD, .inl (cI, 20, .inl g2)), (kE, .inl (cI, 20, .inl g3)), (kF, .inl (cI, 20, .inl g4))]) [0, 1, 2, 3, 4, 5, 6] rfl
  have hDc := hD.sub (ws' := [(k0, .inr (10, [.ref kN, .ref kA, .ref kO, .ref kK, .ref kV, .ref kG, .ref kP, .ref kC, .ref kD, .ref kE, .ref kF, .ref kX, .ref kY, .int 0, .ref kT, .ref kU, .int 0, .int 0, .int 0])), (kN, .inl (cI, 2, .inl (fun _ => 0))), (kA, .inl (cI, 2, .inl (fun _ => 0))), (kC, .inl (cI, 20, .inl g1)), (kD, .inl (cI, 20, .inl g2)), (kE, .inl (cI, 20, .inl g3)), (kF, .inl (cI, 20, .inl g4))]) [0, 1, 2, 3, 4, 5, 6] (by decide) rfl
  have hKc := hK.sub (tys' := [(cI, .int)]) [0] rfl
  have hFc := va_free (wc := [(k0, .inr (10, [.ref kN, .ref kA, .ref kO, .ref kK, .ref kV, .ref kG, .ref kP, .ref kC, .ref kD, .ref kE, .ref kF, .ref kX, .ref kY, .int 0, .ref kT, .ref kU, .int 0, .int 0, .int 0])), (kN, .inl (cI, 2, .inl (fun _ => 0))), (kA, .inl (cI, 2, .inl (fun _ => 0))), (kC, .inl (cI, 20, .inl g1)), (kD, .inl (cI, 20, .inl g2)), (kE, .inl (cI, 20, .inl g3)), (kF, .inl (cI, 20, .inl g4))]) hD hS hA [0, 1, 2, 3, 4, 5, 6] rfl
  refine va_calli (va_runV (As := []) (rest := []) ⟨hx, hb, hml, hown, hts⟩ (kX7_matches l dC dI k0 kN kA kO kK kV kG kP kC kD kE kF kX kY kT kU cI g1 g2 g3 g4 H.size) (cwV 0 hts gX7_isMatched_X7_matches rfl rfl rfl (by decide +kernel) ⟨Nat.le_of_ble_eq_true rfl, Nat.le_of_ble_eq_true rfl⟩) (fPreV hN hZ hS (fun q h => hFc q h) hPc hKc hDc (ci := 10) (q0 := 0) rfl rfl) rfl rfl hl.1 rfl (lv_room (Nat.le_of_ble_eq_true rfl)) dX7_isMatched_6 ⟨Nat.le_of_ble_eq_true rfl, Nat.le_of_ble_eq_true rfl⟩) hS (fun q _ h => hFc q h) hFc (fun r u t H1 locs ht hvm hw hB hz1 hk1 hS => ?_)
  obtain ⟨hP1, hK1, hD1⟩ := hB
  rw [ht] at hP1
  have hK1 := va_K.moved hvm.symm hK1
  obtain ⟨hP, hD⟩ := va_join (wr := []) (w1 := [(k0, .inr (10, [.ref kN, .ref kA, .ref kO, .ref kK, .ref kV, .ref kG, .ref kP, .ref kC, .ref kD, .ref kE, .ref kF, .ref kX, .ref kY, .int 0, .ref kT, .ref kU, .int 0, .int 0, .int 0]))]) hP hD [0, 1, 2, 3, 4, 5, 6] [] rfl rfl (by decide) (by decide) hk1 hFc hP1 hD1
  generalize H1 = H at hP hS ⊢
  have hP : va_P (dC, dI) vwCl [(k0, .inr (10, [.ref kN, .ref kA, .ref kO, .ref kK, .ref kV, .ref kG, .ref kP, .ref kC, .ref kD, .ref kE, .ref kF, .ref kX, .ref kY, .int 0, .ref kT, .ref kU, .int 0, .int 0, .int 0]))] _ := hP
  have hD : va_D A [(k0, .inr (10, [.ref kN, .ref kA, .ref kO, .ref kK, .ref kV, .ref kG, .ref kP, .ref kC, .ref kD, .ref kE, .ref kF, .ref kX, .ref kY, .int 0, .ref kT, .ref kU, .int 0, .int 0, .int 0]))] := hD
  refine W.widen (k := 3) (n := 50) (Nat.le_of_ble_eq_true rfl) (Nat.le_of_ble_eq_true rfl) ?_
  subst hw
  exact ret _ 0 _ _ _ _ _ _ (by decide) (⟨rfl, rfl⟩) (hP.sub [0] rfl) (hK.sub [] rfl) (hD.sub [0] (by decide) rfl) hS (Nat.le_of_ble_eq_true rfl) (Nat.le_of_ble_eq_true rfl) dX7_isMatched_9

set_option maxHeartbeats 4000000 in
set_option maxRecDepth 100000 in
/-- the model: isMatchedByTrying on a fresh one -/
theorem kX7_isMatchedByTrying (l : Launch) (dC : Nat → ClassId) (dI : Nat → Nat → Nat) (k0 kN kA kO kK kV kG kP kC kD kE kF kX kY kT kU : Nat) (cI : ClassId) (g1 g2 g3 g4 : Nat → Int32) (sz : Nat) : fMi l yX7_isMatchedByTrying wsX7_isMatchedByTrying ({ frames := 6, cells := 3, slots := 50, locals := 137 } : Room) dC dI [.ref k0] [(k0, .inr (10, [.ref kN, .ref kA, .ref kO, .ref kK, .ref kV, .ref kG, .ref kP, .ref kC, .ref kD, .ref kE, .ref kF, .ref kX, .ref kY, .int 0, .ref kT, .ref kU, .int 0, .int 0, .int 0])), (kN, .inl (cI, 2, .inl (fun _ => 0))), (kA, .inl (cI, 2, .inl (fun _ => 0))), (kC, .inl (cI, 20, .inl g1)), (kD, .inl (cI, 20, .inl g2)), (kE, .inl (cI, 20, .inl g3)), (kF, .inl (cI, 20, .inl g4))] [(cI, .int)] sz (fun (r : Int32) (u : Int32) => u = 0 ∧ r = 1) (fun u => [(k0, .inr (10, [.ref kN, .ref kA, .ref kO, .ref kK, .ref kV, .ref kG, .ref kP, .ref kC, .ref kD, .ref kE, .ref kF, .ref kX, .ref kY, .int 0, .ref kT, .ref kU, .int u, .int 0, .int 0]))]) (fun u => []) := by
  refine oP_z (y := yX7_isMatchedByTrying) (cc := cX7_isMatchedByTrying) (maxL := 1) (by decide) rfl (Nat.le_of_ble_eq_true rfl) ?_
  intro p e s m args below meth c ls A Q hx hb hr hml hown hts hN hZ hA hin hlk hP hK hD hl ret
  have hS : va_S A s.heap s.heap [] := va_S.rf
  have hl : lv_has ls 1 [(0, .ref k0)] := hl
  have hP : va_P (dC, dI) vwCl [(k0, .inr (10, [.ref kN, .ref kA, .ref kO, .ref kK, .ref kV, .ref kG, .ref kP, .ref kC, .ref kD, .ref kE, .ref kF, .ref kX, .ref kY, .int 0, .ref kT, .ref kU, .int 0, .int 0, .int 0])), (kN, .inl (cI, 2, .inl (fun _ => 0))), (kA, .inl (cI, 2, .inl (fun _ => 0))), (kC, .inl (cI, 20, .inl g1)), (kD, .inl (cI, 20, .inl g2)), (kE, .inl (cI, 20, .inl g3)), (kF, .inl (cI, 20, .inl g4))] _ := hP
  have hD : va_D A [(k0, .inr (10, [.ref kN, .ref kA, .ref kO, .ref kK, .ref kV, .ref kG, .ref kP, .ref kC, .ref kD, .ref kE, .ref kF, .ref kX, .ref kY, .int 0, .ref kT, .ref kU, .int 0, .int 0, .int 0])), (kN, .inl (cI, 2, .inl (fun _ => 0))), (kA, .inl (cI, 2, .inl (fun _ => 0))), (kC, .inl (cI, 20, .inl g1)), (kD, .inl (cI, 20, .inl g2)), (kE, .inl (cI, 20, .inl g3)), (kF, .inl (cI, 20, .inl g4))] := hD
  refine lv_aload_n hx hb dX7_isMatchedByTrying_0 rfl (lv_at hl 0 rfl) ?_
  refine lv_aload_n hx hb dX7_isMatchedByTrying_1 rfl (lv_at hl 0 rfl) ?_
  have hPc := hP.sub (ws' := [(k0, .inr (10, [.ref kN, .ref kA, .ref kO, .ref kK, .ref kV, .ref kG, .ref kP, .ref kC, .ref kD, .ref kE, .ref kF, .ref kX, .ref kY, .int 0, .ref kT, .ref kU, .int 0, .int 0, .int 0])), (kN, .inl (cI, 2, .inl (fun _ => 0)))]) [0, 1] rfl
  have hDc := hD.sub (ws' := [(k0, .inr (10, [.ref kN, .ref kA, .ref kO, .ref kK, .ref kV, .ref kG, .ref kP, .ref kC, .ref kD, .ref kE, .ref kF, .ref kX, .ref kY, .int 0, .ref kT, .ref kU, .int 0, .int 0, .int 0])), (kN, .inl (cI, 2, .inl (fun _ => 0)))]) [0, 1] (by decide) rfl
  have hKc := hK.sub (tys' := [(cI, .int)]) [0] rfl
  have hFc := va_free (wc := [(k0, .inr (10, [.ref kN, .ref kA, .ref kO, .ref kK, .ref kV, .ref kG, .ref kP, .ref kC, .ref kD, .ref kE, .ref kF, .ref kX, .ref kY, .int 0, .ref kT, .ref kU, .int 0, .int 0, .int 0])), (kN, .inl (cI, 2, .inl (fun _ => 0)))]) hD hS hA [0, 1] rfl
  refine va_calli (va_runV (As := []) (rest := [.ref k0]) ⟨hx, hb, hml, hown, hts⟩ (kX7_isLarge l dC dI k0 kN kA kO kK kV kG kP kC kD kE kF kX kY kT kU cI s.heap.size) (cwV 0 hts gX7_isMatchedByTrying_X7_isLarge rfl rfl rfl (by decide +kernel) ⟨Nat.le_of_ble_eq_true rfl, Nat.le_of_ble_eq_true rfl⟩) (fPreV hN hZ hS (fun q h => hFc q h) hPc hKc hDc (ci := 10) (q0 := 0) rfl rfl) rfl rfl hl.1 rfl (lv_room (Nat.le_of_ble_eq_true rfl)) dX7_isMatchedByTrying_2 ⟨Nat.le_of_ble_eq_true rfl, Nat.le_of_ble_eq_true rfl⟩) hS (fun q _ h => hFc q h) hFc (fun r u t H1 locs ht hvm hw hB hz1 hk1 hS => ?_)
  obtain ⟨hP1, hK1, hD1⟩ := hB
  rw [ht] at hP1
  have hK1 := va_K.moved hvm.symm hK1
  obtain ⟨hP, hD⟩ := va_join (wr := [(kA, .inl (cI, 2, .inl (fun _ => 0))), (kC, .inl (cI, 20, .inl g1)), (kD, .inl (cI, 20, .inl g2)), (kE, .inl (cI, 20, .inl g3)), (kF, .inl (cI, 20, .inl g4))]) (w1 := [(k0, .inr (10, [.ref kN, .ref kA, .ref kO, .ref kK, .ref kV, .ref kG, .ref kP, .ref kC, .ref kD, .ref kE, .ref kF, .ref kX, .ref kY, .int 0, .ref kT, .ref kU, .int 0, .int 0, .int 0])), (kN, .inl (cI, 2, .inl (fun _ => 0)))]) hP hD [0, 1] [2, 3, 4, 5, 6] rfl rfl (by decide) (by decide) hk1 hFc hP1 hD1
  generalize H1 = H at hP hS ⊢
  have hP : va_P (dC, dI) vwCl [(kA, .inl (cI, 2, .inl (fun _ => 0))), (kC, .inl (cI, 20, .inl g1)), (kD, .inl (cI, 20, .inl g2)), (kE, .inl (cI, 20, .inl g3)), (kF, .inl (cI, 20, .inl g4)), (k0, .inr (10, [.ref kN, .ref kA, .ref kO, .ref kK, .ref kV, .ref kG, .ref kP, .ref kC, .ref kD, .ref kE, .ref kF, .ref kX, .ref kY, .int 0, .ref kT, .ref kU, .int 0, .int 0, .int 0])), (kN, .inl (cI, 2, .inl (fun _ => 0)))] _ := hP
  have hD : va_D A [(kA, .inl (cI, 2, .inl (fun _ => 0))), (kC, .inl (cI, 20, .inl g1)), (kD, .inl (cI, 20, .inl g2)), (kE, .inl (cI, 20, .inl g3)), (kF, .inl (cI, 20, .inl g4)), (k0, .inr (10, [.ref kN, .ref kA, .ref kO, .ref kK, .ref kV, .ref kG, .ref kP, .ref kC, .ref kD, .ref kE, .ref kF, .ref kX, .ref kY, .int 0, .ref kT, .ref kU, .int 0, .int 0, .int 0])), (kN, .inl (cI, 2, .inl (fun _ => 0)))] := hD
  subst hw
  refine lv_if_eq (tgt := 12) hx hb dX7_isMatchedByTrying_5 (by decide) (fun _ => ?_) (fun h9 => absurd (by decide) h9)
  refine lv_iconst (v := 0) hx hb dX7_isMatchedByTrying_12 (by decide) ?_
  refine va_put (D := (dC, dI)) (ci := 10) (v := .int 0) (ty := .int) (C := RX7) (T := TX7) (N := 19) hx hb hts (fun w h => List.mem_cons_of_mem _ (List.mem_append_left _ (List.mem_append_right _ (h)))) tyX7 tyX7_ok nmX7 hown hK hP hD hS 5 rfl rfl 16 (by decide) (hts (.fieldLink RX7 57 "NetcompareModel" "thrown" "I") (List.mem_cons_of_mem _ (List.mem_append_left _ (List.mem_append_left _ (List.mem_append_left _ (List.mem_of_getElem? (i := 0) rfl)))))) (fun _ h9 => h9) rfl (by decide +kernel) rfl rfl (Nat.le_of_ble_eq_true rfl) dX7_isMatchedByTrying_13 (fun H locs hP hD hS => ?_)
  have hP : va_P (dC, dI) vwCl [(kA, .inl (cI, 2, .inl (fun _ => 0))), (kC, .inl (cI, 20, .inl g1)), (kD, .inl (cI, 20, .inl g2)), (kE, .inl (cI, 20, .inl g3)), (kF, .inl (cI, 20, .inl g4)), (k0, .inr (10, [.ref kN, .ref kA, .ref kO, .ref kK, .ref kV, .ref kG, .ref kP, .ref kC, .ref kD, .ref kE, .ref kF, .ref kX, .ref kY, .int 0, .ref kT, .ref kU, .int 0, .int 0, .int 0])), (kN, .inl (cI, 2, .inl (fun _ => 0)))] _ := hP
  have hD : va_D A [(kA, .inl (cI, 2, .inl (fun _ => 0))), (kC, .inl (cI, 20, .inl g1)), (kD, .inl (cI, 20, .inl g2)), (kE, .inl (cI, 20, .inl g3)), (kF, .inl (cI, 20, .inl g4)), (k0, .inr (10, [.ref kN, .ref kA, .ref kO, .ref kK, .ref kV, .ref kG, .ref kP, .ref kC, .ref kD, .ref kE, .ref kF, .ref kX, .ref kY, .int 0, .ref kT, .ref kU, .int 0, .int 0, .int 0])), (kN, .inl (cI, 2, .inl (fun _ => 0)))] := hD
  refine lv_aload_n hx hb dX7_isMatchedByTrying_16 rfl (lv_at hl 0 rfl) ?_
  refine va_get (D := (dC, dI)) (ci := 10) (v := .int 0) (C := RX7) (T := TX7) (N := 19) hx hb hts (fun w h => List.mem_cons_of_mem _ (List.mem_append_left _ (List.mem_append_right _ (h)))) hown hK hP 5 rfl rfl 16 (by decide) (hts (.fieldLink RX7 57 "NetcompareModel" "thrown" "I") (List.mem_cons_of_mem _ (List.mem_append_left _ (List.mem_append_left _ (List.mem_append_left _ (List.mem_of_getElem? (i := 0) rfl)))))) (fun _ h9 => h9) rfl dX7_isMatchedByTrying_17 ?_
  refine lv_if_ne (tgt := 34) hx hb dX7_isMatchedByTrying_20 (by decide) (fun h9 => absurd (by decide) h9) (fun _ => ?_)
  refine lv_aload_n hx hb dX7_isMatchedByTrying_23 rfl (lv_at hl 0 rfl) ?_
  have hPc := hP.sub (ws' := [(k0, .inr (10, [.ref kN, .ref kA, .ref kO, .ref kK, .ref kV, .ref kG, .ref kP, .ref kC, .ref kD, .ref kE, .ref kF, .ref kX, .ref kY, .int 0, .ref kT, .ref kU, .int 0, .int 0, .int 0])), (kN, .inl (cI, 2, .inl (fun _ => 0))), (kA, .inl (cI, 2, .inl (fun _ => 0))), (kC, .inl (cI, 20, .inl g1)), (kD, .inl (cI, 20, .inl g2)), (kE, .inl (cI, 20, .inl g3)), (kF, .inl (cI, 20, .inl g4))]) [5, 6, 0, 1, 2, 3, 4] rfl
  have hDc := hD.sub (ws' := [(k0, .inr (10, [.ref kN, .ref kA, .ref kO, .ref kK, .ref kV, .ref kG, .ref kP, .ref kC, .ref kD, .ref kE, .ref kF, .ref kX, .ref kY, .int 0, .ref kT, .ref kU, .int 0, .int 0, .int 0])), (kN, .inl (cI, 2, .inl (fun _ => 0))), (kA, .inl (cI, 2, .inl (fun _ => 0))), (kC, .inl (cI, 20, .inl g1)), (kD, .inl (cI, 20, .inl g2)), (kE, .inl (cI, 20, .inl g3)), (kF, .inl (cI, 20, .inl g4))]) [5, 6, 0, 1, 2, 3, 4] (by decide) rfl
  have hKc := hK.sub (tys' := [(cI, .int)]) [0] rfl
  have hFc := va_free (wc := [(k0, .inr (10, [.ref kN, .ref kA, .ref kO, .ref kK, .ref kV, .ref kG, .ref kP, .ref kC, .ref kD, .ref kE, .ref kF, .ref kX, .ref kY, .int 0, .ref kT, .ref kU, .int 0, .int 0, .int 0])), (kN, .inl (cI, 2, .inl (fun _ => 0))), (kA, .inl (cI, 2, .inl (fun _ => 0))), (kC, .inl (cI, 20, .inl g1)), (kD, .inl (cI, 20, .inl g2)), (kE, .inl (cI, 20, .inl g3)), (kF, .inl (cI, 20, .inl g4))]) hD hS hA [5, 6, 0, 1, 2, 3, 4] rfl
  refine va_calli (va_runV (As := []) (rest := []) ⟨hx, hb, hml, hown, hts⟩ (kX7_matches l dC dI k0 kN kA kO kK kV kG kP kC kD kE kF kX kY kT kU cI g1 g2 g3 g4 H.size) (cwV 0 hts gX7_isMatchedByTrying_X7_matches rfl rfl rfl (by decide +kernel) ⟨Nat.le_of_ble_eq_true rfl, Nat.le_of_ble_eq_true rfl⟩) (fPreV hN hZ hS (fun q h => hFc q h) hPc hKc hDc (ci := 10) (q0 := 0) rfl rfl) rfl rfl hl.1 rfl (lv_room (Nat.le_of_ble_eq_true rfl)) dX7_isMatchedByTrying_24 ⟨Nat.le_of_ble_eq_true rfl, Nat.le_of_ble_eq_true rfl⟩) hS (fun q _ h => hFc q h) hFc (fun r u t H1 locs ht hvm hw hB hz1 hk1 hS => ?_)
  obtain ⟨hP1, hK1, hD1⟩ := hB
  rw [ht] at hP1
  have hK1 := va_K.moved hvm.symm hK1
  obtain ⟨hP, hD⟩ := va_join (wr := []) (w1 := [(k0, .inr (10, [.ref kN, .ref kA, .ref kO, .ref kK, .ref kV, .ref kG, .ref kP, .ref kC, .ref kD, .ref kE, .ref kF, .ref kX, .ref kY, .int 0, .ref kT, .ref kU, .int 0, .int 0, .int 0]))]) hP hD [5, 6, 0, 1, 2, 3, 4] [] rfl rfl (by decide) (by decide) hk1 hFc hP1 hD1
  generalize H1 = H at hP hS ⊢
  have hP : va_P (dC, dI) vwCl [(k0, .inr (10, [.ref kN, .ref kA, .ref kO, .ref kK, .ref kV, .ref kG, .ref kP, .ref kC, .ref kD, .ref kE, .ref kF, .ref kX, .ref kY, .int 0, .ref kT, .ref kU, .int 0, .int 0, .int 0]))] _ := hP
  have hD : va_D A [(k0, .inr (10, [.ref kN, .ref kA, .ref kO, .ref kK, .ref kV, .ref kG, .ref kP, .ref kC, .ref kD, .ref kE, .ref kF, .ref kX, .ref kY, .int 0, .ref kT, .ref kU, .int 0, .int 0, .int 0]))] := hD
  refine W.widen (k := 3) (n := 50) (Nat.le_of_ble_eq_true rfl) (Nat.le_of_ble_eq_true rfl) ?_
  subst hw
  refine lv_if_eq (tgt := 34) hx hb dX7_isMatchedByTrying_27 (by decide) (fun h9 => absurd h9 (by decide)) (fun _ => ?_)
  refine lv_iconst (v := 1) hx hb dX7_isMatchedByTrying_30 (by decide) ?_
  refine lv_goto (tgt := 35) hx hb dX7_isMatchedByTrying_31 (by decide) ?_
  exact ret _ 0 _ _ _ _ _ _ (by decide) (⟨rfl, rfl⟩) (hP.sub [0] rfl) (hK.sub [] rfl) (hD.sub [0] (by decide) rfl) hS (Nat.le_of_ble_eq_true rfl) (Nat.le_of_ble_eq_true rfl) dX7_isMatchedByTrying_35

set_option maxHeartbeats 4000000 in
set_option maxRecDepth 100000 in
/-- the model: matchedNet on a fresh one -/
theorem kX7_matchedNet (l : Launch) (dC : Nat → ClassId) (dI : Nat → Nat → Nat) (k0 kN kA kO kK kV kG kP kC kD kE kF kX kY kT kU : Nat) (cI : ClassId) (p0 : Int32) (sz : Nat) : fMi l yX7_matchedNet wsX7_matchedNet ({ frames := 2, cells := 0, slots := 0, locals := 47 } : Room) dC dI [.ref k0, .int p0] [(k0, .inr (10, [.ref kN, .ref kA, .ref kO, .ref kK, .ref kV, .ref kG, .ref kP, .ref kC, .ref kD, .ref kE, .ref kF, .ref kX, .ref kY, .int 0, .ref kT, .ref kU, .int 0, .int 0, .int 0])), (kN, .inl (cI, 2, .inl (fun _ => 0))), (kA, .inl (cI, 2, .inl (fun _ => 0)))] [(cI, .int)] sz (fun (r : Int32) (u : Int32) => u = 1) (fun u => [(k0, .inr (10, [.ref kN, .ref kA, .ref kO, .ref kK, .ref kV, .ref kG, .ref kP, .ref kC, .ref kD, .ref kE, .ref kF, .ref kX, .ref kY, .int 0, .ref kT, .ref kU, .int u, .int 0, .int 0]))]) (fun u => []) := by
  refine oP_i (y := yX7_matchedNet) (cc := cX7_matchedNet) (maxL := 2) (by decide) rfl (Nat.le_of_ble_eq_true rfl) ?_
  intro p e s m args below meth c ls A Q hx hb hr hml hown hts hN hZ hA hin hlk hP hK hD hl ret
  have hS : va_S A s.heap s.heap [] := va_S.rf
  have hl : lv_has ls 2 [(0, .ref k0), (1, .int p0)] := hl
  have hP : va_P (dC, dI) vwCl [(k0, .inr (10, [.ref kN, .ref kA, .ref kO, .ref kK, .ref kV, .ref kG, .ref kP, .ref kC, .ref kD, .ref kE, .ref kF, .ref kX, .ref kY, .int 0, .ref kT, .ref kU, .int 0, .int 0, .int 0])), (kN, .inl (cI, 2, .inl (fun _ => 0))), (kA, .inl (cI, 2, .inl (fun _ => 0)))] _ := hP
  have hD : va_D A [(k0, .inr (10, [.ref kN, .ref kA, .ref kO, .ref kK, .ref kV, .ref kG, .ref kP, .ref kC, .ref kD, .ref kE, .ref kF, .ref kX, .ref kY, .int 0, .ref kT, .ref kU, .int 0, .int 0, .int 0])), (kN, .inl (cI, 2, .inl (fun _ => 0))), (kA, .inl (cI, 2, .inl (fun _ => 0)))] := hD
  refine lv_aload_n hx hb dX7_matchedNet_0 rfl (lv_at hl 0 rfl) ?_
  refine lv_aload_n hx hb dX7_matchedNet_1 rfl (lv_at hl 0 rfl) ?_
  refine lv_iconst (v := 0) hx hb dX7_matchedNet_2 (by decide) ?_
  refine lv_iload_n hx hb dX7_matchedNet_3 rfl (lv_at hl 1 rfl) ?_
  have hPc := hP.sub (ws' := [(k0, .inr (10, [.ref kN, .ref kA, .ref kO, .ref kK, .ref kV, .ref kG, .ref kP, .ref kC, .ref kD, .ref kE, .ref kF, .ref kX, .ref kY, .int 0, .ref kT, .ref kU, .int 0, .int 0, .int 0])), (kN, .inl (cI, 2, .inl (fun _ => 0)))]) [0, 1] rfl
  have hDc := hD.sub (ws' := [(k0, .inr (10, [.ref kN, .ref kA, .ref kO, .ref kK, .ref kV, .ref kG, .ref kP, .ref kC, .ref kD, .ref kE, .ref kF, .ref kX, .ref kY, .int 0, .ref kT, .ref kU, .int 0, .int 0, .int 0])), (kN, .inl (cI, 2, .inl (fun _ => 0)))]) [0, 1] (by decide) rfl
  have hKc := hK.sub (tys' := [(cI, .int)]) [0] rfl
  have hFc := va_free (wc := [(k0, .inr (10, [.ref kN, .ref kA, .ref kO, .ref kK, .ref kV, .ref kG, .ref kP, .ref kC, .ref kD, .ref kE, .ref kF, .ref kX, .ref kY, .int 0, .ref kT, .ref kU, .int 0, .int 0, .int 0])), (kN, .inl (cI, 2, .inl (fun _ => 0)))]) hD hS hA [0, 1] rfl
  refine va_calli (va_runV (As := [.int 0, .int p0]) (rest := [.ref k0]) ⟨hx, hb, hml, hown, hts⟩ (kX7_isNet0 l dC dI k0 kN kA kO kK kV kG kP kC kD kE kF kX kY kT kU cI p0 s.heap.size) (cwV 2 hts gX7_matchedNet_X7_isNet rfl rfl rfl (by decide +kernel) ⟨Nat.le_of_ble_eq_true rfl, Nat.le_of_ble_eq_true rfl⟩) (fPreV hN hZ hS (fun q h => hFc q h) hPc hKc hDc (ci := 10) (q0 := 0) rfl rfl) rfl rfl hl.1 rfl (lv_room (Nat.le_of_ble_eq_true rfl)) dX7_matchedNet_4 ⟨Nat.le_of_ble_eq_true rfl, Nat.le_of_ble_eq_true rfl⟩) hS (fun q _ h => hFc q h) hFc (fun r u t H1 locs ht hvm hw hB hz1 hk1 hS => ?_)
  obtain ⟨hP1, hK1, hD1⟩ := hB
  rw [ht] at hP1
  have hK1 := va_K.moved hvm.symm hK1
  obtain ⟨hP, hD⟩ := va_join (wr := [(kA, .inl (cI, 2, .inl (fun _ => 0)))]) (w1 := [(k0, .inr (10, [.ref kN, .ref kA, .ref kO, .ref kK, .ref kV, .ref kG, .ref kP, .ref kC, .ref kD, .ref kE, .ref kF, .ref kX, .ref kY, .int 0, .ref kT, .ref kU, .int 0, .int 0, .int 0])), (kN, .inl (cI, 2, .inl (fun _ => 0)))]) hP hD [0, 1] [2] rfl rfl (by decide) (by decide) hk1 hFc hP1 hD1
  generalize H1 = H at hP hS ⊢
  have hP : va_P (dC, dI) vwCl [(kA, .inl (cI, 2, .inl (fun _ => 0))), (k0, .inr (10, [.ref kN, .ref kA, .ref kO, .ref kK, .ref kV, .ref kG, .ref kP, .ref kC, .ref kD, .ref kE, .ref kF, .ref kX, .ref kY, .int 0, .ref kT, .ref kU, .int 0, .int 0, .int 0])), (kN, .inl (cI, 2, .inl (fun _ => 0)))] _ := hP
  have hD : va_D A [(kA, .inl (cI, 2, .inl (fun _ => 0))), (k0, .inr (10, [.ref kN, .ref kA, .ref kO, .ref kK, .ref kV, .ref kG, .ref kP, .ref kC, .ref kD, .ref kE, .ref kF, .ref kX, .ref kY, .int 0, .ref kT, .ref kU, .int 0, .int 0, .int 0])), (kN, .inl (cI, 2, .inl (fun _ => 0)))] := hD
  subst hw
  refine lv_if_ne (tgt := 14) hx hb dX7_matchedNet_7 (by decide) (fun h9 => absurd (by decide) h9) (fun _ => ?_)
  refine lv_iconst (v := 1) hx hb dX7_matchedNet_10 (by decide) ?_
  refine lv_goto (tgt := 26) hx hb dX7_matchedNet_11 (by decide) ?_
  refine va_put (D := (dC, dI)) (ci := 10) (v := .int 1) (ty := .int) (C := RX7) (T := TX7) (N := 19) hx hb hts (fun w h => List.mem_cons_of_mem _ (List.mem_append_left _ (List.mem_append_right _ (h)))) tyX7 tyX7_ok nmX7 hown hK hP hD hS 1 rfl rfl 16 (by decide) (hts (.fieldLink RX7 57 "NetcompareModel" "thrown" "I") (List.mem_cons_of_mem _ (List.mem_append_left _ (List.mem_append_left _ (List.mem_append_left _ (List.mem_of_getElem? (i := 0) rfl)))))) (fun _ h9 => h9) rfl (by decide +kernel) rfl rfl (Nat.le_of_ble_eq_true rfl) dX7_matchedNet_26 (fun H locs hP hD hS => ?_)
  have hP : va_P (dC, dI) vwCl [(kA, .inl (cI, 2, .inl (fun _ => 0))), (k0, .inr (10, [.ref kN, .ref kA, .ref kO, .ref kK, .ref kV, .ref kG, .ref kP, .ref kC, .ref kD, .ref kE, .ref kF, .ref kX, .ref kY, .int 0, .ref kT, .ref kU, .int 1, .int 0, .int 0])), (kN, .inl (cI, 2, .inl (fun _ => 0)))] _ := hP
  have hD : va_D A [(kA, .inl (cI, 2, .inl (fun _ => 0))), (k0, .inr (10, [.ref kN, .ref kA, .ref kO, .ref kK, .ref kV, .ref kG, .ref kP, .ref kC, .ref kD, .ref kE, .ref kF, .ref kX, .ref kY, .int 0, .ref kT, .ref kU, .int 1, .int 0, .int 0])), (kN, .inl (cI, 2, .inl (fun _ => 0)))] := hD
  refine lv_aload_n hx hb dX7_matchedNet_29 rfl (lv_at hl 0 rfl) ?_
  refine va_get (D := (dC, dI)) (ci := 10) (v := .int 1) (C := RX7) (T := TX7) (N := 19) hx hb hts (fun w h => List.mem_cons_of_mem _ (List.mem_append_left _ (List.mem_append_right _ (h)))) hown hK hP 1 rfl rfl 16 (by decide) (hts (.fieldLink RX7 57 "NetcompareModel" "thrown" "I") (List.mem_cons_of_mem _ (List.mem_append_left _ (List.mem_append_left _ (List.mem_append_left _ (List.mem_of_getElem? (i := 0) rfl)))))) (fun _ h9 => h9) rfl dX7_matchedNet_30 ?_
  refine lv_if_ne (tgt := 45) hx hb dX7_matchedNet_33 (by decide) (fun _ => ?_) (fun h9 => absurd h9 (by decide))
  refine lv_iconst (v := (-1)) hx hb dX7_matchedNet_45 (by decide) ?_
  exact ret _ 1 _ _ _ _ _ _ (rfl) (hP.sub [1] rfl) (hK.sub [] rfl) (hD.sub [1] (by decide) rfl) hS (Nat.le_of_ble_eq_true rfl) (Nat.le_of_ble_eq_true rfl) dX7_matchedNet_46

set_option maxHeartbeats 4000000 in
set_option maxRecDepth 100000 in
/-- the model: netByTrying on a fresh one -/
theorem kX7_netByTrying (l : Launch) (dC : Nat → ClassId) (dI : Nat → Nat → Nat) (k0 kN kA kO kK kV kG kP kC kD kE kF kX kY kT kU : Nat) (cI : ClassId) (p0 : Int32) (sz : Nat) : fMi l yX7_netByTrying wsX7_netByTrying ({ frames := 2, cells := 0, slots := 0, locals := 47 } : Room) dC dI [.ref k0, .int p0] [(k0, .inr (10, [.ref kN, .ref kA, .ref kO, .ref kK, .ref kV, .ref kG, .ref kP, .ref kC, .ref kD, .ref kE, .ref kF, .ref kX, .ref kY, .int 0, .ref kT, .ref kU, .int 0, .int 0, .int 0])), (kN, .inl (cI, 2, .inl (fun _ => 0))), (kA, .inl (cI, 2, .inl (fun _ => 0)))] [(cI, .int)] sz (fun (r : Int32) (u : Int32) => u = 1) (fun u => [(k0, .inr (10, [.ref kN, .ref kA, .ref kO, .ref kK, .ref kV, .ref kG, .ref kP, .ref kC, .ref kD, .ref kE, .ref kF, .ref kX, .ref kY, .int 0, .ref kT, .ref kU, .int u, .int 0, .int 0]))]) (fun u => []) := by
  refine oP_i (y := yX7_netByTrying) (cc := cX7_netByTrying) (maxL := 2) (by decide) rfl (Nat.le_of_ble_eq_true rfl) ?_
  intro p e s m args below meth c ls A Q hx hb hr hml hown hts hN hZ hA hin hlk hP hK hD hl ret
  have hS : va_S A s.heap s.heap [] := va_S.rf
  have hl : lv_has ls 2 [(0, .ref k0), (1, .int p0)] := hl
  have hP : va_P (dC, dI) vwCl [(k0, .inr (10, [.ref kN, .ref kA, .ref kO, .ref kK, .ref kV, .ref kG, .ref kP, .ref kC, .ref kD, .ref kE, .ref kF, .ref kX, .ref kY, .int 0, .ref kT, .ref kU, .int 0, .int 0, .int 0])), (kN, .inl (cI, 2, .inl (fun _ => 0))), (kA, .inl (cI, 2, .inl (fun _ => 0)))] _ := hP
  have hD : va_D A [(k0, .inr (10, [.ref kN, .ref kA, .ref kO, .ref kK, .ref kV, .ref kG, .ref kP, .ref kC, .ref kD, .ref kE, .ref kF, .ref kX, .ref kY, .int 0, .ref kT, .ref kU, .int 0, .int 0, .int 0])), (kN, .inl (cI, 2, .inl (fun _ => 0))), (kA, .inl (cI, 2, .inl (fun _ => 0)))] := hD
  refine lv_aload_n hx hb dX7_netByTrying_0 rfl (lv_at hl 0 rfl) ?_
  refine lv_aload_n hx hb dX7_netByTrying_1 rfl (lv_at hl 0 rfl) ?_
  refine lv_iconst (v := 0) hx hb dX7_netByTrying_2 (by decide) ?_
  refine lv_iload_n hx hb dX7_netByTrying_3 rfl (lv_at hl 1 rfl) ?_
  have hPc := hP.sub (ws' := [(k0, .inr (10, [.ref kN, .ref kA, .ref kO, .ref kK, .ref kV, .ref kG, .ref kP, .ref kC, .ref kD, .ref kE, .ref kF, .ref kX, .ref kY, .int 0, .ref kT, .ref kU, .int 0, .int 0, .int 0])), (kN, .inl (cI, 2, .inl (fun _ => 0)))]) [0, 1] rfl
  have hDc := hD.sub (ws' := [(k0, .inr (10, [.ref kN, .ref kA, .ref kO, .ref kK, .ref kV, .ref kG, .ref kP, .ref kC, .ref kD, .ref kE, .ref kF, .ref kX, .ref kY, .int 0, .ref kT, .ref kU, .int 0, .int 0, .int 0])), (kN, .inl (cI, 2, .inl (fun _ => 0)))]) [0, 1] (by decide) rfl
  have hKc := hK.sub (tys' := [(cI, .int)]) [0] rfl
  have hFc := va_free (wc := [(k0, .inr (10, [.ref kN, .ref kA, .ref kO, .ref kK, .ref kV, .ref kG, .ref kP, .ref kC, .ref kD, .ref kE, .ref kF, .ref kX, .ref kY, .int 0, .ref kT, .ref kU, .int 0, .int 0, .int 0])), (kN, .inl (cI, 2, .inl (fun _ => 0)))]) hD hS hA [0, 1] rfl
  refine va_calli (va_runV (As := [.int 0, .int p0]) (rest := [.ref k0]) ⟨hx, hb, hml, hown, hts⟩ (kX7_isNet0 l dC dI k0 kN kA kO kK kV kG kP kC kD kE kF kX kY kT kU cI p0 s.heap.size) (cwV 2 hts gX7_netByTrying_X7_isNet rfl rfl rfl (by decide +kernel) ⟨Nat.le_of_ble_eq_true rfl, Nat.le_of_ble_eq_true rfl⟩) (fPreV hN hZ hS (fun q h => hFc q h) hPc hKc hDc (ci := 10) (q0 := 0) rfl rfl) rfl rfl hl.1 rfl (lv_room (Nat.le_of_ble_eq_true rfl)) dX7_netByTrying_4 ⟨Nat.le_of_ble_eq_true rfl, Nat.le_of_ble_eq_true rfl⟩) hS (fun q _ h => hFc q h) hFc (fun r u t H1 locs ht hvm hw hB hz1 hk1 hS => ?_)
  obtain ⟨hP1, hK1, hD1⟩ := hB
  rw [ht] at hP1
  have hK1 := va_K.moved hvm.symm hK1
  obtain ⟨hP, hD⟩ := va_join (wr := [(kA, .inl (cI, 2, .inl (fun _ => 0)))]) (w1 := [(k0, .inr (10, [.ref kN, .ref kA, .ref kO, .ref kK, .ref kV, .ref kG, .ref kP, .ref kC, .ref kD, .ref kE, .ref kF, .ref kX, .ref kY, .int 0, .ref kT, .ref kU, .int 0, .int 0, .int 0])), (kN, .inl (cI, 2, .inl (fun _ => 0)))]) hP hD [0, 1] [2] rfl rfl (by decide) (by decide) hk1 hFc hP1 hD1
  generalize H1 = H at hP hS ⊢
  have hP : va_P (dC, dI) vwCl [(kA, .inl (cI, 2, .inl (fun _ => 0))), (k0, .inr (10, [.ref kN, .ref kA, .ref kO, .ref kK, .ref kV, .ref kG, .ref kP, .ref kC, .ref kD, .ref kE, .ref kF, .ref kX, .ref kY, .int 0, .ref kT, .ref kU, .int 0, .int 0, .int 0])), (kN, .inl (cI, 2, .inl (fun _ => 0)))] _ := hP
  have hD : va_D A [(kA, .inl (cI, 2, .inl (fun _ => 0))), (k0, .inr (10, [.ref kN, .ref kA, .ref kO, .ref kK, .ref kV, .ref kG, .ref kP, .ref kC, .ref kD, .ref kE, .ref kF, .ref kX, .ref kY, .int 0, .ref kT, .ref kU, .int 0, .int 0, .int 0])), (kN, .inl (cI, 2, .inl (fun _ => 0)))] := hD
  subst hw
  refine lv_if_ne (tgt := 14) hx hb dX7_netByTrying_7 (by decide) (fun h9 => absurd (by decide) h9) (fun _ => ?_)
  refine lv_iconst (v := 1) hx hb dX7_netByTrying_10 (by decide) ?_
  refine lv_goto (tgt := 37) hx hb dX7_netByTrying_11 (by decide) ?_
  refine va_put (D := (dC, dI)) (ci := 10) (v := .int 1) (ty := .int) (C := RX7) (T := TX7) (N := 19) hx hb hts (fun w h => List.mem_cons_of_mem _ (List.mem_append_left _ (List.mem_append_right _ (h)))) tyX7 tyX7_ok nmX7 hown hK hP hD hS 1 rfl rfl 16 (by decide) (hts (.fieldLink RX7 57 "NetcompareModel" "thrown" "I") (List.mem_cons_of_mem _ (List.mem_append_left _ (List.mem_append_left _ (List.mem_append_left _ (List.mem_of_getElem? (i := 0) rfl)))))) (fun _ h9 => h9) rfl (by decide +kernel) rfl rfl (Nat.le_of_ble_eq_true rfl) dX7_netByTrying_37 (fun H locs hP hD hS => ?_)
  have hP : va_P (dC, dI) vwCl [(kA, .inl (cI, 2, .inl (fun _ => 0))), (k0, .inr (10, [.ref kN, .ref kA, .ref kO, .ref kK, .ref kV, .ref kG, .ref kP, .ref kC, .ref kD, .ref kE, .ref kF, .ref kX, .ref kY, .int 0, .ref kT, .ref kU, .int 1, .int 0, .int 0])), (kN, .inl (cI, 2, .inl (fun _ => 0)))] _ := hP
  have hD : va_D A [(kA, .inl (cI, 2, .inl (fun _ => 0))), (k0, .inr (10, [.ref kN, .ref kA, .ref kO, .ref kK, .ref kV, .ref kG, .ref kP, .ref kC, .ref kD, .ref kE, .ref kF, .ref kX, .ref kY, .int 0, .ref kT, .ref kU, .int 1, .int 0, .int 0])), (kN, .inl (cI, 2, .inl (fun _ => 0)))] := hD
  refine lv_aload_n hx hb dX7_netByTrying_40 rfl (lv_at hl 0 rfl) ?_
  refine va_get (D := (dC, dI)) (ci := 10) (v := .int 1) (C := RX7) (T := TX7) (N := 19) hx hb hts (fun w h => List.mem_cons_of_mem _ (List.mem_append_left _ (List.mem_append_right _ (h)))) hown hK hP 1 rfl rfl 16 (by decide) (hts (.fieldLink RX7 57 "NetcompareModel" "thrown" "I") (List.mem_cons_of_mem _ (List.mem_append_left _ (List.mem_append_left _ (List.mem_append_left _ (List.mem_of_getElem? (i := 0) rfl)))))) (fun _ h9 => h9) rfl dX7_netByTrying_41 ?_
  refine lv_if_ne (tgt := 56) hx hb dX7_netByTrying_44 (by decide) (fun _ => ?_) (fun h9 => absurd h9 (by decide))
  refine lv_iconst (v := (-1)) hx hb dX7_netByTrying_56 (by decide) ?_
  exact ret _ 1 _ _ _ _ _ _ (rfl) (hP.sub [1] rfl) (hK.sub [] rfl) (hD.sub [1] (by decide) rfl) hS (Nat.le_of_ble_eq_true rfl) (Nat.le_of_ble_eq_true rfl) dX7_netByTrying_57

set_option maxHeartbeats 4000000 in
set_option maxRecDepth 100000 in
/-- the model: matchedPart on a fresh one -/
theorem kX7_matchedPart (l : Launch) (dC : Nat → ClassId) (dI : Nat → Nat → Nat) (k0 kN kA kO kK kV kG kP kC kD kE kF kX kY kT kU : Nat) (cI : ClassId) (p0 : Int32) (sz : Nat) : fMi l yX7_matchedPart wsX7_matchedPart ({ frames := 2, cells := 0, slots := 0, locals := 47 } : Room) dC dI [.ref k0, .int p0] [(k0, .inr (10, [.ref kN, .ref kA, .ref kO, .ref kK, .ref kV, .ref kG, .ref kP, .ref kC, .ref kD, .ref kE, .ref kF, .ref kX, .ref kY, .int 0, .ref kT, .ref kU, .int 0, .int 0, .int 0])), (kN, .inl (cI, 2, .inl (fun _ => 0))), (kA, .inl (cI, 2, .inl (fun _ => 0)))] [(cI, .int)] sz (fun (r : Int32) (u : Int32) => u = 1) (fun u => [(k0, .inr (10, [.ref kN, .ref kA, .ref kO, .ref kK, .ref kV, .ref kG, .ref kP, .ref kC, .ref kD, .ref kE, .ref kF, .ref kX, .ref kY, .int 0, .ref kT, .ref kU, .int u, .int 0, .int 0]))]) (fun u => []) := by
  refine oP_i (y := yX7_matchedPart) (cc := cX7_matchedPart) (maxL := 2) (by decide) rfl (Nat.le_of_ble_eq_true rfl) ?_
  intro p e s m args below meth c ls A Q hx hb hr hml hown hts hN hZ hA hin hlk hP hK hD hl ret
  have hS : va_S A s.heap s.heap [] := va_S.rf
  have hl : lv_has ls 2 [(0, .ref k0), (1, .int p0)] := hl
  have hP : va_P (dC, dI) vwCl [(k0, .inr (10, [.ref kN, .ref kA, .ref kO, .ref kK, .ref kV, .ref kG, .ref kP, .ref kC, .ref kD, .ref kE, .ref kF, .ref kX, .ref kY, .int 0, .ref kT, .ref kU, .int 0, .int 0, .int 0])), (kN, .inl (cI, 2, .inl (fun _ => 0))), (kA, .inl (cI, 2, .inl (fun _ => 0)))] _ := hP
  have hD : va_D A [(k0, .inr (10, [.ref kN, .ref kA, .ref kO, .ref kK, .ref kV, .ref kG, .ref kP, .ref kC, .ref kD, .ref kE, .ref kF, .ref kX, .ref kY, .int 0, .ref kT, .ref kU, .int 0, .int 0, .int 0])), (kN, .inl (cI, 2, .inl (fun _ => 0))), (kA, .inl (cI, 2, .inl (fun _ => 0)))] := hD
  refine lv_aload_n hx hb dX7_matchedPart_0 rfl (lv_at hl 0 rfl) ?_
  refine lv_aload_n hx hb dX7_matchedPart_1 rfl (lv_at hl 0 rfl) ?_
  refine lv_iconst (v := 0) hx hb dX7_matchedPart_2 (by decide) ?_
  refine lv_iload_n hx hb dX7_matchedPart_3 rfl (lv_at hl 1 rfl) ?_
  have hPc := hP.sub (ws' := [(k0, .inr (10, [.ref kN, .ref kA, .ref kO, .ref kK, .ref kV, .ref kG, .ref kP, .ref kC, .ref kD, .ref kE, .ref kF, .ref kX, .ref kY, .int 0, .ref kT, .ref kU, .int 0, .int 0, .int 0])), (kA, .inl (cI, 2, .inl (fun _ => 0)))]) [0, 2] rfl
  have hDc := hD.sub (ws' := [(k0, .inr (10, [.ref kN, .ref kA, .ref kO, .ref kK, .ref kV, .ref kG, .ref kP, .ref kC, .ref kD, .ref kE, .ref kF, .ref kX, .ref kY, .int 0, .ref kT, .ref kU, .int 0, .int 0, .int 0])), (kA, .inl (cI, 2, .inl (fun _ => 0)))]) [0, 2] (by decide) rfl
  have hKc := hK.sub (tys' := [(cI, .int)]) [0] rfl
  have hFc := va_free (wc := [(k0, .inr (10, [.ref kN, .ref kA, .ref kO, .ref kK, .ref kV, .ref kG, .ref kP, .ref kC, .ref kD, .ref kE, .ref kF, .ref kX, .ref kY, .int 0, .ref kT, .ref kU, .int 0, .int 0, .int 0])), (kA, .inl (cI, 2, .inl (fun _ => 0)))]) hD hS hA [0, 2] rfl
  refine va_calli (va_runV (As := [.int 0, .int p0]) (rest := [.ref k0]) ⟨hx, hb, hml, hown, hts⟩ (kX7_isPart0 l dC dI k0 kN kA kO kK kV kG kP kC kD kE kF kX kY kT kU cI p0 s.heap.size) (cwV 2 hts gX7_matchedPart_X7_isPart rfl rfl rfl (by decide +kernel) ⟨Nat.le_of_ble_eq_true rfl, Nat.le_of_ble_eq_true rfl⟩) (fPreV hN hZ hS (fun q h => hFc q h) hPc hKc hDc (ci := 10) (q0 := 0) rfl rfl) rfl rfl hl.1 rfl (lv_room (Nat.le_of_ble_eq_true rfl)) dX7_matchedPart_4 ⟨Nat.le_of_ble_eq_true rfl, Nat.le_of_ble_eq_true rfl⟩) hS (fun q _ h => hFc q h) hFc (fun r u t H1 locs ht hvm hw hB hz1 hk1 hS => ?_)
  obtain ⟨hP1, hK1, hD1⟩ := hB
  rw [ht] at hP1
  have hK1 := va_K.moved hvm.symm hK1
  obtain ⟨hP, hD⟩ := va_join (wr := [(kN, .inl (cI, 2, .inl (fun _ => 0)))]) (w1 := [(k0, .inr (10, [.ref kN, .ref kA, .ref kO, .ref kK, .ref kV, .ref kG, .ref kP, .ref kC, .ref kD, .ref kE, .ref kF, .ref kX, .ref kY, .int 0, .ref kT, .ref kU, .int 0, .int 0, .int 0])), (kA, .inl (cI, 2, .inl (fun _ => 0)))]) hP hD [0, 2] [1] rfl rfl (by decide) (by decide) hk1 hFc hP1 hD1
  generalize H1 = H at hP hS ⊢
  have hP : va_P (dC, dI) vwCl [(kN, .inl (cI, 2, .inl (fun _ => 0))), (k0, .inr (10, [.ref kN, .ref kA, .ref kO, .ref kK, .ref kV, .ref kG, .ref kP, .ref kC, .ref kD, .ref kE, .ref kF, .ref kX, .ref kY, .int 0, .ref kT, .ref kU, .int 0, .int 0, .int 0])), (kA, .inl (cI, 2, .inl (fun _ => 0)))] _ := hP
  have hD : va_D A [(kN, .inl (cI, 2, .inl (fun _ => 0))), (k0, .inr (10, [.ref kN, .ref kA, .ref kO, .ref kK, .ref kV, .ref kG, .ref kP, .ref kC, .ref kD, .ref kE, .ref kF, .ref kX, .ref kY, .int 0, .ref kT, .ref kU, .int 0, .int 0, .int 0])), (kA, .inl (cI, 2, .inl (fun _ => 0)))] := hD
  subst hw
  refine lv_if_ne (tgt := 14) hx hb dX7_matchedPart_7 (by decide) (fun h9 => absurd (by decide) h9) (fun _ => ?_)
  refine lv_iconst (v := 1) hx hb dX7_matchedPart_10 (by decide) ?_
  refine lv_goto (tgt := 26) hx hb dX7_matchedPart_11 (by decide) ?_
  refine va_put (D := (dC, dI)) (ci := 10) (v := .int 1) (ty := .int) (C := RX7) (T := TX7) (N := 19) hx hb hts (fun w h => List.mem_cons_of_mem _ (List.mem_append_left _ (List.mem_append_right _ (h)))) tyX7 tyX7_ok nmX7 hown hK hP hD hS 1 rfl rfl 16 (by decide) (hts (.fieldLink RX7 57 "NetcompareModel" "thrown" "I") (List.mem_cons_of_mem _ (List.mem_append_left _ (List.mem_append_left _ (List.mem_append_left _ (List.mem_of_getElem? (i := 0) rfl)))))) (fun _ h9 => h9) rfl (by decide +kernel) rfl rfl (Nat.le_of_ble_eq_true rfl) dX7_matchedPart_26 (fun H locs hP hD hS => ?_)
  have hP : va_P (dC, dI) vwCl [(kN, .inl (cI, 2, .inl (fun _ => 0))), (k0, .inr (10, [.ref kN, .ref kA, .ref kO, .ref kK, .ref kV, .ref kG, .ref kP, .ref kC, .ref kD, .ref kE, .ref kF, .ref kX, .ref kY, .int 0, .ref kT, .ref kU, .int 1, .int 0, .int 0])), (kA, .inl (cI, 2, .inl (fun _ => 0)))] _ := hP
  have hD : va_D A [(kN, .inl (cI, 2, .inl (fun _ => 0))), (k0, .inr (10, [.ref kN, .ref kA, .ref kO, .ref kK, .ref kV, .ref kG, .ref kP, .ref kC, .ref kD, .ref kE, .ref kF, .ref kX, .ref kY, .int 0, .ref kT, .ref kU, .int 1, .int 0, .int 0])), (kA, .inl (cI, 2, .inl (fun _ => 0)))] := hD
  refine lv_aload_n hx hb dX7_matchedPart_29 rfl (lv_at hl 0 rfl) ?_
  refine va_get (D := (dC, dI)) (ci := 10) (v := .int 1) (C := RX7) (T := TX7) (N := 19) hx hb hts (fun w h => List.mem_cons_of_mem _ (List.mem_append_left _ (List.mem_append_right _ (h)))) hown hK hP 1 rfl rfl 16 (by decide) (hts (.fieldLink RX7 57 "NetcompareModel" "thrown" "I") (List.mem_cons_of_mem _ (List.mem_append_left _ (List.mem_append_left _ (List.mem_append_left _ (List.mem_of_getElem? (i := 0) rfl)))))) (fun _ h9 => h9) rfl dX7_matchedPart_30 ?_
  refine lv_if_ne (tgt := 45) hx hb dX7_matchedPart_33 (by decide) (fun _ => ?_) (fun h9 => absurd h9 (by decide))
  refine lv_iconst (v := (-1)) hx hb dX7_matchedPart_45 (by decide) ?_
  exact ret _ 1 _ _ _ _ _ _ (rfl) (hP.sub [1] rfl) (hK.sub [] rfl) (hD.sub [1] (by decide) rfl) hS (Nat.le_of_ble_eq_true rfl) (Nat.le_of_ble_eq_true rfl) dX7_matchedPart_46

set_option maxHeartbeats 4000000 in
set_option maxRecDepth 100000 in
/-- the model: matchedPin on a fresh one -/
theorem kX7_matchedPin (l : Launch) (dC : Nat → ClassId) (dI : Nat → Nat → Nat) (k0 kN kA kO kK kV kG kP kC kD kE kF kX kY kT kU : Nat) (cI : ClassId) (p0 p1 : Int32) (sz : Nat) : fMi l yX7_matchedPin wsX7_matchedPin ({ frames := 2, cells := 0, slots := 0, locals := 47 } : Room) dC dI [.ref k0, .int p0, .int p1] [(k0, .inr (10, [.ref kN, .ref kA, .ref kO, .ref kK, .ref kV, .ref kG, .ref kP, .ref kC, .ref kD, .ref kE, .ref kF, .ref kX, .ref kY, .int 0, .ref kT, .ref kU, .int 0, .int 0, .int 0])), (kN, .inl (cI, 2, .inl (fun _ => 0))), (kA, .inl (cI, 2, .inl (fun _ => 0)))] [(cI, .int)] sz (fun (r : Int32) (u : Int32) => u = 1) (fun u => [(k0, .inr (10, [.ref kN, .ref kA, .ref kO, .ref kK, .ref kV, .ref kG, .ref kP, .ref kC, .ref kD, .ref kE, .ref kF, .ref kX, .ref kY, .int 0, .ref kT, .ref kU, .int u, .int 0, .int 0]))]) (fun u => []) := by
  refine oP_i (y := yX7_matchedPin) (cc := cX7_matchedPin) (maxL := 5) (by decide) rfl (Nat.le_of_ble_eq_true rfl) ?_
  intro p e s m args below meth c ls A Q hx hb hr hml hown hts hN hZ hA hin hlk hP hK hD hl ret
  have hS : va_S A s.heap s.heap [] := va_S.rf
  have hl : lv_has ls 5 [(0, .ref k0), (1, .int p0), (2, .int p1)] := hl
  have hP : va_P (dC, dI) vwCl [(k0, .inr (10, [.ref kN, .ref kA, .ref kO, .ref kK, .ref kV, .ref kG, .ref kP, .ref kC, .ref kD, .ref kE, .ref kF, .ref kX, .ref kY, .int 0, .ref kT, .ref kU, .int 0, .int 0, .int 0])), (kN, .inl (cI, 2, .inl (fun _ => 0))), (kA, .inl (cI, 2, .inl (fun _ => 0)))] _ := hP
  have hD : va_D A [(k0, .inr (10, [.ref kN, .ref kA, .ref kO, .ref kK, .ref kV, .ref kG, .ref kP, .ref kC, .ref kD, .ref kE, .ref kF, .ref kX, .ref kY, .int 0, .ref kT, .ref kU, .int 0, .int 0, .int 0])), (kN, .inl (cI, 2, .inl (fun _ => 0))), (kA, .inl (cI, 2, .inl (fun _ => 0)))] := hD
  refine lv_aload_n hx hb dX7_matchedPin_0 rfl (lv_at hl 0 rfl) ?_
  refine lv_aload_n hx hb dX7_matchedPin_1 rfl (lv_at hl 0 rfl) ?_
  refine lv_iconst (v := 0) hx hb dX7_matchedPin_2 (by decide) ?_
  refine lv_iload_n hx hb dX7_matchedPin_3 rfl (lv_at hl 1 rfl) ?_
  have hPc := hP.sub (ws' := [(k0, .inr (10, [.ref kN, .ref kA, .ref kO, .ref kK, .ref kV, .ref kG, .ref kP, .ref kC, .ref kD, .ref kE, .ref kF, .ref kX, .ref kY, .int 0, .ref kT, .ref kU, .int 0, .int 0, .int 0])), (kA, .inl (cI, 2, .inl (fun _ => 0)))]) [0, 2] rfl
  have hDc := hD.sub (ws' := [(k0, .inr (10, [.ref kN, .ref kA, .ref kO, .ref kK, .ref kV, .ref kG, .ref kP, .ref kC, .ref kD, .ref kE, .ref kF, .ref kX, .ref kY, .int 0, .ref kT, .ref kU, .int 0, .int 0, .int 0])), (kA, .inl (cI, 2, .inl (fun _ => 0)))]) [0, 2] (by decide) rfl
  have hKc := hK.sub (tys' := [(cI, .int)]) [0] rfl
  have hFc := va_free (wc := [(k0, .inr (10, [.ref kN, .ref kA, .ref kO, .ref kK, .ref kV, .ref kG, .ref kP, .ref kC, .ref kD, .ref kE, .ref kF, .ref kX, .ref kY, .int 0, .ref kT, .ref kU, .int 0, .int 0, .int 0])), (kA, .inl (cI, 2, .inl (fun _ => 0)))]) hD hS hA [0, 2] rfl
  refine va_calli (va_runV (As := [.int 0, .int p0]) (rest := [.ref k0]) ⟨hx, hb, hml, hown, hts⟩ (kX7_isPart0 l dC dI k0 kN kA kO kK kV kG kP kC kD kE kF kX kY kT kU cI p0 s.heap.size) (cwV 2 hts gX7_matchedPin_X7_isPart rfl rfl rfl (by decide +kernel) ⟨Nat.le_of_ble_eq_true rfl, Nat.le_of_ble_eq_true rfl⟩) (fPreV hN hZ hS (fun q h => hFc q h) hPc hKc hDc (ci := 10) (q0 := 0) rfl rfl) rfl rfl hl.1 rfl (lv_room (Nat.le_of_ble_eq_true rfl)) dX7_matchedPin_4 ⟨Nat.le_of_ble_eq_true rfl, Nat.le_of_ble_eq_true rfl⟩) hS (fun q _ h => hFc q h) hFc (fun r u t H1 locs ht hvm hw hB hz1 hk1 hS => ?_)
  obtain ⟨hP1, hK1, hD1⟩ := hB
  rw [ht] at hP1
  have hK1 := va_K.moved hvm.symm hK1
  obtain ⟨hP, hD⟩ := va_join (wr := [(kN, .inl (cI, 2, .inl (fun _ => 0)))]) (w1 := [(k0, .inr (10, [.ref kN, .ref kA, .ref kO, .ref kK, .ref kV, .ref kG, .ref kP, .ref kC, .ref kD, .ref kE, .ref kF, .ref kX, .ref kY, .int 0, .ref kT, .ref kU, .int 0, .int 0, .int 0])), (kA, .inl (cI, 2, .inl (fun _ => 0)))]) hP hD [0, 2] [1] rfl rfl (by decide) (by decide) hk1 hFc hP1 hD1
  generalize H1 = H at hP hS ⊢
  have hP : va_P (dC, dI) vwCl [(kN, .inl (cI, 2, .inl (fun _ => 0))), (k0, .inr (10, [.ref kN, .ref kA, .ref kO, .ref kK, .ref kV, .ref kG, .ref kP, .ref kC, .ref kD, .ref kE, .ref kF, .ref kX, .ref kY, .int 0, .ref kT, .ref kU, .int 0, .int 0, .int 0])), (kA, .inl (cI, 2, .inl (fun _ => 0)))] _ := hP
  have hD : va_D A [(kN, .inl (cI, 2, .inl (fun _ => 0))), (k0, .inr (10, [.ref kN, .ref kA, .ref kO, .ref kK, .ref kV, .ref kG, .ref kP, .ref kC, .ref kD, .ref kE, .ref kF, .ref kX, .ref kY, .int 0, .ref kT, .ref kU, .int 0, .int 0, .int 0])), (kA, .inl (cI, 2, .inl (fun _ => 0)))] := hD
  subst hw
  refine lv_if_ne (tgt := 14) hx hb dX7_matchedPin_7 (by decide) (fun h9 => absurd (by decide) h9) (fun _ => ?_)
  refine lv_iconst (v := 1) hx hb dX7_matchedPin_10 (by decide) ?_
  refine lv_goto (tgt := 51) hx hb dX7_matchedPin_11 (by decide) ?_
  refine va_put (D := (dC, dI)) (ci := 10) (v := .int 1) (ty := .int) (C := RX7) (T := TX7) (N := 19) hx hb hts (fun w h => List.mem_cons_of_mem _ (List.mem_append_left _ (List.mem_append_right _ (h)))) tyX7 tyX7_ok nmX7 hown hK hP hD hS 1 rfl rfl 16 (by decide) (hts (.fieldLink RX7 57 "NetcompareModel" "thrown" "I") (List.mem_cons_of_mem _ (List.mem_append_left _ (List.mem_append_left _ (List.mem_append_left _ (List.mem_of_getElem? (i := 0) rfl)))))) (fun _ h9 => h9) rfl (by decide +kernel) rfl rfl (Nat.le_of_ble_eq_true rfl) dX7_matchedPin_51 (fun H locs hP hD hS => ?_)
  have hP : va_P (dC, dI) vwCl [(kN, .inl (cI, 2, .inl (fun _ => 0))), (k0, .inr (10, [.ref kN, .ref kA, .ref kO, .ref kK, .ref kV, .ref kG, .ref kP, .ref kC, .ref kD, .ref kE, .ref kF, .ref kX, .ref kY, .int 0, .ref kT, .ref kU, .int 1, .int 0, .int 0])), (kA, .inl (cI, 2, .inl (fun _ => 0)))] _ := hP
  have hD : va_D A [(kN, .inl (cI, 2, .inl (fun _ => 0))), (k0, .inr (10, [.ref kN, .ref kA, .ref kO, .ref kK, .ref kV, .ref kG, .ref kP, .ref kC, .ref kD, .ref kE, .ref kF, .ref kX, .ref kY, .int 0, .ref kT, .ref kU, .int 1, .int 0, .int 0])), (kA, .inl (cI, 2, .inl (fun _ => 0)))] := hD
  refine lv_aload_n hx hb dX7_matchedPin_54 rfl (lv_at hl 0 rfl) ?_
  refine va_get (D := (dC, dI)) (ci := 10) (v := .int 1) (C := RX7) (T := TX7) (N := 19) hx hb hts (fun w h => List.mem_cons_of_mem _ (List.mem_append_left _ (List.mem_append_right _ (h)))) hown hK hP 1 rfl rfl 16 (by decide) (hts (.fieldLink RX7 57 "NetcompareModel" "thrown" "I") (List.mem_cons_of_mem _ (List.mem_append_left _ (List.mem_append_left _ (List.mem_append_left _ (List.mem_of_getElem? (i := 0) rfl)))))) (fun _ h9 => h9) rfl dX7_matchedPin_55 ?_
  refine lv_if_le (tgt := 63) hx hb dX7_matchedPin_58 (by decide) (fun h9 => absurd h9 (by decide)) (fun _ => ?_)
  refine lv_iconst (v := (-1)) hx hb dX7_matchedPin_61 (by decide) ?_
  exact ret _ 1 _ _ _ _ _ _ (rfl) (hP.sub [1] rfl) (hK.sub [] rfl) (hD.sub [1] (by decide) rfl) hS (Nat.le_of_ble_eq_true rfl) (Nat.le_of_ble_eq_true rfl) dX7_matchedPin_62

set_option maxHeartbeats 4000000 in
set_option maxRecDepth 100000 in
/-- the model: differenceKind on a fresh one -/
theorem kX7_differenceKind (l : Launch) (dC : Nat → ClassId) (dI : Nat → Nat → Nat) (k0 kN kA kO kK kV kG kP kC kD kE kF kX kY kT kU : Nat) (cI : ClassId) (g1 g2 g3 g4 : Nat → Int32) (p0 : Int32) (sz : Nat) : fMi l yX7_differenceKind wsX7_differenceKind ({ frames := 6, cells := 2, slots := 40, locals := 144 } : Room) dC dI [.ref k0, .int p0] [(k0, .inr (10, [.ref kN, .ref kA, .ref kO, .ref kK, .ref kV, .ref kG, .ref kP, .ref kC, .ref kD, .ref kE, .ref kF, .ref kX, .ref kY, .int 0, .ref kT, .ref kU, .int 0, .int 0, .int 0])), (kN, .inl (cI, 2, .inl (fun _ => 0))), (kA, .inl (cI, 2, .inl (fun _ => 0))), (kC, .inl (cI, 20, .inl g1)), (kD, .inl (cI, 20, .inl g2)), (kE, .inl (cI, 20, .inl g3)), (kF, .inl (cI, 20, .inl g4))] [(cI, .int)] sz (fun (r : Int32) (u : Int32) => u = 1) (fun u => [(k0, .inr (10, [.ref kN, .ref kA, .ref kO, .ref kK, .ref kV, .ref kG, .ref kP, .ref kC, .ref kD, .ref kE, .ref kF, .ref kX, .ref kY, .int 0, .ref kT, .ref kU, .int u, .int 0, .int 0]))]) (fun u => []) := by
  refine oP_z (y := yX7_differenceKind) (cc := cX7_differenceKind) (maxL := 2) (by decide) rfl (Nat.le_of_ble_eq_true rfl) ?_
  intro p e s m args below meth c ls A Q hx hb hr hml hown hts hN hZ hA hin hlk hP hK hD hl ret
  have hS : va_S A s.heap s.heap [] := va_S.rf
  have hl : lv_has ls 2 [(0, .ref k0), (1, .int p0)] := hl
  have hP : va_P (dC, dI) vwCl [(k0, .inr (10, [.ref kN, .ref kA, .ref kO, .ref kK, .ref kV, .ref kG, .ref kP, .ref kC, .ref kD, .ref kE, .ref kF, .ref kX, .ref kY, .int 0, .ref kT, .ref kU, .int 0, .int 0, .int 0])), (kN, .inl (cI, 2, .inl (fun _ => 0))), (kA, .inl (cI, 2, .inl (fun _ => 0))), (kC, .inl (cI, 20, .inl g1)), (kD, .inl (cI, 20, .inl g2)), (kE, .inl (cI, 20, .inl g3)), (kF, .inl (cI, 20, .inl g4))] _ := hP
  have hD : va_D A [(k0, .inr (10, [.ref kN, .ref kA, .ref kO, .ref kK, .ref kV, .ref kG, .ref kP, .ref kC, .ref kD, .ref kE, .ref kF, .ref kX, .ref kY, .int 0, .ref kT, .ref kU, .int 0, .int 0, .int 0])), (kN, .inl (cI, 2, .inl (fun _ => 0))), (kA, .inl (cI, 2, .inl (fun _ => 0))), (kC, .inl (cI, 20, .inl g1)), (kD, .inl (cI, 20, .inl g2)), (kE, .inl (cI, 20, .inl g3)), (kF, .inl (cI, 20, .inl g4))] := hD
  refine lv_aload_n hx hb dX7_differenceKind_0 rfl (lv_at hl 0 rfl) ?_
  refine lv_iload_n hx hb dX7_differenceKind_1 rfl (lv_at hl 1 rfl) ?_
  have hPc := hP.sub (ws' := [(k0, .inr (10, [.ref kN, .ref kA, .ref kO, .ref kK, .ref kV, .ref kG, .ref kP, .ref kC, .ref kD, .ref kE, .ref kF, .ref kX, .ref kY, .int 0, .ref kT, .ref kU, .int 0, .int 0, .int 0])), (kN, .inl (cI, 2, .inl (fun _ => 0))), (kA, .inl (cI, 2, .inl (fun _ => 0))), (kC, .inl (cI, 20, .inl g1)), (kD, .inl (cI, 20, .inl g2)), (kE, .inl (cI, 20, .inl g3)), (kF, .inl (cI, 20, .inl g4))]) [0, 1, 2, 3, 4, 5, 6] rfl
  have hDc := hD.sub (ws' := [(k0, .inr (10, [.ref kN, .ref kA, .ref kO, .ref kK, .ref kV, .ref kG, .ref kP, .ref kC, .ref kD, .ref kE, .ref kF, .ref kX, .ref kY, .int 0, .ref kT, .ref kU, .int 0, .int 0, .int 0])), (kN, .inl (cI, 2, .inl (fun _ => 0))), (kA, .inl (cI, 2, .inl (fun _ => 0))), (kC, .inl (cI, 20, .inl g1)), (kD, .inl (cI, 20, .inl g2)), (kE, .inl (cI, 20, .inl g3)), (kF, .inl (cI, 20, .inl g4))]) [0, 1, 2, 3, 4, 5, 6] (by decide) rfl
  have hKc := hK.sub (tys' := [(cI, .int)]) [0] rfl
  have hFc := va_free (wc := [(k0, .inr (10, [.ref kN, .ref kA, .ref kO, .ref kK, .ref kV, .ref kG, .ref kP, .ref kC, .ref kD, .ref kE, .ref kF, .ref kX, .ref kY, .int 0, .ref kT, .ref kU, .int 0, .int 0, .int 0])), (kN, .inl (cI, 2, .inl (fun _ => 0))), (kA, .inl (cI, 2, .inl (fun _ => 0))), (kC, .inl (cI, 20, .inl g1)), (kD, .inl (cI, 20, .inl g2)), (kE, .inl (cI, 20, .inl g3)), (kF, .inl (cI, 20, .inl g4))]) hD hS hA [0, 1, 2, 3, 4, 5, 6] rfl
  refine va_calli (va_runV (As := [.int p0]) (rest := []) ⟨hx, hb, hml, hown, hts⟩ (kX7_finds l dC dI k0 kN kA kO kK kV kG kP kC kD kE kF kX kY kT kU cI g1 g2 g3 g4 p0 s.heap.size) (cwV 1 hts gX7_differenceKind_X7_finds rfl rfl rfl (by decide +kernel) ⟨Nat.le_of_ble_eq_true rfl, Nat.le_of_ble_eq_true rfl⟩) (fPreV hN hZ hS (fun q h => hFc q h) hPc hKc hDc (ci := 10) (q0 := 0) rfl rfl) rfl rfl hl.1 rfl (lv_room (Nat.le_of_ble_eq_true rfl)) dX7_differenceKind_2 ⟨Nat.le_of_ble_eq_true rfl, Nat.le_of_ble_eq_true rfl⟩) hS (fun q _ h => hFc q h) hFc (fun r u t H1 locs ht hvm hw hB hz1 hk1 hS => ?_)
  obtain ⟨hP1, hK1, hD1⟩ := hB
  rw [ht] at hP1
  have hK1 := va_K.moved hvm.symm hK1
  obtain ⟨hP, hD⟩ := va_join (wr := []) (w1 := [(k0, .inr (10, [.ref kN, .ref kA, .ref kO, .ref kK, .ref kV, .ref kG, .ref kP, .ref kC, .ref kD, .ref kE, .ref kF, .ref kX, .ref kY, .int 0, .ref kT, .ref kU, .int 1, .int 0, .int 0]))]) hP hD [0, 1, 2, 3, 4, 5, 6] [] rfl rfl (by decide) (by decide) hk1 hFc hP1 hD1
  generalize H1 = H at hP hS ⊢
  have hP : va_P (dC, dI) vwCl [(k0, .inr (10, [.ref kN, .ref kA, .ref kO, .ref kK, .ref kV, .ref kG, .ref kP, .ref kC, .ref kD, .ref kE, .ref kF, .ref kX, .ref kY, .int 0, .ref kT, .ref kU, .int 1, .int 0, .int 0]))] _ := hP
  have hD : va_D A [(k0, .inr (10, [.ref kN, .ref kA, .ref kO, .ref kK, .ref kV, .ref kG, .ref kP, .ref kC, .ref kD, .ref kE, .ref kF, .ref kX, .ref kY, .int 0, .ref kT, .ref kU, .int 1, .int 0, .int 0]))] := hD
  refine W.widen (k := 2) (n := 40) (Nat.le_of_ble_eq_true rfl) (Nat.le_of_ble_eq_true rfl) ?_
  subst hw
  refine lv_if_eq (tgt := 25) hx hb dX7_differenceKind_5 (by decide) (fun _ => ?_) (fun h9 => absurd (by decide) h9)
  refine lv_bipush (v := 32) hx hb dX7_differenceKind_25 (by decide) ?_
  exact ret _ 1 _ _ _ _ _ _ (by decide) (rfl) (hP.sub [0] rfl) (hK.sub [] rfl) (hD.sub [0] (by decide) rfl) hS (Nat.le_of_ble_eq_true rfl) (Nat.le_of_ble_eq_true rfl) dX7_differenceKind_27

set_option maxHeartbeats 4000000 in
set_option maxRecDepth 100000 in
/-- the model: differenceMember on a fresh one -/
theorem kX7_differenceMember (l : Launch) (dC : Nat → ClassId) (dI : Nat → Nat → Nat) (k0 kN kA kO kK kV kG kP kC kD kE kF kX kY kT kU : Nat) (cI : ClassId) (g1 g2 g3 g4 : Nat → Int32) (p0 : Int32) (sz : Nat) : fMi l yX7_differenceMember wsX7_differenceMember ({ frames := 6, cells := 2, slots := 40, locals := 144 } : Room) dC dI [.ref k0, .int p0] [(k0, .inr (10, [.ref kN, .ref kA, .ref kO, .ref kK, .ref kV, .ref kG, .ref kP, .ref kC, .ref kD, .ref kE, .ref kF, .ref kX, .ref kY, .int 0, .ref kT, .ref kU, .int 0, .int 0, .int 0])), (kN, .inl (cI, 2, .inl (fun _ => 0))), (kA, .inl (cI, 2, .inl (fun _ => 0))), (kC, .inl (cI, 20, .inl g1)), (kD, .inl (cI, 20, .inl g2)), (kE, .inl (cI, 20, .inl g3)), (kF, .inl (cI, 20, .inl g4))] [(cI, .int)] sz (fun (r : Int32) (u : Int32) => u = 1) (fun u => [(k0, .inr (10, [.ref kN, .ref kA, .ref kO, .ref kK, .ref kV, .ref kG, .ref kP, .ref kC, .ref kD, .ref kE, .ref kF, .ref kX, .ref kY, .int 0, .ref kT, .ref kU, .int u, .int 0, .int 0]))]) (fun u => []) := by
  refine oP_i (y := yX7_differenceMember) (cc := cX7_differenceMember) (maxL := 2) (by decide) rfl (Nat.le_of_ble_eq_true rfl) ?_
  intro p e s m args below meth c ls A Q hx hb hr hml hown hts hN hZ hA hin hlk hP hK hD hl ret
  have hS : va_S A s.heap s.heap [] := va_S.rf
  have hl : lv_has ls 2 [(0, .ref k0), (1, .int p0)] := hl
  have hP : va_P (dC, dI) vwCl [(k0, .inr (10, [.ref kN, .ref kA, .ref kO, .ref kK, .ref kV, .ref kG, .ref kP, .ref kC, .ref kD, .ref kE, .ref kF, .ref kX, .ref kY, .int 0, .ref kT, .ref kU, .int 0, .int 0, .int 0])), (kN, .inl (cI, 2, .inl (fun _ => 0))), (kA, .inl (cI, 2, .inl (fun _ => 0))), (kC, .inl (cI, 20, .inl g1)), (kD, .inl (cI, 20, .inl g2)), (kE, .inl (cI, 20, .inl g3)), (kF, .inl (cI, 20, .inl g4))] _ := hP
  have hD : va_D A [(k0, .inr (10, [.ref kN, .ref kA, .ref kO, .ref kK, .ref kV, .ref kG, .ref kP, .ref kC, .ref kD, .ref kE, .ref kF, .ref kX, .ref kY, .int 0, .ref kT, .ref kU, .int 0, .int 0, .int 0])), (kN, .inl (cI, 2, .inl (fun _ => 0))), (kA, .inl (cI, 2, .inl (fun _ => 0))), (kC, .inl (cI, 20, .inl g1)), (kD, .inl (cI, 20, .inl g2)), (kE, .inl (cI, 20, .inl g3)), (kF, .inl (cI, 20, .inl g4))] := hD
  refine lv_aload_n hx hb dX7_differenceMember_0 rfl (lv_at hl 0 rfl) ?_
  refine lv_iload_n hx hb dX7_differenceMember_1 rfl (lv_at hl 1 rfl) ?_
  have hPc := hP.sub (ws' := [(k0, .inr (10, [.ref kN, .ref kA, .ref kO, .ref kK, .ref kV, .ref kG, .ref kP, .ref kC, .ref kD, .ref kE, .ref kF, .ref kX, .ref kY, .int 0, .ref kT, .ref kU, .int 0, .int 0, .int 0])), (kN, .inl (cI, 2, .inl (fun _ => 0))), (kA, .inl (cI, 2, .inl (fun _ => 0))), (kC, .inl (cI, 20, .inl g1)), (kD, .inl (cI, 20, .inl g2)), (kE, .inl (cI, 20, .inl g3)), (kF, .inl (cI, 20, .inl g4))]) [0, 1, 2, 3, 4, 5, 6] rfl
  have hDc := hD.sub (ws' := [(k0, .inr (10, [.ref kN, .ref kA, .ref kO, .ref kK, .ref kV, .ref kG, .ref kP, .ref kC, .ref kD, .ref kE, .ref kF, .ref kX, .ref kY, .int 0, .ref kT, .ref kU, .int 0, .int 0, .int 0])), (kN, .inl (cI, 2, .inl (fun _ => 0))), (kA, .inl (cI, 2, .inl (fun _ => 0))), (kC, .inl (cI, 20, .inl g1)), (kD, .inl (cI, 20, .inl g2)), (kE, .inl (cI, 20, .inl g3)), (kF, .inl (cI, 20, .inl g4))]) [0, 1, 2, 3, 4, 5, 6] (by decide) rfl
  have hKc := hK.sub (tys' := [(cI, .int)]) [0] rfl
  have hFc := va_free (wc := [(k0, .inr (10, [.ref kN, .ref kA, .ref kO, .ref kK, .ref kV, .ref kG, .ref kP, .ref kC, .ref kD, .ref kE, .ref kF, .ref kX, .ref kY, .int 0, .ref kT, .ref kU, .int 0, .int 0, .int 0])), (kN, .inl (cI, 2, .inl (fun _ => 0))), (kA, .inl (cI, 2, .inl (fun _ => 0))), (kC, .inl (cI, 20, .inl g1)), (kD, .inl (cI, 20, .inl g2)), (kE, .inl (cI, 20, .inl g3)), (kF, .inl (cI, 20, .inl g4))]) hD hS hA [0, 1, 2, 3, 4, 5, 6] rfl
  refine va_calli (va_runV (As := [.int p0]) (rest := []) ⟨hx, hb, hml, hown, hts⟩ (kX7_finds l dC dI k0 kN kA kO kK kV kG kP kC kD kE kF kX kY kT kU cI g1 g2 g3 g4 p0 s.heap.size) (cwV 1 hts gX7_differenceMember_X7_finds rfl rfl rfl (by decide +kernel) ⟨Nat.le_of_ble_eq_true rfl, Nat.le_of_ble_eq_true rfl⟩) (fPreV hN hZ hS (fun q h => hFc q h) hPc hKc hDc (ci := 10) (q0 := 0) rfl rfl) rfl rfl hl.1 rfl (lv_room (Nat.le_of_ble_eq_true rfl)) dX7_differenceMember_2 ⟨Nat.le_of_ble_eq_true rfl, Nat.le_of_ble_eq_true rfl⟩) hS (fun q _ h => hFc q h) hFc (fun r u t H1 locs ht hvm hw hB hz1 hk1 hS => ?_)
  obtain ⟨hP1, hK1, hD1⟩ := hB
  rw [ht] at hP1
  have hK1 := va_K.moved hvm.symm hK1
  obtain ⟨hP, hD⟩ := va_join (wr := []) (w1 := [(k0, .inr (10, [.ref kN, .ref kA, .ref kO, .ref kK, .ref kV, .ref kG, .ref kP, .ref kC, .ref kD, .ref kE, .ref kF, .ref kX, .ref kY, .int 0, .ref kT, .ref kU, .int 1, .int 0, .int 0]))]) hP hD [0, 1, 2, 3, 4, 5, 6] [] rfl rfl (by decide) (by decide) hk1 hFc hP1 hD1
  generalize H1 = H at hP hS ⊢
  have hP : va_P (dC, dI) vwCl [(k0, .inr (10, [.ref kN, .ref kA, .ref kO, .ref kK, .ref kV, .ref kG, .ref kP, .ref kC, .ref kD, .ref kE, .ref kF, .ref kX, .ref kY, .int 0, .ref kT, .ref kU, .int 1, .int 0, .int 0]))] _ := hP
  have hD : va_D A [(k0, .inr (10, [.ref kN, .ref kA, .ref kO, .ref kK, .ref kV, .ref kG, .ref kP, .ref kC, .ref kD, .ref kE, .ref kF, .ref kX, .ref kY, .int 0, .ref kT, .ref kU, .int 1, .int 0, .int 0]))] := hD
  refine W.widen (k := 2) (n := 40) (Nat.le_of_ble_eq_true rfl) (Nat.le_of_ble_eq_true rfl) ?_
  subst hw
  refine lv_if_eq (tgt := 36) hx hb dX7_differenceMember_5 (by decide) (fun _ => ?_) (fun h9 => absurd (by decide) h9)
  refine lv_iconst (v := (-1)) hx hb dX7_differenceMember_36 (by decide) ?_
  exact ret _ 1 _ _ _ _ _ _ (rfl) (hP.sub [0] rfl) (hK.sub [] rfl) (hD.sub [0] (by decide) rfl) hS (Nat.le_of_ble_eq_true rfl) (Nat.le_of_ble_eq_true rfl) dX7_differenceMember_37

set_option maxHeartbeats 4000000 in
set_option maxRecDepth 100000 in
/-- the model: differenceDistance on a fresh one -/
theorem kX7_differenceDistance (l : Launch) (dC : Nat → ClassId) (dI : Nat → Nat → Nat) (k0 kN kA kO kK kV kG kP kC kD kE kF kX kY kT kU : Nat) (cI : ClassId) (g1 g2 g3 g4 : Nat → Int32) (p0 : Int32) (sz : Nat) : fMi l yX7_differenceDistance wsX7_differenceDistance ({ frames := 6, cells := 2, slots := 40, locals := 144 } : Room) dC dI [.ref k0, .int p0] [(k0, .inr (10, [.ref kN, .ref kA, .ref kO, .ref kK, .ref kV, .ref kG, .ref kP, .ref kC, .ref kD, .ref kE, .ref kF, .ref kX, .ref kY, .int 0, .ref kT, .ref kU, .int 0, .int 0, .int 0])), (kN, .inl (cI, 2, .inl (fun _ => 0))), (kA, .inl (cI, 2, .inl (fun _ => 0))), (kC, .inl (cI, 20, .inl g1)), (kD, .inl (cI, 20, .inl g2)), (kE, .inl (cI, 20, .inl g3)), (kF, .inl (cI, 20, .inl g4))] [(cI, .int)] sz (fun (r : Int32) (u : Int32) => u = 1) (fun u => [(k0, .inr (10, [.ref kN, .ref kA, .ref kO, .ref kK, .ref kV, .ref kG, .ref kP, .ref kC, .ref kD, .ref kE, .ref kF, .ref kX, .ref kY, .int 0, .ref kT, .ref kU, .int u, .int 0, .int 0]))]) (fun u => []) := by
  refine oP_i (y := yX7_differenceDistance) (cc := cX7_differenceDistance) (maxL := 2) (by decide) rfl (Nat.le_of_ble_eq_true rfl) ?_
  intro p e s m args below meth c ls A Q hx hb hr hml hown hts hN hZ hA hin hlk hP hK hD hl ret
  have hS : va_S A s.heap s.heap [] := va_S.rf
  have hl : lv_has ls 2 [(0, .ref k0), (1, .int p0)] := hl
  have hP : va_P (dC, dI) vwCl [(k0, .inr (10, [.ref kN, .ref kA, .ref kO, .ref kK, .ref kV, .ref kG, .ref kP, .ref kC, .ref kD, .ref kE, .ref kF, .ref kX, .ref kY, .int 0, .ref kT, .ref kU, .int 0, .int 0, .int 0])), (kN, .inl (cI, 2, .inl (fun _ => 0))), (kA, .inl (cI, 2, .inl (fun _ => 0))), (kC, .inl (cI, 20, .inl g1)), (kD, .inl (cI, 20, .inl g2)), (kE, .inl (cI, 20, .inl g3)), (kF, .inl (cI, 20, .inl g4))] _ := hP
  have hD : va_D A [(k0, .inr (10, [.ref kN, .ref kA, .ref kO, .ref kK, .ref kV, .ref kG, .ref kP, .ref kC, .ref kD, .ref kE, .ref kF, .ref kX, .ref kY, .int 0, .ref kT, .ref kU, .int 0, .int 0, .int 0])), (kN, .inl (cI, 2, .inl (fun _ => 0))), (kA, .inl (cI, 2, .inl (fun _ => 0))), (kC, .inl (cI, 20, .inl g1)), (kD, .inl (cI, 20, .inl g2)), (kE, .inl (cI, 20, .inl g3)), (kF, .inl (cI, 20, .inl g4))] := hD
  refine lv_aload_n hx hb dX7_differenceDistance_0 rfl (lv_at hl 0 rfl) ?_
  refine lv_iload_n hx hb dX7_differenceDistance_1 rfl (lv_at hl 1 rfl) ?_
  have hPc := hP.sub (ws' := [(k0, .inr (10, [.ref kN, .ref kA, .ref kO, .ref kK, .ref kV, .ref kG, .ref kP, .ref kC, .ref kD, .ref kE, .ref kF, .ref kX, .ref kY, .int 0, .ref kT, .ref kU, .int 0, .int 0, .int 0])), (kN, .inl (cI, 2, .inl (fun _ => 0))), (kA, .inl (cI, 2, .inl (fun _ => 0))), (kC, .inl (cI, 20, .inl g1)), (kD, .inl (cI, 20, .inl g2)), (kE, .inl (cI, 20, .inl g3)), (kF, .inl (cI, 20, .inl g4))]) [0, 1, 2, 3, 4, 5, 6] rfl
  have hDc := hD.sub (ws' := [(k0, .inr (10, [.ref kN, .ref kA, .ref kO, .ref kK, .ref kV, .ref kG, .ref kP, .ref kC, .ref kD, .ref kE, .ref kF, .ref kX, .ref kY, .int 0, .ref kT, .ref kU, .int 0, .int 0, .int 0])), (kN, .inl (cI, 2, .inl (fun _ => 0))), (kA, .inl (cI, 2, .inl (fun _ => 0))), (kC, .inl (cI, 20, .inl g1)), (kD, .inl (cI, 20, .inl g2)), (kE, .inl (cI, 20, .inl g3)), (kF, .inl (cI, 20, .inl g4))]) [0, 1, 2, 3, 4, 5, 6] (by decide) rfl
  have hKc := hK.sub (tys' := [(cI, .int)]) [0] rfl
  have hFc := va_free (wc := [(k0, .inr (10, [.ref kN, .ref kA, .ref kO, .ref kK, .ref kV, .ref kG, .ref kP, .ref kC, .ref kD, .ref kE, .ref kF, .ref kX, .ref kY, .int 0, .ref kT, .ref kU, .int 0, .int 0, .int 0])), (kN, .inl (cI, 2, .inl (fun _ => 0))), (kA, .inl (cI, 2, .inl (fun _ => 0))), (kC, .inl (cI, 20, .inl g1)), (kD, .inl (cI, 20, .inl g2)), (kE, .inl (cI, 20, .inl g3)), (kF, .inl (cI, 20, .inl g4))]) hD hS hA [0, 1, 2, 3, 4, 5, 6] rfl
  refine va_calli (va_runV (As := [.int p0]) (rest := []) ⟨hx, hb, hml, hown, hts⟩ (kX7_finds l dC dI k0 kN kA kO kK kV kG kP kC kD kE kF kX kY kT kU cI g1 g2 g3 g4 p0 s.heap.size) (cwV 1 hts gX7_differenceDistance_X7_finds rfl rfl rfl (by decide +kernel) ⟨Nat.le_of_ble_eq_true rfl, Nat.le_of_ble_eq_true rfl⟩) (fPreV hN hZ hS (fun q h => hFc q h) hPc hKc hDc (ci := 10) (q0 := 0) rfl rfl) rfl rfl hl.1 rfl (lv_room (Nat.le_of_ble_eq_true rfl)) dX7_differenceDistance_2 ⟨Nat.le_of_ble_eq_true rfl, Nat.le_of_ble_eq_true rfl⟩) hS (fun q _ h => hFc q h) hFc (fun r u t H1 locs ht hvm hw hB hz1 hk1 hS => ?_)
  obtain ⟨hP1, hK1, hD1⟩ := hB
  rw [ht] at hP1
  have hK1 := va_K.moved hvm.symm hK1
  obtain ⟨hP, hD⟩ := va_join (wr := []) (w1 := [(k0, .inr (10, [.ref kN, .ref kA, .ref kO, .ref kK, .ref kV, .ref kG, .ref kP, .ref kC, .ref kD, .ref kE, .ref kF, .ref kX, .ref kY, .int 0, .ref kT, .ref kU, .int 1, .int 0, .int 0]))]) hP hD [0, 1, 2, 3, 4, 5, 6] [] rfl rfl (by decide) (by decide) hk1 hFc hP1 hD1
  generalize H1 = H at hP hS ⊢
  have hP : va_P (dC, dI) vwCl [(k0, .inr (10, [.ref kN, .ref kA, .ref kO, .ref kK, .ref kV, .ref kG, .ref kP, .ref kC, .ref kD, .ref kE, .ref kF, .ref kX, .ref kY, .int 0, .ref kT, .ref kU, .int 1, .int 0, .int 0]))] _ := hP
  have hD : va_D A [(k0, .inr (10, [.ref kN, .ref kA, .ref kO, .ref kK, .ref kV, .ref kG, .ref kP, .ref kC, .ref kD, .ref kE, .ref kF, .ref kX, .ref kY, .int 0, .ref kT, .ref kU, .int 1, .int 0, .int 0]))] := hD
  refine W.widen (k := 2) (n := 40) (Nat.le_of_ble_eq_true rfl) (Nat.le_of_ble_eq_true rfl) ?_
  subst hw
  refine lv_if_eq (tgt := 23) hx hb dX7_differenceDistance_5 (by decide) (fun _ => ?_) (fun h9 => absurd (by decide) h9)
  refine lv_iconst (v := (-1)) hx hb dX7_differenceDistance_23 (by decide) ?_
  exact ret _ 1 _ _ _ _ _ _ (rfl) (hP.sub [0] rfl) (hK.sub [] rfl) (hD.sub [0] (by decide) rfl) hS (Nat.le_of_ble_eq_true rfl) (Nat.le_of_ble_eq_true rfl) dX7_differenceDistance_24

set_option maxHeartbeats 4000000 in
set_option maxRecDepth 100000 in
/-- the model: differenceSize on a fresh one -/
theorem kX7_differenceSize (l : Launch) (dC : Nat → ClassId) (dI : Nat → Nat → Nat) (k0 kN kA kO kK kV kG kP kC kD kE kF kX kY kT kU : Nat) (cI : ClassId) (g1 g2 g3 g4 : Nat → Int32) (p0 p1 : Int32) (sz : Nat) : fMi l yX7_differenceSize wsX7_differenceSize ({ frames := 6, cells := 2, slots := 40, locals := 144 } : Room) dC dI [.ref k0, .int p0, .int p1] [(k0, .inr (10, [.ref kN, .ref kA, .ref kO, .ref kK, .ref kV, .ref kG, .ref kP, .ref kC, .ref kD, .ref kE, .ref kF, .ref kX, .ref kY, .int 0, .ref kT, .ref kU, .int 0, .int 0, .int 0])), (kN, .inl (cI, 2, .inl (fun _ => 0))), (kA, .inl (cI, 2, .inl (fun _ => 0))), (kC, .inl (cI, 20, .inl g1)), (kD, .inl (cI, 20, .inl g2)), (kE, .inl (cI, 20, .inl g3)), (kF, .inl (cI, 20, .inl g4))] [(cI, .int)] sz (fun (r : Int32) (u : Int32) => u = 1) (fun u => [(k0, .inr (10, [.ref kN, .ref kA, .ref kO, .ref kK, .ref kV, .ref kG, .ref kP, .ref kC, .ref kD, .ref kE, .ref kF, .ref kX, .ref kY, .int 0, .ref kT, .ref kU, .int u, .int 0, .int 0]))]) (fun u => []) := by
  refine oP_i (y := yX7_differenceSize) (cc := cX7_differenceSize) (maxL := 3) (by decide) rfl (Nat.le_of_ble_eq_true rfl) ?_
  intro p e s m args below meth c ls A Q hx hb hr hml hown hts hN hZ hA hin hlk hP hK hD hl ret
  have hS : va_S A s.heap s.heap [] := va_S.rf
  have hl : lv_has ls 3 [(0, .ref k0), (1, .int p0), (2, .int p1)] := hl
  have hP : va_P (dC, dI) vwCl [(k0, .inr (10, [.ref kN, .ref kA, .ref kO, .ref kK, .ref kV, .ref kG, .ref kP, .ref kC, .ref kD, .ref kE, .ref kF, .ref kX, .ref kY, .int 0, .ref kT, .ref kU, .int 0, .int 0, .int 0])), (kN, .inl (cI, 2, .inl (fun _ => 0))), (kA, .inl (cI, 2, .inl (fun _ => 0))), (kC, .inl (cI, 20, .inl g1)), (kD, .inl (cI, 20, .inl g2)), (kE, .inl (cI, 20, .inl g3)), (kF, .inl (cI, 20, .inl g4))] _ := hP
  have hD : va_D A [(k0, .inr (10, [.ref kN, .ref kA, .ref kO, .ref kK, .ref kV, .ref kG, .ref kP, .ref kC, .ref kD, .ref kE, .ref kF, .ref kX, .ref kY, .int 0, .ref kT, .ref kU, .int 0, .int 0, .int 0])), (kN, .inl (cI, 2, .inl (fun _ => 0))), (kA, .inl (cI, 2, .inl (fun _ => 0))), (kC, .inl (cI, 20, .inl g1)), (kD, .inl (cI, 20, .inl g2)), (kE, .inl (cI, 20, .inl g3)), (kF, .inl (cI, 20, .inl g4))] := hD
  refine lv_aload_n hx hb dX7_differenceSize_0 rfl (lv_at hl 0 rfl) ?_
  refine lv_iload_n hx hb dX7_differenceSize_1 rfl (lv_at hl 1 rfl) ?_
  have hPc := hP.sub (ws' := [(k0, .inr (10, [.ref kN, .ref kA, .ref kO, .ref kK, .ref kV, .ref kG, .ref kP, .ref kC, .ref kD, .ref kE, .ref kF, .ref kX, .ref kY, .int 0, .ref kT, .ref kU, .int 0, .int 0, .int 0])), (kN, .inl (cI, 2, .inl (fun _ => 0))), (kA, .inl (cI, 2, .inl (fun _ => 0))), (kC, .inl (cI, 20, .inl g1)), (kD, .inl (cI, 20, .inl g2)), (kE, .inl (cI, 20, .inl g3)), (kF, .inl (cI, 20, .inl g4))]) [0, 1, 2, 3, 4, 5, 6] rfl
  have hDc := hD.sub (ws' := [(k0, .inr (10, [.ref kN, .ref kA, .ref kO, .ref kK, .ref kV, .ref kG, .ref kP, .ref kC, .ref kD, .ref kE, .ref kF, .ref kX, .ref kY, .int 0, .ref kT, .ref kU, .int 0, .int 0, .int 0])), (kN, .inl (cI, 2, .inl (fun _ => 0))), (kA, .inl (cI, 2, .inl (fun _ => 0))), (kC, .inl (cI, 20, .inl g1)), (kD, .inl (cI, 20, .inl g2)), (kE, .inl (cI, 20, .inl g3)), (kF, .inl (cI, 20, .inl g4))]) [0, 1, 2, 3, 4, 5, 6] (by decide) rfl
  have hKc := hK.sub (tys' := [(cI, .int)]) [0] rfl
  have hFc := va_free (wc := [(k0, .inr (10, [.ref kN, .ref kA, .ref kO, .ref kK, .ref kV, .ref kG, .ref kP, .ref kC, .ref kD, .ref kE, .ref kF, .ref kX, .ref kY, .int 0, .ref kT, .ref kU, .int 0, .int 0, .int 0])), (kN, .inl (cI, 2, .inl (fun _ => 0))), (kA, .inl (cI, 2, .inl (fun _ => 0))), (kC, .inl (cI, 20, .inl g1)), (kD, .inl (cI, 20, .inl g2)), (kE, .inl (cI, 20, .inl g3)), (kF, .inl (cI, 20, .inl g4))]) hD hS hA [0, 1, 2, 3, 4, 5, 6] rfl
  refine va_calli (va_runV (As := [.int p0]) (rest := []) ⟨hx, hb, hml, hown, hts⟩ (kX7_finds l dC dI k0 kN kA kO kK kV kG kP kC kD kE kF kX kY kT kU cI g1 g2 g3 g4 p0 s.heap.size) (cwV 1 hts gX7_differenceSize_X7_finds rfl rfl rfl (by decide +kernel) ⟨Nat.le_of_ble_eq_true rfl, Nat.le_of_ble_eq_true rfl⟩) (fPreV hN hZ hS (fun q h => hFc q h) hPc hKc hDc (ci := 10) (q0 := 0) rfl rfl) rfl rfl hl.1 rfl (lv_room (Nat.le_of_ble_eq_true rfl)) dX7_differenceSize_2 ⟨Nat.le_of_ble_eq_true rfl, Nat.le_of_ble_eq_true rfl⟩) hS (fun q _ h => hFc q h) hFc (fun r u t H1 locs ht hvm hw hB hz1 hk1 hS => ?_)
  obtain ⟨hP1, hK1, hD1⟩ := hB
  rw [ht] at hP1
  have hK1 := va_K.moved hvm.symm hK1
  obtain ⟨hP, hD⟩ := va_join (wr := []) (w1 := [(k0, .inr (10, [.ref kN, .ref kA, .ref kO, .ref kK, .ref kV, .ref kG, .ref kP, .ref kC, .ref kD, .ref kE, .ref kF, .ref kX, .ref kY, .int 0, .ref kT, .ref kU, .int 1, .int 0, .int 0]))]) hP hD [0, 1, 2, 3, 4, 5, 6] [] rfl rfl (by decide) (by decide) hk1 hFc hP1 hD1
  generalize H1 = H at hP hS ⊢
  have hP : va_P (dC, dI) vwCl [(k0, .inr (10, [.ref kN, .ref kA, .ref kO, .ref kK, .ref kV, .ref kG, .ref kP, .ref kC, .ref kD, .ref kE, .ref kF, .ref kX, .ref kY, .int 0, .ref kT, .ref kU, .int 1, .int 0, .int 0]))] _ := hP
  have hD : va_D A [(k0, .inr (10, [.ref kN, .ref kA, .ref kO, .ref kK, .ref kV, .ref kG, .ref kP, .ref kC, .ref kD, .ref kE, .ref kF, .ref kX, .ref kY, .int 0, .ref kT, .ref kU, .int 1, .int 0, .int 0]))] := hD
  refine W.widen (k := 2) (n := 40) (Nat.le_of_ble_eq_true rfl) (Nat.le_of_ble_eq_true rfl) ?_
  subst hw
  refine lv_if_ne (tgt := 10) hx hb dX7_differenceSize_5 (by decide) (fun h9 => absurd (by decide) h9) (fun _ => ?_)
  refine lv_iconst (v := (-1)) hx hb dX7_differenceSize_8 (by decide) ?_
  exact ret _ 1 _ _ _ _ _ _ (rfl) (hP.sub [0] rfl) (hK.sub [] rfl) (hD.sub [0] (by decide) rfl) hS (Nat.le_of_ble_eq_true rfl) (Nat.le_of_ble_eq_true rfl) dX7_differenceSize_9

set_option maxHeartbeats 4000000 in
set_option maxRecDepth 100000 in
/-- the model: equalShare on a fresh one -/
theorem kX7_equalShare (l : Launch) (dC : Nat → ClassId) (dI : Nat → Nat → Nat) (k0 kN kA kO kK kV kG kP kC kD kE kF kX kY kT kU : Nat) (cI : ClassId) (g1 g2 g3 g4 : Nat → Int32) (sz : Nat) : fMf l yX7_equalShare wsX7_equalShare ({ frames := 5, cells := 2, slots := 40, locals := 116 } : Room) dC dI [.ref k0] [(k0, .inr (10, [.ref kN, .ref kA, .ref kO, .ref kK, .ref kV, .ref kG, .ref kP, .ref kC, .ref kD, .ref kE, .ref kF, .ref kX, .ref kY, .int 0, .ref kT, .ref kU, .int 0, .int 0, .int 0])), (kN, .inl (cI, 2, .inl (fun _ => 0))), (kA, .inl (cI, 2, .inl (fun _ => 0))), (kC, .inl (cI, 20, .inl g1)), (kD, .inl (cI, 20, .inl g2)), (kE, .inl (cI, 20, .inl g3)), (kF, .inl (cI, 20, .inl g4))] [(cI, .int)] sz (fun (r : UInt32) (u : Int32) => u = 1) (fun u => [(k0, .inr (10, [.ref kN, .ref kA, .ref kO, .ref kK, .ref kV, .ref kG, .ref kP, .ref kC, .ref kD, .ref kE, .ref kF, .ref kX, .ref kY, .int 0, .ref kT, .ref kU, .int u, .int 0, .int 0]))]) (fun u => []) := by
  refine oP_f (y := yX7_equalShare) (cc := cX7_equalShare) (maxL := 2) (by decide) rfl (Nat.le_of_ble_eq_true rfl) ?_
  intro p e s m args below meth c ls A Q hx hb hr hml hown hts hN hZ hA hin hlk hP hK hD hl ret
  have hS : va_S A s.heap s.heap [] := va_S.rf
  have hl : lv_has ls 2 [(0, .ref k0)] := hl
  have hP : va_P (dC, dI) vwCl [(k0, .inr (10, [.ref kN, .ref kA, .ref kO, .ref kK, .ref kV, .ref kG, .ref kP, .ref kC, .ref kD, .ref kE, .ref kF, .ref kX, .ref kY, .int 0, .ref kT, .ref kU, .int 0, .int 0, .int 0])), (kN, .inl (cI, 2, .inl (fun _ => 0))), (kA, .inl (cI, 2, .inl (fun _ => 0))), (kC, .inl (cI, 20, .inl g1)), (kD, .inl (cI, 20, .inl g2)), (kE, .inl (cI, 20, .inl g3)), (kF, .inl (cI, 20, .inl g4))] _ := hP
  have hD : va_D A [(k0, .inr (10, [.ref kN, .ref kA, .ref kO, .ref kK, .ref kV, .ref kG, .ref kP, .ref kC, .ref kD, .ref kE, .ref kF, .ref kX, .ref kY, .int 0, .ref kT, .ref kU, .int 0, .int 0, .int 0])), (kN, .inl (cI, 2, .inl (fun _ => 0))), (kA, .inl (cI, 2, .inl (fun _ => 0))), (kC, .inl (cI, 20, .inl g1)), (kD, .inl (cI, 20, .inl g2)), (kE, .inl (cI, 20, .inl g3)), (kF, .inl (cI, 20, .inl g4))] := hD
  refine lv_aload_n hx hb dX7_equalShare_0 rfl (lv_at hl 0 rfl) ?_
  have hPc := hP.sub (ws' := [(k0, .inr (10, [.ref kN, .ref kA, .ref kO, .ref kK, .ref kV, .ref kG, .ref kP, .ref kC, .ref kD, .ref kE, .ref kF, .ref kX, .ref kY, .int 0, .ref kT, .ref kU, .int 0, .int 0, .int 0])), (kN, .inl (cI, 2, .inl (fun _ => 0))), (kA, .inl (cI, 2, .inl (fun _ => 0))), (kC, .inl (cI, 20, .inl g1)), (kD, .inl (cI, 20, .inl g2)), (kE, .inl (cI, 20, .inl g3)), (kF, .inl (cI, 20, .inl g4))]) [0, 1, 2, 3, 4, 5, 6] rfl
  have hDc := hD.sub (ws' := [(k0, .inr (10, [.ref kN, .ref kA, .ref kO, .ref kK, .ref kV, .ref kG, .ref kP, .ref kC, .ref kD, .ref kE, .ref kF, .ref kX, .ref kY, .int 0, .ref kT, .ref kU, .int 0, .int 0, .int 0])), (kN, .inl (cI, 2, .inl (fun _ => 0))), (kA, .inl (cI, 2, .inl (fun _ => 0))), (kC, .inl (cI, 20, .inl g1)), (kD, .inl (cI, 20, .inl g2)), (kE, .inl (cI, 20, .inl g3)), (kF, .inl (cI, 20, .inl g4))]) [0, 1, 2, 3, 4, 5, 6] (by decide) rfl
  have hKc := hK.sub (tys' := [(cI, .int)]) [0] rfl
  have hFc := va_free (wc := [(k0, .inr (10, [.ref kN, .ref kA, .ref kO, .ref kK, .ref kV, .ref kG, .ref kP, .ref kC, .ref kD, .ref kE, .ref kF, .ref kX, .ref kY, .int 0, .ref kT, .ref kU, .int 0, .int 0, .int 0])), (kN, .inl (cI, 2, .inl (fun _ => 0))), (kA, .inl (cI, 2, .inl (fun _ => 0))), (kC, .inl (cI, 20, .inl g1)), (kD, .inl (cI, 20, .inl g2)), (kE, .inl (cI, 20, .inl g3)), (kF, .inl (cI, 20, .inl g4))]) hD hS hA [0, 1, 2, 3, 4, 5, 6] rfl
  refine va_callv (va_runV (As := []) (rest := []) ⟨hx, hb, hml, hown, hts⟩ (kX7_colours l dC dI k0 kN kA kO kK kV kG kP kC kD kE kF kX kY kT kU cI g1 g2 g3 g4 s.heap.size) (cwV 0 hts gX7_equalShare_X7_colours rfl rfl rfl (by decide +kernel) ⟨Nat.le_of_ble_eq_true rfl, Nat.le_of_ble_eq_true rfl⟩) (fPreV hN hZ hS (fun q h => hFc q h) hPc hKc hDc (ci := 10) (q0 := 0) rfl rfl) rfl rfl hl.1 rfl (lv_room (Nat.le_of_ble_eq_true rfl)) dX7_equalShare_1 ⟨Nat.le_of_ble_eq_true rfl, Nat.le_of_ble_eq_true rfl⟩) hS (fun q _ h => hFc q h) hFc (fun u t H1 locs ht hvm hw hB hz1 hk1 hS => ?_)
  obtain ⟨hP1, hK1, hD1⟩ := hB
  rw [ht] at hP1
  have hK1 := va_K.moved hvm.symm hK1
  obtain ⟨u1, u2⟩ := u
  obtain ⟨hP, hD⟩ := va_join (wr := []) (w1 := [(k0, .inr (10, [.ref kN, .ref kA, .ref kO, .ref kK, .ref kV, .ref kG, .ref kP, .ref kC, .ref kD, .ref kE, .ref kF, .ref kX, .ref kY, .int 0, .ref kT, .ref kU, .int 0, .int 0, .int 0])), (kN, .inl (cI, 2, .inl (fun _ => 0))), (kA, .inl (cI, 2, .inl (fun _ => 0))), (kC, .inl (cI, 20, .inl u1)), (kD, .inl (cI, 20, .inl u2))]) hP hD [0, 1, 2, 3, 4, 5, 6] [] rfl rfl (by decide) (by decide) hk1 hFc hP1 hD1
  generalize H1 = H at hP hS ⊢
  have hP : va_P (dC, dI) vwCl [(k0, .inr (10, [.ref kN, .ref kA, .ref kO, .ref kK, .ref kV, .ref kG, .ref kP, .ref kC, .ref kD, .ref kE, .ref kF, .ref kX, .ref kY, .int 0, .ref kT, .ref kU, .int 0, .int 0, .int 0])), (kN, .inl (cI, 2, .inl (fun _ => 0))), (kA, .inl (cI, 2, .inl (fun _ => 0))), (kC, .inl (cI, 20, .inl u1)), (kD, .inl (cI, 20, .inl u2))] _ := hP
  have hD : va_D A [(k0, .inr (10, [.ref kN, .ref kA, .ref kO, .ref kK, .ref kV, .ref kG, .ref kP, .ref kC, .ref kD, .ref kE, .ref kF, .ref kX, .ref kY, .int 0, .ref kT, .ref kU, .int 0, .int 0, .int 0])), (kN, .inl (cI, 2, .inl (fun _ => 0))), (kA, .inl (cI, 2, .inl (fun _ => 0))), (kC, .inl (cI, 20, .inl u1)), (kD, .inl (cI, 20, .inl u2))] := hD
  refine W.widen (k := 2) (n := 40) (Nat.le_of_ble_eq_true rfl) (Nat.le_of_ble_eq_true rfl) ?_
  have hu3 := hw
  refine lv_aload_n hx hb dX7_equalShare_4 rfl (lv_at hl 0 rfl) ?_
  refine va_get (D := (dC, dI)) (ci := 10) (v := .ref kC) (C := RX7) (T := TX7) (N := 19) hx hb hts (fun w h => List.mem_cons_of_mem _ (List.mem_append_left _ (List.mem_append_right _ (h)))) hown hK hP 0 rfl rfl 7 (by decide) (hts (.fieldLink RX7 33 "NetcompareModel" "netColours" "[I") (List.mem_cons_of_mem _ (List.mem_append_left _ (List.mem_append_left _ (List.mem_append_left _ (List.mem_of_getElem? (i := 0) rfl)))))) (fun _ h9 => h9) rfl dX7_equalShare_5 ?_
  have hPc := hP.sub (ws' := [(kC, .inl (cI, 20, .inl u1))]) [3] rfl
  have hDc := hD.sub (ws' := [(kC, .inl (cI, 20, .inl u1))]) [3] (by decide) rfl
  have hKc := hK.sub (tys' := [(cI, .int)]) [0] rfl
  have hFc := va_free (wc := [(kC, .inl (cI, 20, .inl u1))]) hD hS hA [3] rfl
  refine va_calli (va_runS (As := [.ref kC]) (rest := []) ⟨hx, hb, hml, hown, hts⟩ (kX7_classes l dC dI kC cI u1 H.size hu3.1) (va_cwS 1 hts gX7_equalShare_X7_classes rfl rfl rfl (by decide +kernel) ⟨Nat.le_of_ble_eq_true rfl, Nat.le_of_ble_eq_true rfl⟩) (fPreS hN hZ hS (fun q h => hFc q h) hPc hKc hDc) rfl rfl hl.1 rfl (lv_room (Nat.le_of_ble_eq_true rfl)) dX7_equalShare_8 ⟨Nat.le_of_ble_eq_true rfl, Nat.le_of_ble_eq_true rfl⟩) hS (fun q _ h => hFc q h) hFc (fun r u t H1 locs ht hvm hw hB hz1 hk1 hS => ?_)
  obtain ⟨hP1, hK1, hD1⟩ := hB
  rw [ht] at hP1
  have hK1 := va_K.moved hvm.symm hK1
  obtain ⟨hP, hD⟩ := va_join (wr := [(k0, .inr (10, [.ref kN, .ref kA, .ref kO, .ref kK, .ref kV, .ref kG, .ref kP, .ref kC, .ref kD, .ref kE, .ref kF, .ref kX, .ref kY, .int 0, .ref kT, .ref kU, .int 0, .int 0, .int 0])), (kN, .inl (cI, 2, .inl (fun _ => 0))), (kA, .inl (cI, 2, .inl (fun _ => 0))), (kD, .inl (cI, 20, .inl u2))]) (w1 := [(kC, .inl (cI, 20, .inl u1))]) hP hD [3] [0, 1, 2, 4] rfl rfl (by decide) (by decide) hk1 hFc hP1 hD1
  generalize H1 = H at hP hS ⊢
  have hP : va_P (dC, dI) vwCl [(k0, .inr (10, [.ref kN, .ref kA, .ref kO, .ref kK, .ref kV, .ref kG, .ref kP, .ref kC, .ref kD, .ref kE, .ref kF, .ref kX, .ref kY, .int 0, .ref kT, .ref kU, .int 0, .int 0, .int 0])), (kN, .inl (cI, 2, .inl (fun _ => 0))), (kA, .inl (cI, 2, .inl (fun _ => 0))), (kD, .inl (cI, 20, .inl u2)), (kC, .inl (cI, 20, .inl u1))] _ := hP
  have hD : va_D A [(k0, .inr (10, [.ref kN, .ref kA, .ref kO, .ref kK, .ref kV, .ref kG, .ref kP, .ref kC, .ref kD, .ref kE, .ref kF, .ref kX, .ref kY, .int 0, .ref kT, .ref kU, .int 0, .int 0, .int 0])), (kN, .inl (cI, 2, .inl (fun _ => 0))), (kA, .inl (cI, 2, .inl (fun _ => 0))), (kD, .inl (cI, 20, .inl u2)), (kC, .inl (cI, 20, .inl u1))] := hD
  subst hw
  refine lv_aload_n hx hb dX7_equalShare_11 rfl (lv_at hl 0 rfl) ?_
  refine va_get (D := (dC, dI)) (ci := 10) (v := .ref kD) (C := RX7) (T := TX7) (N := 19) hx hb hts (fun w h => List.mem_cons_of_mem _ (List.mem_append_left _ (List.mem_append_right _ (h)))) hown hK hP 0 rfl rfl 8 (by decide) (hts (.fieldLink RX7 36 "NetcompareModel" "partColours" "[I") (List.mem_cons_of_mem _ (List.mem_append_left _ (List.mem_append_left _ (List.mem_append_left _ (List.mem_of_getElem? (i := 1) rfl)))))) (fun _ h9 => h9) rfl dX7_equalShare_12 ?_
  have hPc := hP.sub (ws' := [(kD, .inl (cI, 20, .inl u2))]) [3] rfl
  have hDc := hD.sub (ws' := [(kD, .inl (cI, 20, .inl u2))]) [3] (by decide) rfl
  have hKc := hK.sub (tys' := [(cI, .int)]) [0] rfl
  have hFc := va_free (wc := [(kD, .inl (cI, 20, .inl u2))]) hD hS hA [3] rfl
  refine va_calli (va_runS (As := [.ref kD]) (rest := [.int 0]) ⟨hx, hb, hml, hown, hts⟩ (kX7_classes l dC dI kD cI u2 H.size hu3.2) (va_cwS 1 hts gX7_equalShare_X7_classes rfl rfl rfl (by decide +kernel) ⟨Nat.le_of_ble_eq_true rfl, Nat.le_of_ble_eq_true rfl⟩) (fPreS hN hZ hS (fun q h => hFc q h) hPc hKc hDc) rfl rfl hl.1 rfl (lv_room (Nat.le_of_ble_eq_true rfl)) dX7_equalShare_15 ⟨Nat.le_of_ble_eq_true rfl, Nat.le_of_ble_eq_true rfl⟩) hS (fun q _ h => hFc q h) hFc (fun r u t H1 locs ht hvm hw hB hz1 hk1 hS => ?_)
  obtain ⟨hP1, hK1, hD1⟩ := hB
  rw [ht] at hP1
  have hK1 := va_K.moved hvm.symm hK1
  obtain ⟨hP, hD⟩ := va_join (wr := [(k0, .inr (10, [.ref kN, .ref kA, .ref kO, .ref kK, .ref kV, .ref kG, .ref kP, .ref kC, .ref kD, .ref kE, .ref kF, .ref kX, .ref kY, .int 0, .ref kT, .ref kU, .int 0, .int 0, .int 0])), (kN, .inl (cI, 2, .inl (fun _ => 0))), (kA, .inl (cI, 2, .inl (fun _ => 0))), (kC, .inl (cI, 20, .inl u1))]) (w1 := [(kD, .inl (cI, 20, .inl u2))]) hP hD [3] [0, 1, 2, 4] rfl rfl (by decide) (by decide) hk1 hFc hP1 hD1
  generalize H1 = H at hP hS ⊢
  have hP : va_P (dC, dI) vwCl [(k0, .inr (10, [.ref kN, .ref kA, .ref kO, .ref kK, .ref kV, .ref kG, .ref kP, .ref kC, .ref kD, .ref kE, .ref kF, .ref kX, .ref kY, .int 0, .ref kT, .ref kU, .int 0, .int 0, .int 0])), (kN, .inl (cI, 2, .inl (fun _ => 0))), (kA, .inl (cI, 2, .inl (fun _ => 0))), (kC, .inl (cI, 20, .inl u1)), (kD, .inl (cI, 20, .inl u2))] _ := hP
  have hD : va_D A [(k0, .inr (10, [.ref kN, .ref kA, .ref kO, .ref kK, .ref kV, .ref kG, .ref kP, .ref kC, .ref kD, .ref kE, .ref kF, .ref kX, .ref kY, .int 0, .ref kT, .ref kU, .int 0, .int 0, .int 0])), (kN, .inl (cI, 2, .inl (fun _ => 0))), (kA, .inl (cI, 2, .inl (fun _ => 0))), (kC, .inl (cI, 20, .inl u1)), (kD, .inl (cI, 20, .inl u2))] := hD
  subst hw
  refine lv_iadd hx hb dX7_equalShare_18 ?_
  refine lv_topi (fun y4 ey4 => ?_)
  obtain rfl : y4 = 0 := ey4.trans (by decide)
  refine lv_istore_n (lv' := [(1, .int 0), (0, .ref k0)]) hx hb dX7_equalShare_19 rfl hl (Nat.le_of_ble_eq_true rfl) rfl (fun ls hl => ?_)
  refine lv_aload_n hx hb dX7_equalShare_20 rfl (lv_at hl 1 rfl) ?_
  refine lv_iload_n hx hb dX7_equalShare_21 rfl (lv_at hl 0 rfl) ?_
  refine lv_if_ne (tgt := 29) hx hb dX7_equalShare_22 (by decide) (fun h9 => absurd (by decide) h9) (fun _ => ?_)
  refine lv_iconst (v := 1) hx hb dX7_equalShare_25 (by decide) ?_
  refine lv_goto (tgt := 30) hx hb dX7_equalShare_26 (by decide) ?_
  refine va_put (D := (dC, dI)) (ci := 10) (v := .int 1) (ty := .int) (C := RX7) (T := TX7) (N := 19) hx hb hts (fun w h => List.mem_cons_of_mem _ (List.mem_append_left _ (List.mem_append_right _ (h)))) tyX7 tyX7_ok nmX7 hown hK hP hD hS 0 rfl rfl 16 (by decide) (hts (.fieldLink RX7 57 "NetcompareModel" "thrown" "I") (List.mem_cons_of_mem _ (List.mem_append_left _ (List.mem_append_left _ (List.mem_append_left _ (List.mem_of_getElem? (i := 2) rfl)))))) (fun _ h9 => h9) rfl (by decide +kernel) rfl rfl (Nat.le_of_ble_eq_true rfl) dX7_equalShare_30 (fun H locs hP hD hS => ?_)
  have hP : va_P (dC, dI) vwCl [(k0, .inr (10, [.ref kN, .ref kA, .ref kO, .ref kK, .ref kV, .ref kG, .ref kP, .ref kC, .ref kD, .ref kE, .ref kF, .ref kX, .ref kY, .int 0, .ref kT, .ref kU, .int 1, .int 0, .int 0])), (kN, .inl (cI, 2, .inl (fun _ => 0))), (kA, .inl (cI, 2, .inl (fun _ => 0))), (kC, .inl (cI, 20, .inl u1)), (kD, .inl (cI, 20, .inl u2))] _ := hP
  have hD : va_D A [(k0, .inr (10, [.ref kN, .ref kA, .ref kO, .ref kK, .ref kV, .ref kG, .ref kP, .ref kC, .ref kD, .ref kE, .ref kF, .ref kX, .ref kY, .int 0, .ref kT, .ref kU, .int 1, .int 0, .int 0])), (kN, .inl (cI, 2, .inl (fun _ => 0))), (kA, .inl (cI, 2, .inl (fun _ => 0))), (kC, .inl (cI, 20, .inl u1)), (kD, .inl (cI, 20, .inl u2))] := hD
  refine lv_aload_n hx hb dX7_equalShare_33 rfl (lv_at hl 1 rfl) ?_
  refine va_get (D := (dC, dI)) (ci := 10) (v := .int 1) (C := RX7) (T := TX7) (N := 19) hx hb hts (fun w h => List.mem_cons_of_mem _ (List.mem_append_left _ (List.mem_append_right _ (h)))) hown hK hP 0 rfl rfl 16 (by decide) (hts (.fieldLink RX7 57 "NetcompareModel" "thrown" "I") (List.mem_cons_of_mem _ (List.mem_append_left _ (List.mem_append_left _ (List.mem_append_left _ (List.mem_of_getElem? (i := 2) rfl)))))) (fun _ h9 => h9) rfl dX7_equalShare_34 ?_
  refine lv_if_ne (tgt := 53) hx hb dX7_equalShare_37 (by decide) (fun _ => ?_) (fun h9 => absurd h9 (by decide))
  refine lv_fconst0 hx hb dX7_equalShare_53 ?_
  exact ret _ 1 _ _ _ _ _ _ (rfl) (hP.sub [0] rfl) (hK.sub [] rfl) (hD.sub [0] (by decide) rfl) hS (Nat.le_of_ble_eq_true rfl) (Nat.le_of_ble_eq_true rfl) dX7_equalShare_54

set_option maxHeartbeats 4000000 in
set_option maxRecDepth 100000 in
/-- the model: meanDistance on a fresh one -/
theorem kX7_meanDistance (l : Launch) (dC : Nat → ClassId) (dI : Nat → Nat → Nat) (k0 kN kA kO kK kV kG kP kC kD kE kF kX kY kT kU : Nat) (cI : ClassId) (p0 : Int32) (sz : Nat) : fMd l yX7_meanDistance wsX7_meanDistance ({ frames := 1, cells := 0, slots := 0, locals := 20 } : Room) dC dI [.ref k0, .int p0] [(k0, .inr (10, [.ref kN, .ref kA, .ref kO, .ref kK, .ref kV, .ref kG, .ref kP, .ref kC, .ref kD, .ref kE, .ref kF, .ref kX, .ref kY, .int 0, .ref kT, .ref kU, .int 0, .int 0, .int 0])), (kN, .inl (cI, 2, .inl (fun _ => 0))), (kA, .inl (cI, 2, .inl (fun _ => 0)))] [(cI, .int)] sz (fun (r : UInt64) (u : Int32) => u = 1 ∧ (¬ ((p0 = 0) ∨ (p0 = 1))) ∨ u = 2 ∧ ((p0 = 0) ∨ (p0 = 1))) (fun u => [(k0, .inr (10, [.ref kN, .ref kA, .ref kO, .ref kK, .ref kV, .ref kG, .ref kP, .ref kC, .ref kD, .ref kE, .ref kF, .ref kX, .ref kY, .int 0, .ref kT, .ref kU, .int u, .int 0, .int 0]))]) (fun u => []) := by
  refine oP_d (y := yX7_meanDistance) (cc := cX7_meanDistance) (maxL := 6) (by decide) rfl (Nat.le_of_ble_eq_true rfl) ?_
  intro p e s m args below meth c ls A Q hx hb hr hml hown hts hN hZ hA hin hlk hP hK hD hl ret
  have hS : va_S A s.heap s.heap [] := va_S.rf
  have hl : lv_has ls 6 [(0, .ref k0), (1, .int p0)] := hl
  have hP : va_P (dC, dI) vwCl [(k0, .inr (10, [.ref kN, .ref kA, .ref kO, .ref kK, .ref kV, .ref kG, .ref kP, .ref kC, .ref kD, .ref kE, .ref kF, .ref kX, .ref kY, .int 0, .ref kT, .ref kU, .int 0, .int 0, .int 0])), (kN, .inl (cI, 2, .inl (fun _ => 0))), (kA, .inl (cI, 2, .inl (fun _ => 0)))] _ := hP
  have hD : va_D A [(k0, .inr (10, [.ref kN, .ref kA, .ref kO, .ref kK, .ref kV, .ref kG, .ref kP, .ref kC, .ref kD, .ref kE, .ref kF, .ref kX, .ref kY, .int 0, .ref kT, .ref kU, .int 0, .int 0, .int 0])), (kN, .inl (cI, 2, .inl (fun _ => 0))), (kA, .inl (cI, 2, .inl (fun _ => 0)))] := hD
  refine lv_aload_n hx hb dX7_meanDistance_0 rfl (lv_at hl 0 rfl) ?_
  refine lv_iload_n hx hb dX7_meanDistance_1 rfl (lv_at hl 1 rfl) ?_
  have hPc := hP.sub (ws' := []) [] rfl
  have hDc := hD.sub (ws' := []) [] (by decide) rfl
  have hKc := hK.sub (tys' := []) [] rfl
  have hFc := va_free (wc := []) hD hS hA [] rfl
  refine va_calli (va_runS (As := [.int p0]) (rest := [.ref k0]) ⟨hx, hb, hml, hown, hts⟩ (kX7_isCircuit l dC dI p0 s.heap.size) (va_cwS 1 hts gX7_meanDistance_X7_isCircuit rfl rfl rfl (by decide +kernel) ⟨Nat.le_of_ble_eq_true rfl, Nat.le_of_ble_eq_true rfl⟩) (fPreS hN hZ hS (fun q h => hFc q h) hPc hKc hDc) rfl rfl hl.1 rfl (lv_room (Nat.le_of_ble_eq_true rfl)) dX7_meanDistance_2 ⟨Nat.le_of_ble_eq_true rfl, Nat.le_of_ble_eq_true rfl⟩) hS (fun q _ h => hFc q h) hFc (fun r u t H1 locs ht hvm hw hB hz1 hk1 hS => ?_)
  obtain ⟨hP1, hK1, hD1⟩ := hB
  rw [ht] at hP1
  have hK1 := va_K.moved hvm.symm hK1
  obtain ⟨hP, hD⟩ := va_join (wr := [(k0, .inr (10, [.ref kN, .ref kA, .ref kO, .ref kK, .ref kV, .ref kG, .ref kP, .ref kC, .ref kD, .ref kE, .ref kF, .ref kX, .ref kY, .int 0, .ref kT, .ref kU, .int 0, .int 0, .int 0])), (kN, .inl (cI, 2, .inl (fun _ => 0))), (kA, .inl (cI, 2, .inl (fun _ => 0)))]) (w1 := []) hP hD [] [0, 1, 2] rfl rfl (by decide) (by decide) hk1 hFc hP1 hD1
  generalize H1 = H at hP hS ⊢
  have hP : va_P (dC, dI) vwCl [(k0, .inr (10, [.ref kN, .ref kA, .ref kO, .ref kK, .ref kV, .ref kG, .ref kP, .ref kC, .ref kD, .ref kE, .ref kF, .ref kX, .ref kY, .int 0, .ref kT, .ref kU, .int 0, .int 0, .int 0])), (kN, .inl (cI, 2, .inl (fun _ => 0))), (kA, .inl (cI, 2, .inl (fun _ => 0)))] _ := hP
  have hD : va_D A [(k0, .inr (10, [.ref kN, .ref kA, .ref kO, .ref kK, .ref kV, .ref kG, .ref kP, .ref kC, .ref kD, .ref kE, .ref kF, .ref kX, .ref kY, .int 0, .ref kT, .ref kU, .int 0, .int 0, .int 0])), (kN, .inl (cI, 2, .inl (fun _ => 0))), (kA, .inl (cI, 2, .inl (fun _ => 0)))] := hD
  rcases hw with ⟨rfl, hc | hc⟩ | ⟨rfl, hc⟩
  · skip
    subst hc
    have hP : va_P (dC, dI) vwCl [(k0, .inr (10, [.ref kN, .ref kA, .ref kO, .ref kK, .ref kV, .ref kG, .ref kP, .ref kC, .ref kD, .ref kE, .ref kF, .ref kX, .ref kY, .int 0, .ref kT, .ref kU, .int 0, .int 0, .int 0])), (kN, .inl (cI, 2, .inl (fun _ => 0))), (kA, .inl (cI, 2, .inl (fun _ => 0)))] _ := hP
    have hD : va_D A [(k0, .inr (10, [.ref kN, .ref kA, .ref kO, .ref kK, .ref kV, .ref kG, .ref kP, .ref kC, .ref kD, .ref kE, .ref kF, .ref kX, .ref kY, .int 0, .ref kT, .ref kU, .int 0, .int 0, .int 0])), (kN, .inl (cI, 2, .inl (fun _ => 0))), (kA, .inl (cI, 2, .inl (fun _ => 0)))] := hD
    refine lv_if_eq (tgt := 12) hx hb dX7_meanDistance_5 (by decide) (fun h9 => absurd h9 (by decide)) (fun _ => ?_)
    refine lv_iconst (v := 0) hx hb dX7_meanDistance_8 (by decide) ?_
    refine lv_goto (tgt := 13) hx hb dX7_meanDistance_9 (by decide) ?_
    refine va_put (D := (dC, dI)) (ci := 10) (v := .int 0) (ty := .int) (C := RX7) (T := TX7) (N := 19) hx hb hts (fun w h => List.mem_cons_of_mem _ (List.mem_append_left _ (List.mem_append_right _ (h)))) tyX7 tyX7_ok nmX7 hown hK hP hD hS 0 rfl rfl 16 (by decide) (hts (.fieldLink RX7 57 "NetcompareModel" "thrown" "I") (List.mem_cons_of_mem _ (List.mem_append_left _ (List.mem_append_left _ (List.mem_append_left _ (List.mem_of_getElem? (i := 0) rfl)))))) (fun _ h9 => h9) rfl (by decide +kernel) rfl rfl (Nat.le_of_ble_eq_true rfl) dX7_meanDistance_13 (fun H locs hP hD hS => ?_)
    have hP : va_P (dC, dI) vwCl [(k0, .inr (10, [.ref kN, .ref kA, .ref kO, .ref kK, .ref kV, .ref kG, .ref kP, .ref kC, .ref kD, .ref kE, .ref kF, .ref kX, .ref kY, .int 0, .ref kT, .ref kU, .int 0, .int 0, .int 0])), (kN, .inl (cI, 2, .inl (fun _ => 0))), (kA, .inl (cI, 2, .inl (fun _ => 0)))] _ := hP
    have hD : va_D A [(k0, .inr (10, [.ref kN, .ref kA, .ref kO, .ref kK, .ref kV, .ref kG, .ref kP, .ref kC, .ref kD, .ref kE, .ref kF, .ref kX, .ref kY, .int 0, .ref kT, .ref kU, .int 0, .int 0, .int 0])), (kN, .inl (cI, 2, .inl (fun _ => 0))), (kA, .inl (cI, 2, .inl (fun _ => 0)))] := hD
    refine lv_iconst (v := 0) hx hb dX7_meanDistance_16 (by decide) ?_
    refine lv_istore_n (lv' := [(2, .int 0), (0, .ref k0), (1, .int 0)]) hx hb dX7_meanDistance_17 rfl hl (Nat.le_of_ble_eq_true rfl) rfl (fun ls hl => ?_)
    refine lv_iconst (v := 0) hx hb dX7_meanDistance_18 (by decide) ?_
    refine lv_istore_n (lv' := [(3, .int 0), (2, .int 0), (0, .ref k0), (1, .int 0)]) hx hb dX7_meanDistance_19 rfl hl (Nat.le_of_ble_eq_true rfl) rfl (fun ls hl => ?_)
    refine lv_iconst (v := 0) hx hb dX7_meanDistance_20 (by decide) ?_
    refine lv_istore (lv' := [(4, .int 0), (3, .int 0), (2, .int 0), (0, .ref k0), (1, .int 0)]) hx hb dX7_meanDistance_21 hl (Nat.le_of_ble_eq_true rfl) rfl (fun ls hl => ?_)
    refine lv_aload_n hx hb dX7_meanDistance_23 rfl (lv_at hl 3 rfl) ?_
    refine va_get (D := (dC, dI)) (ci := 10) (v := .int 0) (C := RX7) (T := TX7) (N := 19) hx hb hts (fun w h => List.mem_cons_of_mem _ (List.mem_append_left _ (List.mem_append_right _ (h)))) hown hK hP 0 rfl rfl 16 (by decide) (hts (.fieldLink RX7 57 "NetcompareModel" "thrown" "I") (List.mem_cons_of_mem _ (List.mem_append_left _ (List.mem_append_left _ (List.mem_append_left _ (List.mem_of_getElem? (i := 0) rfl)))))) (fun _ h9 => h9) rfl dX7_meanDistance_24 ?_
    refine lv_if_ne (tgt := 87) hx hb dX7_meanDistance_27 (by decide) (fun h9 => absurd (by decide) h9) (fun _ => ?_)
    refine lv_iload hx hb dX7_meanDistance_30 (lv_at hl 0 rfl) ?_
    refine lv_aload_n hx hb dX7_meanDistance_32 rfl (lv_at hl 3 rfl) ?_
    refine va_get (D := (dC, dI)) (ci := 10) (v := .ref kN) (C := RX7) (T := TX7) (N := 19) hx hb hts (fun w h => List.mem_cons_of_mem _ (List.mem_append_left _ (List.mem_append_right _ (h)))) hown hK hP 0 rfl rfl 0 (by decide) (hts (.fieldLink RX7 7 "NetcompareModel" "nets" "[I") (List.mem_cons_of_mem _ (List.mem_append_left _ (List.mem_append_left _ (List.mem_append_left _ (List.mem_of_getElem? (i := 1) rfl)))))) (fun _ h9 => h9) rfl dX7_meanDistance_33 ?_
    refine lv_iload_n hx hb dX7_meanDistance_36 rfl (lv_at hl 4 rfl) ?_
    refine va_iald hx hb hK hP 1 0 rfl rfl (show ¬ (_ ∨ _) by decide) dX7_meanDistance_37 ?_
    refine W.eq (g2 := F0 m 38 ls [.int 0, .int 0]) rfl ?_
    refine lv_icmp_ge (tgt := 87) hx hb dX7_meanDistance_38 (by decide) (fun _ => ?_) (fun h9 => absurd (by decide) h9)
    refine lv_aload_n hx hb dX7_meanDistance_87 rfl (lv_at hl 3 rfl) ?_
    refine lv_aload_n hx hb dX7_meanDistance_88 rfl (lv_at hl 3 rfl) ?_
    refine va_get (D := (dC, dI)) (ci := 10) (v := .int 0) (C := RX7) (T := TX7) (N := 19) hx hb hts (fun w h => List.mem_cons_of_mem _ (List.mem_append_left _ (List.mem_append_right _ (h)))) hown hK hP 0 rfl rfl 16 (by decide) (hts (.fieldLink RX7 57 "NetcompareModel" "thrown" "I") (List.mem_cons_of_mem _ (List.mem_append_left _ (List.mem_append_left _ (List.mem_append_left _ (List.mem_of_getElem? (i := 0) rfl)))))) (fun _ h9 => h9) rfl dX7_meanDistance_89 ?_
    refine lv_if_ne (tgt := 103) hx hb dX7_meanDistance_92 (by decide) (fun h9 => absurd (by decide) h9) (fun _ => ?_)
    refine lv_iload_n hx hb dX7_meanDistance_95 rfl (lv_at hl 2 rfl) ?_
    refine lv_if_ne (tgt := 103) hx hb dX7_meanDistance_96 (by decide) (fun h9 => absurd (by decide) h9) (fun _ => ?_)
    refine lv_iconst (v := 2) hx hb dX7_meanDistance_99 (by decide) ?_
    refine lv_goto (tgt := 107) hx hb dX7_meanDistance_100 (by decide) ?_
    refine va_put (D := (dC, dI)) (ci := 10) (v := .int 2) (ty := .int) (C := RX7) (T := TX7) (N := 19) hx hb hts (fun w h => List.mem_cons_of_mem _ (List.mem_append_left _ (List.mem_append_right _ (h)))) tyX7 tyX7_ok nmX7 hown hK hP hD hS 0 rfl rfl 16 (by decide) (hts (.fieldLink RX7 57 "NetcompareModel" "thrown" "I") (List.mem_cons_of_mem _ (List.mem_append_left _ (List.mem_append_left _ (List.mem_append_left _ (List.mem_of_getElem? (i := 0) rfl)))))) (fun _ h9 => h9) rfl (by decide +kernel) rfl rfl (Nat.le_of_ble_eq_true rfl) dX7_meanDistance_107 (fun H locs hP hD hS => ?_)
    have hP : va_P (dC, dI) vwCl [(k0, .inr (10, [.ref kN, .ref kA, .ref kO, .ref kK, .ref kV, .ref kG, .ref kP, .ref kC, .ref kD, .ref kE, .ref kF, .ref kX, .ref kY, .int 0, .ref kT, .ref kU, .int 2, .int 0, .int 0])), (kN, .inl (cI, 2, .inl (fun _ => 0))), (kA, .inl (cI, 2, .inl (fun _ => 0)))] _ := hP
    have hD : va_D A [(k0, .inr (10, [.ref kN, .ref kA, .ref kO, .ref kK, .ref kV, .ref kG, .ref kP, .ref kC, .ref kD, .ref kE, .ref kF, .ref kX, .ref kY, .int 0, .ref kT, .ref kU, .int 2, .int 0, .int 0])), (kN, .inl (cI, 2, .inl (fun _ => 0))), (kA, .inl (cI, 2, .inl (fun _ => 0)))] := hD
    refine lv_aload_n hx hb dX7_meanDistance_110 rfl (lv_at hl 3 rfl) ?_
    refine va_get (D := (dC, dI)) (ci := 10) (v := .int 2) (C := RX7) (T := TX7) (N := 19) hx hb hts (fun w h => List.mem_cons_of_mem _ (List.mem_append_left _ (List.mem_append_right _ (h)))) hown hK hP 0 rfl rfl 16 (by decide) (hts (.fieldLink RX7 57 "NetcompareModel" "thrown" "I") (List.mem_cons_of_mem _ (List.mem_append_left _ (List.mem_append_left _ (List.mem_append_left _ (List.mem_of_getElem? (i := 0) rfl)))))) (fun _ h9 => h9) rfl dX7_meanDistance_111 ?_
    refine lv_if_ne (tgt := 125) hx hb dX7_meanDistance_114 (by decide) (fun _ => ?_) (fun h9 => absurd h9 (by decide))
    refine lv_dconst0 hx hb dX7_meanDistance_125 ?_
    exact ret _ 2 _ _ _ _ _ _ (Or.inr (⟨rfl, Or.inl (rfl)⟩)) (hP.sub [0] rfl) (hK.sub [] rfl) (hD.sub [0] (by decide) rfl) hS (Nat.le_of_ble_eq_true rfl) (Nat.le_of_ble_eq_true rfl) dX7_meanDistance_126
  · skip
    subst hc
    have hP : va_P (dC, dI) vwCl [(k0, .inr (10, [.ref kN, .ref kA, .ref kO, .ref kK, .ref kV, .ref kG, .ref kP, .ref kC, .ref kD, .ref kE, .ref kF, .ref kX, .ref kY, .int 0, .ref kT, .ref kU, .int 0, .int 0, .int 0])), (kN, .inl (cI, 2, .inl (fun _ => 0))), (kA, .inl (cI, 2, .inl (fun _ => 0)))] _ := hP
    have hD : va_D A [(k0, .inr (10, [.ref kN, .ref kA, .ref kO, .ref kK, .ref kV, .ref kG, .ref kP, .ref kC, .ref kD, .ref kE, .ref kF, .ref kX, .ref kY, .int 0, .ref kT, .ref kU, .int 0, .int 0, .int 0])), (kN, .inl (cI, 2, .inl (fun _ => 0))), (kA, .inl (cI, 2, .inl (fun _ => 0)))] := hD
    refine lv_if_eq (tgt := 12) hx hb dX7_meanDistance_5 (by decide) (fun h9 => absurd h9 (by decide)) (fun _ => ?_)
    refine lv_iconst (v := 0) hx hb dX7_meanDistance_8 (by decide) ?_
    refine lv_goto (tgt := 13) hx hb dX7_meanDistance_9 (by decide) ?_
    refine va_put (D := (dC, dI)) (ci := 10) (v := .int 0) (ty := .int) (C := RX7) (T := TX7) (N := 19) hx hb hts (fun w h => List.mem_cons_of_mem _ (List.mem_append_left _ (List.mem_append_right _ (h)))) tyX7 tyX7_ok nmX7 hown hK hP hD hS 0 rfl rfl 16 (by decide) (hts (.fieldLink RX7 57 "NetcompareModel" "thrown" "I") (List.mem_cons_of_mem _ (List.mem_append_left _ (List.mem_append_left _ (List.mem_append_left _ (List.mem_of_getElem? (i := 0) rfl)))))) (fun _ h9 => h9) rfl (by decide +kernel) rfl rfl (Nat.le_of_ble_eq_true rfl) dX7_meanDistance_13 (fun H locs hP hD hS => ?_)
    have hP : va_P (dC, dI) vwCl [(k0, .inr (10, [.ref kN, .ref kA, .ref kO, .ref kK, .ref kV, .ref kG, .ref kP, .ref kC, .ref kD, .ref kE, .ref kF, .ref kX, .ref kY, .int 0, .ref kT, .ref kU, .int 0, .int 0, .int 0])), (kN, .inl (cI, 2, .inl (fun _ => 0))), (kA, .inl (cI, 2, .inl (fun _ => 0)))] _ := hP
    have hD : va_D A [(k0, .inr (10, [.ref kN, .ref kA, .ref kO, .ref kK, .ref kV, .ref kG, .ref kP, .ref kC, .ref kD, .ref kE, .ref kF, .ref kX, .ref kY, .int 0, .ref kT, .ref kU, .int 0, .int 0, .int 0])), (kN, .inl (cI, 2, .inl (fun _ => 0))), (kA, .inl (cI, 2, .inl (fun _ => 0)))] := hD
    refine lv_iconst (v := 0) hx hb dX7_meanDistance_16 (by decide) ?_
    refine lv_istore_n (lv' := [(2, .int 0), (0, .ref k0), (1, .int 1)]) hx hb dX7_meanDistance_17 rfl hl (Nat.le_of_ble_eq_true rfl) rfl (fun ls hl => ?_)
    refine lv_iconst (v := 0) hx hb dX7_meanDistance_18 (by decide) ?_
    refine lv_istore_n (lv' := [(3, .int 0), (2, .int 0), (0, .ref k0), (1, .int 1)]) hx hb dX7_meanDistance_19 rfl hl (Nat.le_of_ble_eq_true rfl) rfl (fun ls hl => ?_)
    refine lv_iconst (v := 0) hx hb dX7_meanDistance_20 (by decide) ?_
    refine lv_istore (lv' := [(4, .int 0), (3, .int 0), (2, .int 0), (0, .ref k0), (1, .int 1)]) hx hb dX7_meanDistance_21 hl (Nat.le_of_ble_eq_true rfl) rfl (fun ls hl => ?_)
    refine lv_aload_n hx hb dX7_meanDistance_23 rfl (lv_at hl 3 rfl) ?_
    refine va_get (D := (dC, dI)) (ci := 10) (v := .int 0) (C := RX7) (T := TX7) (N := 19) hx hb hts (fun w h => List.mem_cons_of_mem _ (List.mem_append_left _ (List.mem_append_right _ (h)))) hown hK hP 0 rfl rfl 16 (by decide) (hts (.fieldLink RX7 57 "NetcompareModel" "thrown" "I") (List.mem_cons_of_mem _ (List.mem_append_left _ (List.mem_append_left _ (List.mem_append_left _ (List.mem_of_getElem? (i := 0) rfl)))))) (fun _ h9 => h9) rfl dX7_meanDistance_24 ?_
    refine lv_if_ne (tgt := 87) hx hb dX7_meanDistance_27 (by decide) (fun h9 => absurd (by decide) h9) (fun _ => ?_)
    refine lv_iload hx hb dX7_meanDistance_30 (lv_at hl 0 rfl) ?_
    refine lv_aload_n hx hb dX7_meanDistance_32 rfl (lv_at hl 3 rfl) ?_
    refine va_get (D := (dC, dI)) (ci := 10) (v := .ref kN) (C := RX7) (T := TX7) (N := 19) hx hb hts (fun w h => List.mem_cons_of_mem _ (List.mem_append_left _ (List.mem_append_right _ (h)))) hown hK hP 0 rfl rfl 0 (by decide) (hts (.fieldLink RX7 7 "NetcompareModel" "nets" "[I") (List.mem_cons_of_mem _ (List.mem_append_left _ (List.mem_append_left _ (List.mem_append_left _ (List.mem_of_getElem? (i := 1) rfl)))))) (fun _ h9 => h9) rfl dX7_meanDistance_33 ?_
    refine lv_iload_n hx hb dX7_meanDistance_36 rfl (lv_at hl 4 rfl) ?_
    refine va_iald hx hb hK hP 1 0 rfl rfl (show ¬ (_ ∨ _) by decide) dX7_meanDistance_37 ?_
    refine W.eq (g2 := F0 m 38 ls [.int 0, .int 0]) rfl ?_
    refine lv_icmp_ge (tgt := 87) hx hb dX7_meanDistance_38 (by decide) (fun _ => ?_) (fun h9 => absurd (by decide) h9)
    refine lv_aload_n hx hb dX7_meanDistance_87 rfl (lv_at hl 3 rfl) ?_
    refine lv_aload_n hx hb dX7_meanDistance_88 rfl (lv_at hl 3 rfl) ?_
    refine va_get (D := (dC, dI)) (ci := 10) (v := .int 0) (C := RX7) (T := TX7) (N := 19) hx hb hts (fun w h => List.mem_cons_of_mem _ (List.mem_append_left _ (List.mem_append_right _ (h)))) hown hK hP 0 rfl rfl 16 (by decide) (hts (.fieldLink RX7 57 "NetcompareModel" "thrown" "I") (List.mem_cons_of_mem _ (List.mem_append_left _ (List.mem_append_left _ (List.mem_append_left _ (List.mem_of_getElem? (i := 0) rfl)))))) (fun _ h9 => h9) rfl dX7_meanDistance_89 ?_
    refine lv_if_ne (tgt := 103) hx hb dX7_meanDistance_92 (by decide) (fun h9 => absurd (by decide) h9) (fun _ => ?_)
    refine lv_iload_n hx hb dX7_meanDistance_95 rfl (lv_at hl 2 rfl) ?_
    refine lv_if_ne (tgt := 103) hx hb dX7_meanDistance_96 (by decide) (fun h9 => absurd (by decide) h9) (fun _ => ?_)
    refine lv_iconst (v := 2) hx hb dX7_meanDistance_99 (by decide) ?_
    refine lv_goto (tgt := 107) hx hb dX7_meanDistance_100 (by decide) ?_
    refine va_put (D := (dC, dI)) (ci := 10) (v := .int 2) (ty := .int) (C := RX7) (T := TX7) (N := 19) hx hb hts (fun w h => List.mem_cons_of_mem _ (List.mem_append_left _ (List.mem_append_right _ (h)))) tyX7 tyX7_ok nmX7 hown hK hP hD hS 0 rfl rfl 16 (by decide) (hts (.fieldLink RX7 57 "NetcompareModel" "thrown" "I") (List.mem_cons_of_mem _ (List.mem_append_left _ (List.mem_append_left _ (List.mem_append_left _ (List.mem_of_getElem? (i := 0) rfl)))))) (fun _ h9 => h9) rfl (by decide +kernel) rfl rfl (Nat.le_of_ble_eq_true rfl) dX7_meanDistance_107 (fun H locs hP hD hS => ?_)
    have hP : va_P (dC, dI) vwCl [(k0, .inr (10, [.ref kN, .ref kA, .ref kO, .ref kK, .ref kV, .ref kG, .ref kP, .ref kC, .ref kD, .ref kE, .ref kF, .ref kX, .ref kY, .int 0, .ref kT, .ref kU, .int 2, .int 0, .int 0])), (kN, .inl (cI, 2, .inl (fun _ => 0))), (kA, .inl (cI, 2, .inl (fun _ => 0)))] _ := hP
    have hD : va_D A [(k0, .inr (10, [.ref kN, .ref kA, .ref kO, .ref kK, .ref kV, .ref kG, .ref kP, .ref kC, .ref kD, .ref kE, .ref kF, .ref kX, .ref kY, .int 0, .ref kT, .ref kU, .int 2, .int 0, .int 0])), (kN, .inl (cI, 2, .inl (fun _ => 0))), (kA, .inl (cI, 2, .inl (fun _ => 0)))] := hD
    refine lv_aload_n hx hb dX7_meanDistance_110 rfl (lv_at hl 3 rfl) ?_
    refine va_get (D := (dC, dI)) (ci := 10) (v := .int 2) (C := RX7) (T := TX7) (N := 19) hx hb hts (fun w h => List.mem_cons_of_mem _ (List.mem_append_left _ (List.mem_append_right _ (h)))) hown hK hP 0 rfl rfl 16 (by decide) (hts (.fieldLink RX7 57 "NetcompareModel" "thrown" "I") (List.mem_cons_of_mem _ (List.mem_append_left _ (List.mem_append_left _ (List.mem_append_left _ (List.mem_of_getElem? (i := 0) rfl)))))) (fun _ h9 => h9) rfl dX7_meanDistance_111 ?_
    refine lv_if_ne (tgt := 125) hx hb dX7_meanDistance_114 (by decide) (fun _ => ?_) (fun h9 => absurd h9 (by decide))
    refine lv_dconst0 hx hb dX7_meanDistance_125 ?_
    exact ret _ 2 _ _ _ _ _ _ (Or.inr (⟨rfl, Or.inr (rfl)⟩)) (hP.sub [0] rfl) (hK.sub [] rfl) (hD.sub [0] (by decide) rfl) hS (Nat.le_of_ble_eq_true rfl) (Nat.le_of_ble_eq_true rfl) dX7_meanDistance_126
  · skip
    have hc1 := hc
    refine lv_if_eq (tgt := 12) hx hb dX7_meanDistance_5 (by decide) (fun _ => ?_) (fun h9 => absurd (by decide) h9)
    refine lv_iconst (v := 1) hx hb dX7_meanDistance_12 (by decide) ?_
    refine va_put (D := (dC, dI)) (ci := 10) (v := .int 1) (ty := .int) (C := RX7) (T := TX7) (N := 19) hx hb hts (fun w h => List.mem_cons_of_mem _ (List.mem_append_left _ (List.mem_append_right _ (h)))) tyX7 tyX7_ok nmX7 hown hK hP hD hS 0 rfl rfl 16 (by decide) (hts (.fieldLink RX7 57 "NetcompareModel" "thrown" "I") (List.mem_cons_of_mem _ (List.mem_append_left _ (List.mem_append_left _ (List.mem_append_left _ (List.mem_of_getElem? (i := 0) rfl)))))) (fun _ h9 => h9) rfl (by decide +kernel) rfl rfl (Nat.le_of_ble_eq_true rfl) dX7_meanDistance_13 (fun H locs hP hD hS => ?_)
    have hP : va_P (dC, dI) vwCl [(k0, .inr (10, [.ref kN, .ref kA, .ref kO, .ref kK, .ref kV, .ref kG, .ref kP, .ref kC, .ref kD, .ref kE, .ref kF, .ref kX, .ref kY, .int 0, .ref kT, .ref kU, .int 1, .int 0, .int 0])), (kN, .inl (cI, 2, .inl (fun _ => 0))), (kA, .inl (cI, 2, .inl (fun _ => 0)))] _ := hP
    have hD : va_D A [(k0, .inr (10, [.ref kN, .ref kA, .ref kO, .ref kK, .ref kV, .ref kG, .ref kP, .ref kC, .ref kD, .ref kE, .ref kF, .ref kX, .ref kY, .int 0, .ref kT, .ref kU, .int 1, .int 0, .int 0])), (kN, .inl (cI, 2, .inl (fun _ => 0))), (kA, .inl (cI, 2, .inl (fun _ => 0)))] := hD
    refine lv_iconst (v := 0) hx hb dX7_meanDistance_16 (by decide) ?_
    refine lv_istore_n (lv' := [(2, .int 0), (0, .ref k0), (1, .int p0)]) hx hb dX7_meanDistance_17 rfl hl (Nat.le_of_ble_eq_true rfl) rfl (fun ls hl => ?_)
    refine lv_iconst (v := 0) hx hb dX7_meanDistance_18 (by decide) ?_
    refine lv_istore_n (lv' := [(3, .int 0), (2, .int 0), (0, .ref k0), (1, .int p0)]) hx hb dX7_meanDistance_19 rfl hl (Nat.le_of_ble_eq_true rfl) rfl (fun ls hl => ?_)
    refine lv_iconst (v := 0) hx hb dX7_meanDistance_20 (by decide) ?_
    refine lv_istore (lv' := [(4, .int 0), (3, .int 0), (2, .int 0), (0, .ref k0), (1, .int p0)]) hx hb dX7_meanDistance_21 hl (Nat.le_of_ble_eq_true rfl) rfl (fun ls hl => ?_)
    refine lv_aload_n hx hb dX7_meanDistance_23 rfl (lv_at hl 3 rfl) ?_
    refine va_get (D := (dC, dI)) (ci := 10) (v := .int 1) (C := RX7) (T := TX7) (N := 19) hx hb hts (fun w h => List.mem_cons_of_mem _ (List.mem_append_left _ (List.mem_append_right _ (h)))) hown hK hP 0 rfl rfl 16 (by decide) (hts (.fieldLink RX7 57 "NetcompareModel" "thrown" "I") (List.mem_cons_of_mem _ (List.mem_append_left _ (List.mem_append_left _ (List.mem_append_left _ (List.mem_of_getElem? (i := 0) rfl)))))) (fun _ h9 => h9) rfl dX7_meanDistance_24 ?_
    refine lv_if_ne (tgt := 87) hx hb dX7_meanDistance_27 (by decide) (fun _ => ?_) (fun h9 => absurd h9 (by decide))
    refine lv_aload_n hx hb dX7_meanDistance_87 rfl (lv_at hl 3 rfl) ?_
    refine lv_aload_n hx hb dX7_meanDistance_88 rfl (lv_at hl 3 rfl) ?_
    refine va_get (D := (dC, dI)) (ci := 10) (v := .int 1) (C := RX7) (T := TX7) (N := 19) hx hb hts (fun w h => List.mem_cons_of_mem _ (List.mem_append_left _ (List.mem_append_right _ (h)))) hown hK hP 0 rfl rfl 16 (by decide) (hts (.fieldLink RX7 57 "NetcompareModel" "thrown" "I") (List.mem_cons_of_mem _ (List.mem_append_left _ (List.mem_append_left _ (List.mem_append_left _ (List.mem_of_getElem? (i := 0) rfl)))))) (fun _ h9 => h9) rfl dX7_meanDistance_89 ?_
    refine lv_if_ne (tgt := 103) hx hb dX7_meanDistance_92 (by decide) (fun _ => ?_) (fun h9 => absurd h9 (by decide))
    refine lv_aload_n hx hb dX7_meanDistance_103 rfl (lv_at hl 3 rfl) ?_
    refine va_get (D := (dC, dI)) (ci := 10) (v := .int 1) (C := RX7) (T := TX7) (N := 19) hx hb hts (fun w h => List.mem_cons_of_mem _ (List.mem_append_left _ (List.mem_append_right _ (h)))) hown hK hP 0 rfl rfl 16 (by decide) (hts (.fieldLink RX7 57 "NetcompareModel" "thrown" "I") (List.mem_cons_of_mem _ (List.mem_append_left _ (List.mem_append_left _ (List.mem_append_left _ (List.mem_of_getElem? (i := 0) rfl)))))) (fun _ h9 => h9) rfl dX7_meanDistance_104 ?_
    refine va_put (D := (dC, dI)) (ci := 10) (v := .int 1) (ty := .int) (C := RX7) (T := TX7) (N := 19) hx hb hts (fun w h => List.mem_cons_of_mem _ (List.mem_append_left _ (List.mem_append_right _ (h)))) tyX7 tyX7_ok nmX7 hown hK hP hD hS 0 rfl rfl 16 (by decide) (hts (.fieldLink RX7 57 "NetcompareModel" "thrown" "I") (List.mem_cons_of_mem _ (List.mem_append_left _ (List.mem_append_left _ (List.mem_append_left _ (List.mem_of_getElem? (i := 0) rfl)))))) (fun _ h9 => h9) rfl (by decide +kernel) rfl rfl (Nat.le_of_ble_eq_true rfl) dX7_meanDistance_107 (fun H locs hP hD hS => ?_)
    have hP : va_P (dC, dI) vwCl [(k0, .inr (10, [.ref kN, .ref kA, .ref kO, .ref kK, .ref kV, .ref kG, .ref kP, .ref kC, .ref kD, .ref kE, .ref kF, .ref kX, .ref kY, .int 0, .ref kT, .ref kU, .int 1, .int 0, .int 0])), (kN, .inl (cI, 2, .inl (fun _ => 0))), (kA, .inl (cI, 2, .inl (fun _ => 0)))] _ := hP
    have hD : va_D A [(k0, .inr (10, [.ref kN, .ref kA, .ref kO, .ref kK, .ref kV, .ref kG, .ref kP, .ref kC, .ref kD, .ref kE, .ref kF, .ref kX, .ref kY, .int 0, .ref kT, .ref kU, .int 1, .int 0, .int 0])), (kN, .inl (cI, 2, .inl (fun _ => 0))), (kA, .inl (cI, 2, .inl (fun _ => 0)))] := hD
    refine lv_aload_n hx hb dX7_meanDistance_110 rfl (lv_at hl 3 rfl) ?_
    refine va_get (D := (dC, dI)) (ci := 10) (v := .int 1) (C := RX7) (T := TX7) (N := 19) hx hb hts (fun w h => List.mem_cons_of_mem _ (List.mem_append_left _ (List.mem_append_right _ (h)))) hown hK hP 0 rfl rfl 16 (by decide) (hts (.fieldLink RX7 57 "NetcompareModel" "thrown" "I") (List.mem_cons_of_mem _ (List.mem_append_left _ (List.mem_append_left _ (List.mem_append_left _ (List.mem_of_getElem? (i := 0) rfl)))))) (fun _ h9 => h9) rfl dX7_meanDistance_111 ?_
    refine lv_if_ne (tgt := 125) hx hb dX7_meanDistance_114 (by decide) (fun _ => ?_) (fun h9 => absurd h9 (by decide))
    refine lv_dconst0 hx hb dX7_meanDistance_125 ?_
    exact ret _ 1 _ _ _ _ _ _ (Or.inl (⟨rfl, hc1⟩)) (hP.sub [0] rfl) (hK.sub [] rfl) (hD.sub [0] (by decide) rfl) hS (Nat.le_of_ble_eq_true rfl) (Nat.le_of_ble_eq_true rfl) dX7_meanDistance_126

set_option maxHeartbeats 4000000 in
set_option maxRecDepth 100000 in
/-- the model: thrown -/
theorem kX7_thrown (l : Launch) (dC : Nat → ClassId) (dI : Nat → Nat → Nat) (k0 kN kA kO kK kV kG kP kC kD kE kF kX kY kT kU : Nat) (t0 : Int32) (sz : Nat) : fMi l yX7_thrown wsX7_thrown ({ frames := 0, cells := 0, slots := 0, locals := 0 } : Room) dC dI [.ref k0] [(k0, .inr (10, [.ref kN, .ref kA, .ref kO, .ref kK, .ref kV, .ref kG, .ref kP, .ref kC, .ref kD, .ref kE, .ref kF, .ref kX, .ref kY, .int 0, .ref kT, .ref kU, .int t0, .int 0, .int 0]))] [] sz (fun (r : Int32) (u : Unit) => r = t0) (fun u => []) (fun u => []) := by
  refine oP_i (y := yX7_thrown) (cc := cX7_thrown) (maxL := 1) (by decide) rfl (Nat.le_of_ble_eq_true rfl) ?_
  intro p e s m args below meth c ls A Q hx hb hr hml hown hts hN hZ hA hin hlk hP hK hD hl ret
  have hS : va_S A s.heap s.heap [] := va_S.rf
  have hl : lv_has ls 1 [(0, .ref k0)] := hl
  have hP : va_P (dC, dI) vwCl [(k0, .inr (10, [.ref kN, .ref kA, .ref kO, .ref kK, .ref kV, .ref kG, .ref kP, .ref kC, .ref kD, .ref kE, .ref kF, .ref kX, .ref kY, .int 0, .ref kT, .ref kU, .int t0, .int 0, .int 0]))] _ := hP
  have hD : va_D A [(k0, .inr (10, [.ref kN, .ref kA, .ref kO, .ref kK, .ref kV, .ref kG, .ref kP, .ref kC, .ref kD, .ref kE, .ref kF, .ref kX, .ref kY, .int 0, .ref kT, .ref kU, .int t0, .int 0, .int 0]))] := hD
  refine lv_aload_n hx hb dX7_thrown_0 rfl (lv_at hl 0 rfl) ?_
  refine va_get (D := (dC, dI)) (ci := 10) (v := .int t0) (C := RX7) (T := TX7) (N := 19) hx hb hts (fun w h => List.mem_cons_of_mem _ (List.mem_append_right _ (h))) hown hK hP 0 rfl rfl 16 (by decide) (hts (.fieldLink RX7 57 "NetcompareModel" "thrown" "I") (List.mem_cons_of_mem _ (List.mem_append_left _ (List.mem_of_getElem? (i := 0) rfl)))) (fun _ h9 => h9) rfl dX7_thrown_1 ?_
  exact ret _ () _ _ _ _ _ _ (rfl) (hP.sub [] rfl) (hK.sub [] rfl) (hD.sub [] (by decide) rfl) hS (Nat.le_of_ble_eq_true rfl) (Nat.le_of_ble_eq_true rfl) dX7_thrown_4
