theorem dX6_in_0 : decode cX6_in 0 = .ok (.lload_n 0, 1) := by decide +kernel
theorem dX6_in_1 : decode cX6_in 1 = .ok (.lload_n 2, 1) := by decide +kernel
theorem dX6_in_2 : decode cX6_in 2 = .ok (.lcmp, 1) := by decide +kernel
theorem dX6_in_3 : decode cX6_in 3 = .ok (.ifCond .lt 14, 3) := by decide +kernel
theorem dX6_in_6 : decode cX6_in 6 = .ok (.lload_n 0, 1) := by decide +kernel
theorem dX6_in_7 : decode cX6_in 7 = .ok (.lload 4, 2) := by decide +kernel
theorem dX6_in_9 : decode cX6_in 9 = .ok (.lcmp, 1) := by decide +kernel
theorem dX6_in_10 : decode cX6_in 10 = .ok (.ifCond .gt 7, 3) := by decide +kernel
theorem dX6_in_13 : decode cX6_in 13 = .ok (.iconst 1, 1) := by decide +kernel
theorem dX6_in_14 : decode cX6_in 14 = .ok (.goto 4, 3) := by decide +kernel
theorem dX6_in_17 : decode cX6_in 17 = .ok (.iconst 0, 1) := by decide +kernel
theorem dX6_in_18 : decode cX6_in 18 = .ok (.ireturn, 1) := by decide +kernel
theorem dX6_isCircuit_0 : decode cX6_isCircuit 0 = .ok (.iload_n 0, 1) := by decide +kernel
theorem dX6_isCircuit_1 : decode cX6_isCircuit 1 = .ok (.ifCond .eq 8, 3) := by decide +kernel
theorem dX6_isCircuit_4 : decode cX6_isCircuit 4 = .ok (.iload_n 0, 1) := by decide +kernel
theorem dX6_isCircuit_5 : decode cX6_isCircuit 5 = .ok (.iconst 1, 1) := by decide +kernel
theorem dX6_isCircuit_6 : decode cX6_isCircuit 6 = .ok (.if_icmp .ne 7, 3) := by decide +kernel
theorem dX6_isCircuit_9 : decode cX6_isCircuit 9 = .ok (.iconst 1, 1) := by decide +kernel
theorem dX6_isCircuit_10 : decode cX6_isCircuit 10 = .ok (.goto 4, 3) := by decide +kernel
theorem dX6_isCircuit_13 : decode cX6_isCircuit 13 = .ok (.iconst 0, 1) := by decide +kernel
theorem dX6_isCircuit_14 : decode cX6_isCircuit 14 = .ok (.ireturn, 1) := by decide +kernel
set_option maxRecDepth 20000 in
theorem ggX6_isNet_X6_in : GoodIn wsX6_isNet wsX6_in := goodIn_r _ [5] (by decide +kernel) (by decide +kernel)
set_option maxRecDepth 20000 in
theorem gX6_isNet_X6_in : GoodIn wsX6_isNet (va_wsS RX6 61 yX6_in wsX6_in) := goodIn_app (goodIn_of _ (by decide +kernel)) ggX6_isNet_X6_in
theorem dX6_isNet_0 : decode cX6_isNet 0 = .ok (.iload_n 2, 1) := by decide +kernel
theorem dX6_isNet_1 : decode cX6_isNet 1 = .ok (.i2l, 1) := by decide +kernel
theorem dX6_isNet_2 : decode cX6_isNet 2 = .ok (.lconst 0, 1) := by decide +kernel
theorem dX6_isNet_3 : decode cX6_isNet 3 = .ok (.aload_n 0, 1) := by decide +kernel
theorem dX6_isNet_4 : decode cX6_isNet 4 = .ok (.getfield 7, 3) := by decide +kernel
theorem dX6_isNet_7 : decode cX6_isNet 7 = .ok (.iload_n 1, 1) := by decide +kernel
theorem dX6_isNet_8 : decode cX6_isNet 8 = .ok (.iaload, 1) := by decide +kernel
theorem dX6_isNet_9 : decode cX6_isNet 9 = .ok (.iconst 1, 1) := by decide +kernel
theorem dX6_isNet_10 : decode cX6_isNet 10 = .ok (.isub, 1) := by decide +kernel
theorem dX6_isNet_11 : decode cX6_isNet 11 = .ok (.i2l, 1) := by decide +kernel
theorem dX6_isNet_12 : decode cX6_isNet 12 = .ok (.invokestatic 61, 3) := by decide +kernel
theorem dX6_isNet_15 : decode cX6_isNet 15 = .ok (.ireturn, 1) := by decide +kernel
set_option maxRecDepth 20000 in
theorem ggX6_isPart_X6_in : GoodIn wsX6_isPart wsX6_in := goodIn_r _ [6] (by decide +kernel) (by decide +kernel)
set_option maxRecDepth 20000 in
theorem gX6_isPart_X6_in : GoodIn wsX6_isPart (va_wsS RX6 61 yX6_in wsX6_in) := goodIn_app (goodIn_of _ (by decide +kernel)) ggX6_isPart_X6_in
theorem dX6_isPart_0 : decode cX6_isPart 0 = .ok (.iload_n 2, 1) := by decide +kernel
theorem dX6_isPart_1 : decode cX6_isPart 1 = .ok (.i2l, 1) := by decide +kernel
theorem dX6_isPart_2 : decode cX6_isPart 2 = .ok (.lconst 0, 1) := by decide +kernel
theorem dX6_isPart_3 : decode cX6_isPart 3 = .ok (.aload_n 0, 1) := by decide +kernel
theorem dX6_isPart_4 : decode cX6_isPart 4 = .ok (.getfield 13, 3) := by decide +kernel
theorem dX6_isPart_7 : decode cX6_isPart 7 = .ok (.iload_n 1, 1) := by decide +kernel
theorem dX6_isPart_8 : decode cX6_isPart 8 = .ok (.iaload, 1) := by decide +kernel
theorem dX6_isPart_9 : decode cX6_isPart 9 = .ok (.iconst 1, 1) := by decide +kernel
theorem dX6_isPart_10 : decode cX6_isPart 10 = .ok (.isub, 1) := by decide +kernel
theorem dX6_isPart_11 : decode cX6_isPart 11 = .ok (.i2l, 1) := by decide +kernel
theorem dX6_isPart_12 : decode cX6_isPart 12 = .ok (.invokestatic 61, 3) := by decide +kernel
theorem dX6_isPart_15 : decode cX6_isPart 15 = .ok (.ifCond .eq 21, 3) := by decide +kernel
theorem dX6_isPart_36 : decode cX6_isPart 36 = .ok (.iconst 0, 1) := by decide +kernel
theorem dX6_isPart_37 : decode cX6_isPart 37 = .ok (.ireturn, 1) := by decide +kernel
theorem dX6_partMany_0 : decode cX6_partMany 0 = .ok (.iconst 0, 1) := by decide +kernel
theorem dX6_partMany_1 : decode cX6_partMany 1 = .ok (.istore_n 2, 1) := by decide +kernel
theorem dX6_partMany_2 : decode cX6_partMany 2 = .ok (.iconst 0, 1) := by decide +kernel
theorem dX6_partMany_3 : decode cX6_partMany 3 = .ok (.istore_n 3, 1) := by decide +kernel
theorem dX6_partMany_4 : decode cX6_partMany 4 = .ok (.iload_n 3, 1) := by decide +kernel
theorem dX6_partMany_5 : decode cX6_partMany 5 = .ok (.aload_n 0, 1) := by decide +kernel
theorem dX6_partMany_6 : decode cX6_partMany 6 = .ok (.getfield 13, 3) := by decide +kernel
theorem dX6_partMany_9 : decode cX6_partMany 9 = .ok (.iload_n 1, 1) := by decide +kernel
theorem dX6_partMany_10 : decode cX6_partMany 10 = .ok (.iaload, 1) := by decide +kernel
theorem dX6_partMany_11 : decode cX6_partMany 11 = .ok (.if_icmp .ge 26, 3) := by decide +kernel
theorem dX6_partMany_37 : decode cX6_partMany 37 = .ok (.iload_n 2, 1) := by decide +kernel
theorem dX6_partMany_38 : decode cX6_partMany 38 = .ok (.ireturn, 1) := by decide +kernel
theorem dX6_firstPair_0 : decode cX6_firstPair 0 = .ok (.iconst 0, 1) := by decide +kernel
theorem dX6_firstPair_1 : decode cX6_firstPair 1 = .ok (.istore_n 2, 1) := by decide +kernel
theorem dX6_firstPair_2 : decode cX6_firstPair 2 = .ok (.iload_n 2, 1) := by decide +kernel
theorem dX6_firstPair_3 : decode cX6_firstPair 3 = .ok (.aload_n 0, 1) := by decide +kernel
theorem dX6_firstPair_4 : decode cX6_firstPair 4 = .ok (.getfield 13, 3) := by decide +kernel
theorem dX6_firstPair_7 : decode cX6_firstPair 7 = .ok (.iload_n 1, 1) := by decide +kernel
theorem dX6_firstPair_8 : decode cX6_firstPair 8 = .ok (.iaload, 1) := by decide +kernel
theorem dX6_firstPair_9 : decode cX6_firstPair 9 = .ok (.if_icmp .ge 66, 3) := by decide +kernel
theorem dX6_firstPair_75 : decode cX6_firstPair 75 = .ok (.iconst (-1), 1) := by decide +kernel
theorem dX6_firstPair_76 : decode cX6_firstPair 76 = .ok (.ireturn, 1) := by decide +kernel
set_option maxRecDepth 20000 in
theorem ggX6_isThere_X6_isPart : GoodIn wsX6_isThere wsX6_isPart := goodIn_ca (goodIn_r _ [5, 6, 7, 8, 9, 4, 10, 16, 17, 18, 19, 20, 21, 22, 23, 24, 25, 26, 27, 28, 29, 30, 31, 32, 33, 34] (by decide +kernel) (by decide +kernel)) (goodIn_sub (fun _ h => List.mem_cons_of_mem _ (List.mem_append_right _ h)) (by decide +kernel))
set_option maxRecDepth 20000 in
theorem gX6_isThere_X6_isPart : GoodIn wsX6_isThere (wsV RX6 73 RX6 yX6_isPart wsX6_isPart) := goodIn_app (goodIn_of _ (by decide +kernel)) ggX6_isThere_X6_isPart
set_option maxRecDepth 20000 in
theorem ggX6_isThere_X6_isNet : GoodIn wsX6_isThere wsX6_isNet := goodIn_ca (goodIn_r _ [14, 15, 8, 9, 4, 10, 16, 17, 18, 19, 20, 21, 22, 23, 24, 25, 26, 27, 28, 29, 30, 31, 32, 33, 34] (by decide +kernel) (by decide +kernel)) (goodIn_sub (fun _ h => List.mem_cons_of_mem _ (List.mem_append_right _ h)) (by decide +kernel))
set_option maxRecDepth 20000 in
theorem gX6_isThere_X6_isNet : GoodIn wsX6_isThere (wsV RX6 89 RX6 yX6_isNet wsX6_isNet) := goodIn_app (goodIn_of _ (by decide +kernel)) ggX6_isThere_X6_isNet
theorem dX6_isThere_0 : decode cX6_isThere 0 = .ok (.iload_n 2, 1) := by decide +kernel
theorem dX6_isThere_1 : decode cX6_isThere 1 = .ok (.ifCond .eq 18, 3) := by decide +kernel
theorem dX6_isThere_4 : decode cX6_isThere 4 = .ok (.aload_n 0, 1) := by decide +kernel
theorem dX6_isThere_5 : decode cX6_isThere 5 = .ok (.iload_n 1, 1) := by decide +kernel
theorem dX6_isThere_6 : decode cX6_isThere 6 = .ok (.bipush 10, 2) := by decide +kernel
theorem dX6_isThere_8 : decode cX6_isThere 8 = .ok (.idiv, 1) := by decide +kernel
theorem dX6_isThere_9 : decode cX6_isThere 9 = .ok (.iload_n 1, 1) := by decide +kernel
theorem dX6_isThere_10 : decode cX6_isThere 10 = .ok (.bipush 10, 2) := by decide +kernel
theorem dX6_isThere_12 : decode cX6_isThere 12 = .ok (.irem, 1) := by decide +kernel
theorem dX6_isThere_13 : decode cX6_isThere 13 = .ok (.invokevirtual 73, 3) := by decide +kernel
theorem dX6_isThere_16 : decode cX6_isThere 16 = .ok (.goto 15, 3) := by decide +kernel
theorem dX6_isThere_19 : decode cX6_isThere 19 = .ok (.aload_n 0, 1) := by decide +kernel
theorem dX6_isThere_20 : decode cX6_isThere 20 = .ok (.iload_n 1, 1) := by decide +kernel
theorem dX6_isThere_21 : decode cX6_isThere 21 = .ok (.bipush 10, 2) := by decide +kernel
theorem dX6_isThere_23 : decode cX6_isThere 23 = .ok (.idiv, 1) := by decide +kernel
theorem dX6_isThere_24 : decode cX6_isThere 24 = .ok (.iload_n 1, 1) := by decide +kernel
theorem dX6_isThere_25 : decode cX6_isThere 25 = .ok (.bipush 10, 2) := by decide +kernel
theorem dX6_isThere_27 : decode cX6_isThere 27 = .ok (.irem, 1) := by decide +kernel
theorem dX6_isThere_28 : decode cX6_isThere 28 = .ok (.invokevirtual 89, 3) := by decide +kernel
theorem dX6_isThere_31 : decode cX6_isThere 31 = .ok (.ireturn, 1) := by decide +kernel
theorem dX6_fresh_0 : decode cX6_fresh 0 = .ok (.iconst (-1), 1) := by decide +kernel
theorem dX6_fresh_1 : decode cX6_fresh 1 = .ok (.istore_n 2, 1) := by decide +kernel
theorem dX6_fresh_2 : decode cX6_fresh 2 = .ok (.iconst 0, 1) := by decide +kernel
theorem dX6_fresh_3 : decode cX6_fresh 3 = .ok (.istore_n 3, 1) := by decide +kernel
theorem dX6_fresh_4 : decode cX6_fresh 4 = .ok (.iload_n 3, 1) := by decide +kernel
theorem dX6_fresh_5 : decode cX6_fresh 5 = .ok (.iload_n 1, 1) := by decide +kernel
theorem dX6_fresh_6 : decode cX6_fresh 6 = .ok (.if_icmp .ge 17, 3) := by decide +kernel
theorem dX6_fresh_9 : decode cX6_fresh 9 = .ok (.iload_n 2, 1) := by decide +kernel
theorem dX6_fresh_10 : decode cX6_fresh 10 = .ok (.aload_n 0, 1) := by decide +kernel
theorem dX6_fresh_11 : decode cX6_fresh 11 = .ok (.iload_n 3, 1) := by decide +kernel
theorem dX6_fresh_12 : decode cX6_fresh 12 = .ok (.iaload, 1) := by decide +kernel
theorem dX6_fresh_13 : decode cX6_fresh 13 = .ok (.invokestatic 132, 3) := by decide +kernel
theorem dX6_fresh_16 : decode cX6_fresh 16 = .ok (.istore_n 2, 1) := by decide +kernel
theorem dX6_fresh_17 : decode cX6_fresh 17 = .ok (.iinc 3 1, 3) := by decide +kernel
theorem dX6_fresh_20 : decode cX6_fresh 20 = .ok (.goto (-16), 3) := by decide +kernel
theorem dX6_fresh_23 : decode cX6_fresh 23 = .ok (.iload_n 2, 1) := by decide +kernel
theorem dX6_fresh_24 : decode cX6_fresh 24 = .ok (.iconst 1, 1) := by decide +kernel
theorem dX6_fresh_25 : decode cX6_fresh 25 = .ok (.iadd, 1) := by decide +kernel
theorem dX6_fresh_26 : decode cX6_fresh 26 = .ok (.ireturn, 1) := by decide +kernel
set_option maxRecDepth 20000 in
theorem ggX6_numbers_X6_isThere : GoodIn wsX6_numbers wsX6_isThere := goodIn_ca (goodIn_r _ [5, 6, 7, 8, 4, 9, 10, 11, 12, 13, 14, 15, 16, 17, 18, 19, 66, 67, 68, 69, 70, 71, 72, 73, 74, 75, 76, 77, 78, 79, 80, 81, 82, 83, 84] (by decide +kernel) (by decide +kernel)) (goodIn_sub (fun _ h => List.mem_cons_of_mem _ (List.mem_append_right _ h)) (by decide +kernel))
set_option maxRecDepth 20000 in
theorem gX6_numbers_X6_isThere : GoodIn wsX6_numbers (wsV RX6 202 RX6 yX6_isThere wsX6_isThere) := goodIn_app (goodIn_of _ (by decide +kernel)) ggX6_numbers_X6_isThere
theorem dX6_numbers_0 : decode cX6_numbers 0 = .ok (.iconst 0, 1) := by decide +kernel
theorem dX6_numbers_1 : decode cX6_numbers 1 = .ok (.istore_n 3, 1) := by decide +kernel
theorem dX6_numbers_2 : decode cX6_numbers 2 = .ok (.iload_n 3, 1) := by decide +kernel
theorem dX6_numbers_3 : decode cX6_numbers 3 = .ok (.bipush 20, 2) := by decide +kernel
theorem dX6_numbers_5 : decode cX6_numbers 5 = .ok (.if_icmp .ge 102, 3) := by decide +kernel
theorem dX6_numbers_8 : decode cX6_numbers 8 = .ok (.aload_n 2, 1) := by decide +kernel
theorem dX6_numbers_9 : decode cX6_numbers 9 = .ok (.iload_n 3, 1) := by decide +kernel
theorem dX6_numbers_10 : decode cX6_numbers 10 = .ok (.iconst (-1), 1) := by decide +kernel
theorem dX6_numbers_11 : decode cX6_numbers 11 = .ok (.iastore, 1) := by decide +kernel
theorem dX6_numbers_12 : decode cX6_numbers 12 = .ok (.iload_n 3, 1) := by decide +kernel
theorem dX6_numbers_13 : decode cX6_numbers 13 = .ok (.iconst 1, 1) := by decide +kernel
theorem dX6_numbers_14 : decode cX6_numbers 14 = .ok (.isub, 1) := by decide +kernel
theorem dX6_numbers_15 : decode cX6_numbers 15 = .ok (.istore 4, 2) := by decide +kernel
theorem dX6_numbers_17 : decode cX6_numbers 17 = .ok (.iload 4, 2) := by decide +kernel
theorem dX6_numbers_19 : decode cX6_numbers 19 = .ok (.ifCond .lt 52, 3) := by decide +kernel
theorem dX6_numbers_22 : decode cX6_numbers 22 = .ok (.aload_n 0, 1) := by decide +kernel
theorem dX6_numbers_23 : decode cX6_numbers 23 = .ok (.iload_n 3, 1) := by decide +kernel
theorem dX6_numbers_24 : decode cX6_numbers 24 = .ok (.iload_n 1, 1) := by decide +kernel
theorem dX6_numbers_25 : decode cX6_numbers 25 = .ok (.invokevirtual 202, 3) := by decide +kernel
theorem dX6_numbers_28 : decode cX6_numbers 28 = .ok (.ifCond .eq 43, 3) := by decide +kernel
theorem dX6_numbers_71 : decode cX6_numbers 71 = .ok (.aload_n 2, 1) := by decide +kernel
theorem dX6_numbers_72 : decode cX6_numbers 72 = .ok (.iload_n 3, 1) := by decide +kernel
theorem dX6_numbers_73 : decode cX6_numbers 73 = .ok (.aload_n 0, 1) := by decide +kernel
theorem dX6_numbers_74 : decode cX6_numbers 74 = .ok (.iload_n 3, 1) := by decide +kernel
theorem dX6_numbers_75 : decode cX6_numbers 75 = .ok (.iload_n 1, 1) := by decide +kernel
theorem dX6_numbers_76 : decode cX6_numbers 76 = .ok (.invokevirtual 202, 3) := by decide +kernel
theorem dX6_numbers_79 : decode cX6_numbers 79 = .ok (.ifCond .eq 18, 3) := by decide +kernel
theorem dX6_numbers_97 : decode cX6_numbers 97 = .ok (.aload_n 2, 1) := by decide +kernel
theorem dX6_numbers_98 : decode cX6_numbers 98 = .ok (.iload_n 3, 1) := by decide +kernel
theorem dX6_numbers_99 : decode cX6_numbers 99 = .ok (.iaload, 1) := by decide +kernel
theorem dX6_numbers_100 : decode cX6_numbers 100 = .ok (.iastore, 1) := by decide +kernel
theorem dX6_numbers_101 : decode cX6_numbers 101 = .ok (.iinc 3 1, 3) := by decide +kernel
theorem dX6_numbers_104 : decode cX6_numbers 104 = .ok (.goto (-102), 3) := by decide +kernel
theorem dX6_numbers_107 : decode cX6_numbers 107 = .ok (.return_, 1) := by decide +kernel
set_option maxRecDepth 20000 in
theorem ggX6_classes_X6_fresh : GoodIn wsX6_classes wsX6_fresh := goodIn_ca (goodIn_r _ [4, 5, 6, 7, 8] (by decide +kernel) (by decide +kernel)) (goodIn_sub (fun _ h => List.mem_cons_of_mem _ (List.mem_append_right _ h)) (by decide +kernel))
set_option maxRecDepth 20000 in
theorem gX6_classes_X6_fresh : GoodIn wsX6_classes (va_wsS RX6 210 yX6_fresh wsX6_fresh) := goodIn_app (goodIn_of _ (by decide +kernel)) ggX6_classes_X6_fresh
theorem dX6_classes_0 : decode cX6_classes 0 = .ok (.aload_n 0, 1) := by decide +kernel
theorem dX6_classes_1 : decode cX6_classes 1 = .ok (.aload_n 0, 1) := by decide +kernel
theorem dX6_classes_2 : decode cX6_classes 2 = .ok (.arraylength, 1) := by decide +kernel
theorem dX6_classes_3 : decode cX6_classes 3 = .ok (.invokestatic 210, 3) := by decide +kernel
theorem dX6_classes_6 : decode cX6_classes 6 = .ok (.ireturn, 1) := by decide +kernel
set_option maxRecDepth 20000 in
theorem ggX6_colours_X6_isThere : GoodIn wsX6_colours wsX6_isThere := goodIn_ca (goodIn_r _ [13, 14, 15, 16, 12, 17, 18, 19, 20, 21, 22, 23, 24, 25, 26, 27, 91, 92, 93, 94, 95, 96, 97, 98, 99, 100, 101, 102, 103, 104, 105, 106, 107, 108, 109] (by decide +kernel) (by decide +kernel)) (goodIn_sub (fun _ h => List.mem_cons_of_mem _ (List.mem_append_right _ h)) (by decide +kernel))
set_option maxRecDepth 20000 in
theorem gX6_colours_X6_isThere : GoodIn wsX6_colours (wsV RX6 202 RX6 yX6_isThere wsX6_isThere) := goodIn_app (goodIn_of _ (by decide +kernel)) ggX6_colours_X6_isThere
set_option maxRecDepth 20000 in
theorem ggX6_colours_X6_firstNumbers : GoodIn wsX6_colours wsX6_firstNumbers := goodIn_ca (goodIn_r _ [46, 47, 48, 49, 50, 51, 52, 53, 54, 12, 55, 56, 57, 58, 59] (by decide +kernel) (by decide +kernel)) (goodIn_sub (fun _ h => List.mem_cons_of_mem _ (List.mem_append_right _ h)) (by decide +kernel))
set_option maxRecDepth 20000 in
theorem gX6_colours_X6_firstNumbers : GoodIn wsX6_colours (va_wsS RX6 214 yX6_firstNumbers wsX6_firstNumbers) := goodIn_app (goodIn_of _ (by decide +kernel)) ggX6_colours_X6_firstNumbers
set_option maxRecDepth 20000 in
theorem ggX6_colours_X6_classes : GoodIn wsX6_colours wsX6_classes := goodIn_ca (goodIn_r _ [62, 53, 54, 12, 55, 56, 57, 58, 59] (by decide +kernel) (by decide +kernel)) (goodIn_sub (fun _ h => List.mem_cons_of_mem _ (List.mem_append_right _ h)) (by decide +kernel))
set_option maxRecDepth 20000 in
theorem gX6_colours_X6_classes : GoodIn wsX6_colours (va_wsS RX6 221 yX6_classes wsX6_classes) := goodIn_app (goodIn_of _ (by decide +kernel)) ggX6_colours_X6_classes
set_option maxRecDepth 20000 in
theorem ggX6_colours_X6_numbers : GoodIn wsX6_colours wsX6_numbers := goodIn_ca (goodIn_r _ [66, 9, 10, 11, 12, 13, 14, 15, 16, 17, 18, 19, 20, 21, 22, 23, 24, 25, 26, 27, 67, 68, 69, 70, 71, 72, 73, 74, 75, 76, 77, 78, 79, 80, 4, 3, 1, 36, 37, 38, 39, 40, 41, 42, 43, 81, 82, 83, 84, 85, 86, 87, 32, 33, 34, 35, 88, 89, 90, 53, 54, 55, 56, 57, 58, 59, 91, 92, 93, 94, 95, 96, 97, 98, 99, 100, 101, 102, 103, 104, 105, 106, 107, 108, 109] (by decide +kernel) (by decide +kernel)) (goodIn_sub (fun _ h => List.mem_cons_of_mem _ (List.mem_append_right _ h)) (by decide +kernel))
set_option maxRecDepth 20000 in
theorem gX6_colours_X6_numbers : GoodIn wsX6_colours (wsV RX6 225 RX6 yX6_numbers wsX6_numbers) := goodIn_app (goodIn_of _ (by decide +kernel)) ggX6_colours_X6_numbers
theorem dX6_colours_0 : decode cX6_colours 0 = .ok (.iconst 0, 1) := by decide +kernel
theorem dX6_colours_1 : decode cX6_colours 1 = .ok (.istore_n 1, 1) := by decide +kernel
theorem dX6_colours_2 : decode cX6_colours 2 = .ok (.iload_n 1, 1) := by decide +kernel
theorem dX6_colours_3 : decode cX6_colours 3 = .ok (.bipush 20, 2) := by decide +kernel
theorem dX6_colours_5 : decode cX6_colours 5 = .ok (.if_icmp .ge 86, 3) := by decide +kernel
theorem dX6_colours_8 : decode cX6_colours 8 = .ok (.aload_n 0, 1) := by decide +kernel
theorem dX6_colours_9 : decode cX6_colours 9 = .ok (.getfield 33, 3) := by decide +kernel
theorem dX6_colours_12 : decode cX6_colours 12 = .ok (.iload_n 1, 1) := by decide +kernel
theorem dX6_colours_13 : decode cX6_colours 13 = .ok (.aload_n 0, 1) := by decide +kernel
theorem dX6_colours_14 : decode cX6_colours 14 = .ok (.iload_n 1, 1) := by decide +kernel
theorem dX6_colours_15 : decode cX6_colours 15 = .ok (.iconst 0, 1) := by decide +kernel
theorem dX6_colours_16 : decode cX6_colours 16 = .ok (.invokevirtual 202, 3) := by decide +kernel
theorem dX6_colours_19 : decode cX6_colours 19 = .ok (.ifCond .eq 28, 3) := by decide +kernel
theorem dX6_colours_47 : decode cX6_colours 47 = .ok (.iconst (-1), 1) := by decide +kernel
theorem dX6_colours_48 : decode cX6_colours 48 = .ok (.iastore, 1) := by decide +kernel
theorem dX6_colours_49 : decode cX6_colours 49 = .ok (.aload_n 0, 1) := by decide +kernel
theorem dX6_colours_50 : decode cX6_colours 50 = .ok (.getfield 36, 3) := by decide +kernel
theorem dX6_colours_53 : decode cX6_colours 53 = .ok (.iload_n 1, 1) := by decide +kernel
theorem dX6_colours_54 : decode cX6_colours 54 = .ok (.aload_n 0, 1) := by decide +kernel
theorem dX6_colours_55 : decode cX6_colours 55 = .ok (.iload_n 1, 1) := by decide +kernel
theorem dX6_colours_56 : decode cX6_colours 56 = .ok (.iconst 1, 1) := by decide +kernel
theorem dX6_colours_57 : decode cX6_colours 57 = .ok (.invokevirtual 202, 3) := by decide +kernel
theorem dX6_colours_60 : decode cX6_colours 60 = .ok (.ifCond .eq 23, 3) := by decide +kernel
theorem dX6_colours_83 : decode cX6_colours 83 = .ok (.iconst (-1), 1) := by decide +kernel
theorem dX6_colours_84 : decode cX6_colours 84 = .ok (.iastore, 1) := by decide +kernel
theorem dX6_colours_85 : decode cX6_colours 85 = .ok (.iinc 1 1, 3) := by decide +kernel
theorem dX6_colours_88 : decode cX6_colours 88 = .ok (.goto (-86), 3) := by decide +kernel
theorem dX6_colours_91 : decode cX6_colours 91 = .ok (.aload_n 0, 1) := by decide +kernel
theorem dX6_colours_92 : decode cX6_colours 92 = .ok (.getfield 33, 3) := by decide +kernel
theorem dX6_colours_95 : decode cX6_colours 95 = .ok (.invokestatic 214, 3) := by decide +kernel
theorem dX6_colours_98 : decode cX6_colours 98 = .ok (.aload_n 0, 1) := by decide +kernel
theorem dX6_colours_99 : decode cX6_colours 99 = .ok (.getfield 36, 3) := by decide +kernel
theorem dX6_colours_102 : decode cX6_colours 102 = .ok (.invokestatic 214, 3) := by decide +kernel
theorem dX6_colours_105 : decode cX6_colours 105 = .ok (.aload_n 0, 1) := by decide +kernel
theorem dX6_colours_106 : decode cX6_colours 106 = .ok (.iconst 0, 1) := by decide +kernel
theorem dX6_colours_107 : decode cX6_colours 107 = .ok (.putfield 218, 3) := by decide +kernel
theorem dX6_colours_110 : decode cX6_colours 110 = .ok (.iconst 1, 1) := by decide +kernel
theorem dX6_colours_111 : decode cX6_colours 111 = .ok (.istore_n 1, 1) := by decide +kernel
theorem dX6_colours_112 : decode cX6_colours 112 = .ok (.iload_n 1, 1) := by decide +kernel
theorem dX6_colours_113 : decode cX6_colours 113 = .ok (.ifCond .eq 121, 3) := by decide +kernel
theorem dX6_colours_116 : decode cX6_colours 116 = .ok (.aload_n 0, 1) := by decide +kernel
theorem dX6_colours_117 : decode cX6_colours 117 = .ok (.getfield 33, 3) := by decide +kernel
theorem dX6_colours_120 : decode cX6_colours 120 = .ok (.invokestatic 221, 3) := by decide +kernel
theorem dX6_colours_123 : decode cX6_colours 123 = .ok (.aload_n 0, 1) := by decide +kernel
theorem dX6_colours_124 : decode cX6_colours 124 = .ok (.getfield 36, 3) := by decide +kernel
theorem dX6_colours_127 : decode cX6_colours 127 = .ok (.invokestatic 221, 3) := by decide +kernel
theorem dX6_colours_130 : decode cX6_colours 130 = .ok (.iadd, 1) := by decide +kernel
theorem dX6_colours_131 : decode cX6_colours 131 = .ok (.istore_n 2, 1) := by decide +kernel
theorem dX6_colours_132 : decode cX6_colours 132 = .ok (.aload_n 0, 1) := by decide +kernel
theorem dX6_colours_133 : decode cX6_colours 133 = .ok (.iconst 0, 1) := by decide +kernel
theorem dX6_colours_134 : decode cX6_colours 134 = .ok (.aload_n 0, 1) := by decide +kernel
theorem dX6_colours_135 : decode cX6_colours 135 = .ok (.getfield 39, 3) := by decide +kernel
theorem dX6_colours_138 : decode cX6_colours 138 = .ok (.invokevirtual 225, 3) := by decide +kernel
theorem dX6_colours_141 : decode cX6_colours 141 = .ok (.aload_n 0, 1) := by decide +kernel
theorem dX6_colours_142 : decode cX6_colours 142 = .ok (.iconst 1, 1) := by decide +kernel
theorem dX6_colours_143 : decode cX6_colours 143 = .ok (.aload_n 0, 1) := by decide +kernel
theorem dX6_colours_144 : decode cX6_colours 144 = .ok (.getfield 42, 3) := by decide +kernel
theorem dX6_colours_147 : decode cX6_colours 147 = .ok (.invokevirtual 225, 3) := by decide +kernel
theorem dX6_colours_150 : decode cX6_colours 150 = .ok (.iconst 0, 1) := by decide +kernel
theorem dX6_colours_151 : decode cX6_colours 151 = .ok (.istore_n 3, 1) := by decide +kernel
theorem dX6_colours_152 : decode cX6_colours 152 = .ok (.iload_n 3, 1) := by decide +kernel
theorem dX6_colours_153 : decode cX6_colours 153 = .ok (.bipush 20, 2) := by decide +kernel
theorem dX6_colours_155 : decode cX6_colours 155 = .ok (.if_icmp .ge 33, 3) := by decide +kernel
theorem dX6_colours_158 : decode cX6_colours 158 = .ok (.aload_n 0, 1) := by decide +kernel
theorem dX6_colours_159 : decode cX6_colours 159 = .ok (.getfield 33, 3) := by decide +kernel
theorem dX6_colours_162 : decode cX6_colours 162 = .ok (.iload_n 3, 1) := by decide +kernel
theorem dX6_colours_163 : decode cX6_colours 163 = .ok (.aload_n 0, 1) := by decide +kernel
theorem dX6_colours_164 : decode cX6_colours 164 = .ok (.getfield 39, 3) := by decide +kernel
theorem dX6_colours_167 : decode cX6_colours 167 = .ok (.iload_n 3, 1) := by decide +kernel
theorem dX6_colours_168 : decode cX6_colours 168 = .ok (.iaload, 1) := by decide +kernel
theorem dX6_colours_169 : decode cX6_colours 169 = .ok (.iastore, 1) := by decide +kernel
theorem dX6_colours_170 : decode cX6_colours 170 = .ok (.aload_n 0, 1) := by decide +kernel
theorem dX6_colours_171 : decode cX6_colours 171 = .ok (.getfield 36, 3) := by decide +kernel
theorem dX6_colours_174 : decode cX6_colours 174 = .ok (.iload_n 3, 1) := by decide +kernel
theorem dX6_colours_175 : decode cX6_colours 175 = .ok (.aload_n 0, 1) := by decide +kernel
theorem dX6_colours_176 : decode cX6_colours 176 = .ok (.getfield 42, 3) := by decide +kernel
theorem dX6_colours_179 : decode cX6_colours 179 = .ok (.iload_n 3, 1) := by decide +kernel
theorem dX6_colours_180 : decode cX6_colours 180 = .ok (.iaload, 1) := by decide +kernel
theorem dX6_colours_181 : decode cX6_colours 181 = .ok (.iastore, 1) := by decide +kernel
theorem dX6_colours_182 : decode cX6_colours 182 = .ok (.iinc 3 1, 3) := by decide +kernel
theorem dX6_colours_185 : decode cX6_colours 185 = .ok (.goto (-33), 3) := by decide +kernel
theorem dX6_colours_188 : decode cX6_colours 188 = .ok (.aload_n 0, 1) := by decide +kernel
theorem dX6_colours_189 : decode cX6_colours 189 = .ok (.getfield 33, 3) := by decide +kernel
theorem dX6_colours_192 : decode cX6_colours 192 = .ok (.invokestatic 221, 3) := by decide +kernel
theorem dX6_colours_195 : decode cX6_colours 195 = .ok (.aload_n 0, 1) := by decide +kernel
theorem dX6_colours_196 : decode cX6_colours 196 = .ok (.getfield 36, 3) := by decide +kernel
theorem dX6_colours_199 : decode cX6_colours 199 = .ok (.invokestatic 221, 3) := by decide +kernel
theorem dX6_colours_202 : decode cX6_colours 202 = .ok (.iadd, 1) := by decide +kernel
theorem dX6_colours_203 : decode cX6_colours 203 = .ok (.iload_n 2, 1) := by decide +kernel
theorem dX6_colours_204 : decode cX6_colours 204 = .ok (.if_icmp .le 7, 3) := by decide +kernel
theorem dX6_colours_211 : decode cX6_colours 211 = .ok (.iconst 0, 1) := by decide +kernel
theorem dX6_colours_212 : decode cX6_colours 212 = .ok (.istore_n 1, 1) := by decide +kernel
theorem dX6_colours_213 : decode cX6_colours 213 = .ok (.aload_n 0, 1) := by decide +kernel
theorem dX6_colours_214 : decode cX6_colours 214 = .ok (.dup, 1) := by decide +kernel
theorem dX6_colours_215 : decode cX6_colours 215 = .ok (.getfield 218, 3) := by decide +kernel
theorem dX6_colours_218 : decode cX6_colours 218 = .ok (.iload_n 1, 1) := by decide +kernel
theorem dX6_colours_219 : decode cX6_colours 219 = .ok (.ifCond .eq 7, 3) := by decide +kernel
theorem dX6_colours_226 : decode cX6_colours 226 = .ok (.iconst 0, 1) := by decide +kernel
theorem dX6_colours_227 : decode cX6_colours 227 = .ok (.iadd, 1) := by decide +kernel
theorem dX6_colours_228 : decode cX6_colours 228 = .ok (.putfield 218, 3) := by decide +kernel
theorem dX6_colours_231 : decode cX6_colours 231 = .ok (.goto (-119), 3) := by decide +kernel
theorem dX6_colours_234 : decode cX6_colours 234 = .ok (.return_, 1) := by decide +kernel
theorem dX6_firstNumbers_0 : decode cX6_firstNumbers 0 = .ok (.aload_n 0, 1) := by decide +kernel
theorem dX6_firstNumbers_1 : decode cX6_firstNumbers 1 = .ok (.invokevirtual 229, 3) := by decide +kernel
theorem dX6_firstNumbers_4 : decode cX6_firstNumbers 4 = .ok (.checkcast 230, 3) := by decide +kernel
theorem dX6_firstNumbers_7 : decode cX6_firstNumbers 7 = .ok (.astore_n 1, 1) := by decide +kernel
theorem dX6_firstNumbers_8 : decode cX6_firstNumbers 8 = .ok (.iconst 0, 1) := by decide +kernel
theorem dX6_firstNumbers_9 : decode cX6_firstNumbers 9 = .ok (.istore_n 2, 1) := by decide +kernel
theorem dX6_firstNumbers_10 : decode cX6_firstNumbers 10 = .ok (.iload_n 2, 1) := by decide +kernel
theorem dX6_firstNumbers_11 : decode cX6_firstNumbers 11 = .ok (.aload_n 1, 1) := by decide +kernel
theorem dX6_firstNumbers_12 : decode cX6_firstNumbers 12 = .ok (.arraylength, 1) := by decide +kernel
theorem dX6_firstNumbers_13 : decode cX6_firstNumbers 13 = .ok (.if_icmp .ge 82, 3) := by decide +kernel
theorem dX6_firstNumbers_16 : decode cX6_firstNumbers 16 = .ok (.aload_n 0, 1) := by decide +kernel
theorem dX6_firstNumbers_17 : decode cX6_firstNumbers 17 = .ok (.iload_n 2, 1) := by decide +kernel
theorem dX6_firstNumbers_18 : decode cX6_firstNumbers 18 = .ok (.iconst (-1), 1) := by decide +kernel
theorem dX6_firstNumbers_19 : decode cX6_firstNumbers 19 = .ok (.iastore, 1) := by decide +kernel
theorem dX6_firstNumbers_20 : decode cX6_firstNumbers 20 = .ok (.iconst 0, 1) := by decide +kernel
theorem dX6_firstNumbers_21 : decode cX6_firstNumbers 21 = .ok (.istore_n 3, 1) := by decide +kernel
theorem dX6_firstNumbers_22 : decode cX6_firstNumbers 22 = .ok (.iload_n 3, 1) := by decide +kernel
theorem dX6_firstNumbers_23 : decode cX6_firstNumbers 23 = .ok (.iload_n 2, 1) := by decide +kernel
theorem dX6_firstNumbers_24 : decode cX6_firstNumbers 24 = .ok (.if_icmp .ge 37, 3) := by decide +kernel
theorem dX6_firstNumbers_27 : decode cX6_firstNumbers 27 = .ok (.aload_n 1, 1) := by decide +kernel
theorem dX6_firstNumbers_28 : decode cX6_firstNumbers 28 = .ok (.iload_n 2, 1) := by decide +kernel
theorem dX6_firstNumbers_29 : decode cX6_firstNumbers 29 = .ok (.iaload, 1) := by decide +kernel
theorem dX6_firstNumbers_30 : decode cX6_firstNumbers 30 = .ok (.iconst (-1), 1) := by decide +kernel
theorem dX6_firstNumbers_31 : decode cX6_firstNumbers 31 = .ok (.if_icmp .eq 30, 3) := by decide +kernel
theorem dX6_firstNumbers_61 : decode cX6_firstNumbers 61 = .ok (.aload_n 0, 1) := by decide +kernel
theorem dX6_firstNumbers_62 : decode cX6_firstNumbers 62 = .ok (.iload_n 2, 1) := by decide +kernel
theorem dX6_firstNumbers_63 : decode cX6_firstNumbers 63 = .ok (.aload_n 1, 1) := by decide +kernel
theorem dX6_firstNumbers_64 : decode cX6_firstNumbers 64 = .ok (.iload_n 2, 1) := by decide +kernel
theorem dX6_firstNumbers_65 : decode cX6_firstNumbers 65 = .ok (.iaload, 1) := by decide +kernel
theorem dX6_firstNumbers_66 : decode cX6_firstNumbers 66 = .ok (.iconst (-1), 1) := by decide +kernel
theorem dX6_firstNumbers_67 : decode cX6_firstNumbers 67 = .ok (.if_icmp .eq 18, 3) := by decide +kernel
theorem dX6_firstNumbers_85 : decode cX6_firstNumbers 85 = .ok (.aload_n 0, 1) := by decide +kernel
theorem dX6_firstNumbers_86 : decode cX6_firstNumbers 86 = .ok (.iload_n 2, 1) := by decide +kernel
theorem dX6_firstNumbers_87 : decode cX6_firstNumbers 87 = .ok (.iaload, 1) := by decide +kernel
theorem dX6_firstNumbers_88 : decode cX6_firstNumbers 88 = .ok (.iastore, 1) := by decide +kernel
theorem dX6_firstNumbers_89 : decode cX6_firstNumbers 89 = .ok (.iinc 2 1, 3) := by decide +kernel
theorem dX6_firstNumbers_92 : decode cX6_firstNumbers 92 = .ok (.goto (-82), 3) := by decide +kernel
theorem dX6_firstNumbers_95 : decode cX6_firstNumbers 95 = .ok (.return_, 1) := by decide +kernel
theorem dX6_mapsParts_0 : decode cX6_mapsParts 0 = .ok (.bipush 10, 2) := by decide +kernel
theorem dX6_mapsParts_2 : decode cX6_mapsParts 2 = .ok (.newarray .boolean, 2) := by decide +kernel
theorem dX6_mapsParts_4 : decode cX6_mapsParts 4 = .ok (.astore_n 2, 1) := by decide +kernel
theorem dX6_mapsParts_5 : decode cX6_mapsParts 5 = .ok (.iconst 1, 1) := by decide +kernel
theorem dX6_mapsParts_6 : decode cX6_mapsParts 6 = .ok (.istore_n 3, 1) := by decide +kernel
theorem dX6_mapsParts_7 : decode cX6_mapsParts 7 = .ok (.iconst 0, 1) := by decide +kernel
theorem dX6_mapsParts_8 : decode cX6_mapsParts 8 = .ok (.istore 4, 2) := by decide +kernel
theorem dX6_mapsParts_10 : decode cX6_mapsParts 10 = .ok (.iload 4, 2) := by decide +kernel
theorem dX6_mapsParts_12 : decode cX6_mapsParts 12 = .ok (.aload_n 0, 1) := by decide +kernel
theorem dX6_mapsParts_13 : decode cX6_mapsParts 13 = .ok (.getfield 13, 3) := by decide +kernel
theorem dX6_mapsParts_16 : decode cX6_mapsParts 16 = .ok (.iconst 0, 1) := by decide +kernel
theorem dX6_mapsParts_17 : decode cX6_mapsParts 17 = .ok (.iaload, 1) := by decide +kernel
theorem dX6_mapsParts_18 : decode cX6_mapsParts 18 = .ok (.if_icmp .ge 180, 3) := by decide +kernel
theorem dX6_mapsParts_198 : decode cX6_mapsParts 198 = .ok (.iconst 0, 1) := by decide +kernel
theorem dX6_mapsParts_199 : decode cX6_mapsParts 199 = .ok (.istore 4, 2) := by decide +kernel
theorem dX6_mapsParts_201 : decode cX6_mapsParts 201 = .ok (.iload 4, 2) := by decide +kernel
theorem dX6_mapsParts_203 : decode cX6_mapsParts 203 = .ok (.aload_n 0, 1) := by decide +kernel
theorem dX6_mapsParts_204 : decode cX6_mapsParts 204 = .ok (.getfield 13, 3) := by decide +kernel
theorem dX6_mapsParts_207 : decode cX6_mapsParts 207 = .ok (.iconst 1, 1) := by decide +kernel
theorem dX6_mapsParts_208 : decode cX6_mapsParts 208 = .ok (.iaload, 1) := by decide +kernel
theorem dX6_mapsParts_209 : decode cX6_mapsParts 209 = .ok (.if_icmp .ge 47, 3) := by decide +kernel
theorem dX6_mapsParts_256 : decode cX6_mapsParts 256 = .ok (.iload_n 3, 1) := by decide +kernel
theorem dX6_mapsParts_257 : decode cX6_mapsParts 257 = .ok (.ireturn, 1) := by decide +kernel
theorem dX6_maps_0 : decode cX6_maps 0 = .ok (.iload_n 1, 1) := by decide +kernel
theorem dX6_maps_1 : decode cX6_maps 1 = .ok (.aload_n 0, 1) := by decide +kernel
theorem dX6_maps_2 : decode cX6_maps 2 = .ok (.getfield 7, 3) := by decide +kernel
theorem dX6_maps_5 : decode cX6_maps 5 = .ok (.iconst 0, 1) := by decide +kernel
theorem dX6_maps_6 : decode cX6_maps 6 = .ok (.iaload, 1) := by decide +kernel
theorem dX6_maps_7 : decode cX6_maps 7 = .ok (.if_icmp .ne 5, 3) := by decide +kernel
theorem dX6_maps_10 : decode cX6_maps 10 = .ok (.iconst 1, 1) := by decide +kernel
theorem dX6_maps_11 : decode cX6_maps 11 = .ok (.ireturn, 1) := by decide +kernel
set_option maxRecDepth 20000 in
theorem ggX6_matches_X6_colours : GoodIn wsX6_matches wsX6_colours := goodIn_ca (goodIn_r _ [6, 7, 8, 9, 10, 11, 12, 13, 14, 15, 16, 17, 5, 18, 19, 20, 21, 22, 23, 24, 25, 26, 27, 28, 29, 30, 31, 1, 32, 33, 34, 35, 36, 37, 38, 39, 40, 41, 42, 43, 44, 45, 46, 47, 48, 49, 50, 51, 52, 53, 54, 55, 56, 57, 58, 59, 60, 61, 62, 63, 64, 65, 66, 67, 68, 69, 70, 71, 72, 73, 74, 75, 76, 77, 78, 79, 80, 81, 82, 83, 84, 85, 86, 87, 88, 89, 90, 91, 92, 93, 94, 122, 123, 124, 125, 126, 127, 128, 129, 130, 131, 132, 133, 134, 135, 136, 137, 138, 139, 140] (by decide +kernel) (by decide +kernel)) (goodIn_sub (fun _ h => List.mem_cons_of_mem _ (List.mem_append_right _ h)) (by decide +kernel))
set_option maxRecDepth 20000 in
theorem gX6_matches_X6_colours : GoodIn wsX6_matches (wsV RX6 234 RX6 yX6_colours wsX6_colours) := goodIn_app (goodIn_of _ (by decide +kernel)) ggX6_matches_X6_colours
set_option maxRecDepth 20000 in
theorem ggX6_matches_X6_partMany : GoodIn wsX6_matches wsX6_partMany := goodIn_ca (goodIn_r _ [98, 23, 19, 20, 21, 5, 22, 24, 25, 26, 27, 122, 123, 124, 125, 126, 127, 128, 129, 130, 131, 132, 133, 134, 135, 136, 137, 138, 139, 140] (by decide +kernel) (by decide +kernel)) (goodIn_sub (fun _ h => List.mem_cons_of_mem _ (List.mem_append_right _ h)) (by decide +kernel))
set_option maxRecDepth 20000 in
theorem gX6_matches_X6_partMany : GoodIn wsX6_matches (wsV RX6 101 RX6 yX6_partMany wsX6_partMany) := goodIn_app (goodIn_of _ (by decide +kernel)) ggX6_matches_X6_partMany
set_option maxRecDepth 20000 in
theorem ggX6_matches_X6_maps : GoodIn wsX6_matches wsX6_maps := goodIn_ca (goodIn_r _ [102, 1, 7, 103, 104, 105, 106, 5, 107, 108, 23, 109, 19, 20, 21, 22, 24, 25, 26, 27, 110, 111, 112, 113, 36, 37, 38, 39, 10, 40, 41, 42, 43, 44, 45, 46, 47, 114, 115, 116, 117, 118, 119, 120, 121, 11, 99, 100, 101, 122, 123, 124, 125, 126, 127, 128, 129, 130, 131, 132, 133, 134, 135, 136, 137, 138, 139, 140] (by decide +kernel) (by decide +kernel)) (goodIn_sub (fun _ h => List.mem_cons_of_mem _ (List.mem_append_right _ h)) (by decide +kernel))
set_option maxRecDepth 20000 in
theorem gX6_matches_X6_maps : GoodIn wsX6_matches (wsV RX6 250 RX6 yX6_maps wsX6_maps) := goodIn_app (goodIn_of _ (by decide +kernel)) ggX6_matches_X6_maps
set_option maxRecDepth 20000 in
theorem ggX6_matches_X6_mapsParts : GoodIn wsX6_matches wsX6_mapsParts := goodIn_ca (goodIn_r _ [107, 108, 23, 109, 19, 20, 21, 5, 22, 24, 25, 26, 27, 110, 111, 112, 113, 103, 36, 37, 38, 39, 10, 40, 41, 42, 43, 44, 45, 46, 47, 114, 115, 116, 117, 118, 119, 120, 121, 11, 122, 123, 124, 125, 126, 127, 128, 129, 130, 131, 132, 133, 134, 135, 136, 137, 138, 139, 140] (by decide +kernel) (by decide +kernel)) (goodIn_sub (fun _ h => List.mem_cons_of_mem _ (List.mem_append_right _ h)) (by decide +kernel))
set_option maxRecDepth 20000 in
theorem gX6_matches_X6_mapsParts : GoodIn wsX6_matches (wsV RX6 247 RX6 yX6_mapsParts wsX6_mapsParts) := goodIn_app (goodIn_of _ (by decide +kernel)) ggX6_matches_X6_mapsParts
theorem dX6_matches_0 : decode cX6_matches 0 = .ok (.aload_n 0, 1) := by decide +kernel
theorem dX6_matches_1 : decode cX6_matches 1 = .ok (.invokevirtual 234, 3) := by decide +kernel
theorem dX6_matches_4 : decode cX6_matches 4 = .ok (.aload_n 0, 1) := by decide +kernel
theorem dX6_matches_5 : decode cX6_matches 5 = .ok (.getfield 7, 3) := by decide +kernel
theorem dX6_matches_8 : decode cX6_matches 8 = .ok (.iconst 0, 1) := by decide +kernel
theorem dX6_matches_9 : decode cX6_matches 9 = .ok (.iaload, 1) := by decide +kernel
theorem dX6_matches_10 : decode cX6_matches 10 = .ok (.aload_n 0, 1) := by decide +kernel
theorem dX6_matches_11 : decode cX6_matches 11 = .ok (.getfield 7, 3) := by decide +kernel
theorem dX6_matches_14 : decode cX6_matches 14 = .ok (.iconst 1, 1) := by decide +kernel
theorem dX6_matches_15 : decode cX6_matches 15 = .ok (.iaload, 1) := by decide +kernel
theorem dX6_matches_16 : decode cX6_matches 16 = .ok (.if_icmp .ne 20, 3) := by decide +kernel
theorem dX6_matches_19 : decode cX6_matches 19 = .ok (.aload_n 0, 1) := by decide +kernel
theorem dX6_matches_20 : decode cX6_matches 20 = .ok (.iconst 0, 1) := by decide +kernel
theorem dX6_matches_21 : decode cX6_matches 21 = .ok (.invokevirtual 101, 3) := by decide +kernel
theorem dX6_matches_24 : decode cX6_matches 24 = .ok (.aload_n 0, 1) := by decide +kernel
theorem dX6_matches_25 : decode cX6_matches 25 = .ok (.iconst 1, 1) := by decide +kernel
theorem dX6_matches_26 : decode cX6_matches 26 = .ok (.invokevirtual 101, 3) := by decide +kernel
theorem dX6_matches_29 : decode cX6_matches 29 = .ok (.if_icmp .ne 7, 3) := by decide +kernel
theorem dX6_matches_32 : decode cX6_matches 32 = .ok (.iconst 1, 1) := by decide +kernel
theorem dX6_matches_33 : decode cX6_matches 33 = .ok (.goto 4, 3) := by decide +kernel
theorem dX6_matches_37 : decode cX6_matches 37 = .ok (.istore_n 1, 1) := by decide +kernel
theorem dX6_matches_38 : decode cX6_matches 38 = .ok (.iload_n 1, 1) := by decide +kernel
theorem dX6_matches_39 : decode cX6_matches 39 = .ok (.ifCond .eq 28, 3) := by decide +kernel
theorem dX6_matches_42 : decode cX6_matches 42 = .ok (.aload_n 0, 1) := by decide +kernel
theorem dX6_matches_43 : decode cX6_matches 43 = .ok (.iconst 0, 1) := by decide +kernel
theorem dX6_matches_44 : decode cX6_matches 44 = .ok (.invokevirtual 250, 3) := by decide +kernel
theorem dX6_matches_47 : decode cX6_matches 47 = .ok (.ifCond .eq 20, 3) := by decide +kernel
theorem dX6_matches_50 : decode cX6_matches 50 = .ok (.aload_n 0, 1) := by decide +kernel
theorem dX6_matches_51 : decode cX6_matches 51 = .ok (.aload_n 0, 1) := by decide +kernel
theorem dX6_matches_52 : decode cX6_matches 52 = .ok (.getfield 7, 3) := by decide +kernel
theorem dX6_matches_55 : decode cX6_matches 55 = .ok (.iconst 0, 1) := by decide +kernel
theorem dX6_matches_56 : decode cX6_matches 56 = .ok (.iaload, 1) := by decide +kernel
theorem dX6_matches_57 : decode cX6_matches 57 = .ok (.invokevirtual 247, 3) := by decide +kernel
theorem dX6_matches_60 : decode cX6_matches 60 = .ok (.ifCond .eq 7, 3) := by decide +kernel
theorem dX6_matches_63 : decode cX6_matches 63 = .ok (.iconst 1, 1) := by decide +kernel
theorem dX6_matches_64 : decode cX6_matches 64 = .ok (.goto 4, 3) := by decide +kernel
theorem dX6_matches_68 : decode cX6_matches 68 = .ok (.ireturn, 1) := by decide +kernel
theorem dX6_isLarge_0 : decode cX6_isLarge 0 = .ok (.aload_n 0, 1) := by decide +kernel
theorem dX6_isLarge_1 : decode cX6_isLarge 1 = .ok (.getfield 7, 3) := by decide +kernel
theorem dX6_isLarge_4 : decode cX6_isLarge 4 = .ok (.iconst 0, 1) := by decide +kernel
theorem dX6_isLarge_5 : decode cX6_isLarge 5 = .ok (.iaload, 1) := by decide +kernel
theorem dX6_isLarge_6 : decode cX6_isLarge 6 = .ok (.bipush 6, 2) := by decide +kernel
theorem dX6_isLarge_8 : decode cX6_isLarge 8 = .ok (.if_icmp .gt 14, 3) := by decide +kernel
theorem dX6_isLarge_11 : decode cX6_isLarge 11 = .ok (.aload_n 0, 1) := by decide +kernel
theorem dX6_isLarge_12 : decode cX6_isLarge 12 = .ok (.getfield 7, 3) := by decide +kernel
theorem dX6_isLarge_15 : decode cX6_isLarge 15 = .ok (.iconst 1, 1) := by decide +kernel
theorem dX6_isLarge_16 : decode cX6_isLarge 16 = .ok (.iaload, 1) := by decide +kernel
theorem dX6_isLarge_17 : decode cX6_isLarge 17 = .ok (.bipush 6, 2) := by decide +kernel
theorem dX6_isLarge_19 : decode cX6_isLarge 19 = .ok (.if_icmp .le 7, 3) := by decide +kernel
theorem dX6_isLarge_26 : decode cX6_isLarge 26 = .ok (.iconst 0, 1) := by decide +kernel
theorem dX6_isLarge_27 : decode cX6_isLarge 27 = .ok (.ireturn, 1) := by decide +kernel
set_option maxRecDepth 20000 in
theorem ggX6_unequal_X6_classes : GoodIn wsX6_unequal wsX6_classes := goodIn_ca (goodIn_r _ [6, 7, 8, 5, 9, 10, 11, 12, 13] (by decide +kernel) (by decide +kernel)) (goodIn_sub (fun _ h => List.mem_cons_of_mem _ (List.mem_append_right _ h)) (by decide +kernel))
set_option maxRecDepth 20000 in
theorem gX6_unequal_X6_classes : GoodIn wsX6_unequal (va_wsS RX6 221 yX6_classes wsX6_classes) := goodIn_app (goodIn_of _ (by decide +kernel)) ggX6_unequal_X6_classes
theorem dX6_unequal_0 : decode cX6_unequal 0 = .ok (.iconst 0, 1) := by decide +kernel
theorem dX6_unequal_1 : decode cX6_unequal 1 = .ok (.istore_n 1, 1) := by decide +kernel
theorem dX6_unequal_2 : decode cX6_unequal 2 = .ok (.iconst 0, 1) := by decide +kernel
theorem dX6_unequal_3 : decode cX6_unequal 3 = .ok (.istore_n 2, 1) := by decide +kernel
theorem dX6_unequal_4 : decode cX6_unequal 4 = .ok (.iload_n 2, 1) := by decide +kernel
theorem dX6_unequal_5 : decode cX6_unequal 5 = .ok (.aload_n 0, 1) := by decide +kernel
theorem dX6_unequal_6 : decode cX6_unequal 6 = .ok (.getfield 33, 3) := by decide +kernel
theorem dX6_unequal_9 : decode cX6_unequal 9 = .ok (.invokestatic 221, 3) := by decide +kernel
theorem dX6_unequal_12 : decode cX6_unequal 12 = .ok (.if_icmp .ge 27, 3) := by decide +kernel
theorem dX6_unequal_39 : decode cX6_unequal 39 = .ok (.iconst 0, 1) := by decide +kernel
theorem dX6_unequal_40 : decode cX6_unequal 40 = .ok (.istore_n 2, 1) := by decide +kernel
theorem dX6_unequal_41 : decode cX6_unequal 41 = .ok (.iload_n 2, 1) := by decide +kernel
theorem dX6_unequal_42 : decode cX6_unequal 42 = .ok (.aload_n 0, 1) := by decide +kernel
theorem dX6_unequal_43 : decode cX6_unequal 43 = .ok (.getfield 36, 3) := by decide +kernel
theorem dX6_unequal_46 : decode cX6_unequal 46 = .ok (.invokestatic 221, 3) := by decide +kernel
theorem dX6_unequal_49 : decode cX6_unequal 49 = .ok (.if_icmp .ge 27, 3) := by decide +kernel
theorem dX6_unequal_76 : decode cX6_unequal 76 = .ok (.iload_n 1, 1) := by decide +kernel
theorem dX6_unequal_77 : decode cX6_unequal 77 = .ok (.ireturn, 1) := by decide +kernel
set_option maxRecDepth 20000 in
theorem ggX6_finds_X6_colours : GoodIn wsX6_finds wsX6_colours := goodIn_ca (goodIn_r _ [10, 2, 11, 3, 12, 13, 14, 15, 16, 17, 18, 19, 9, 20, 21, 22, 23, 24, 25, 26, 27, 28, 29, 30, 31, 32, 33, 34, 35, 36, 37, 38, 39, 40, 41, 42, 43, 44, 45, 46, 47, 48, 49, 50, 51, 52, 53, 54, 55, 56, 57, 58, 59, 60, 61, 62, 63, 64, 65, 66, 67, 68, 69, 70, 71, 72, 73, 74, 75, 76, 77, 78, 79, 80, 81, 82, 83, 84, 85, 86, 87, 88, 89, 90, 91, 92, 93, 94, 95, 96, 97, 128, 129, 130, 131, 132, 133, 134, 135, 136, 137, 138, 139, 140, 141, 142, 143, 144, 145, 146] (by decide +kernel) (by decide +kernel)) (goodIn_sub (fun _ h => List.mem_cons_of_mem _ (List.mem_append_right _ h)) (by decide +kernel))
set_option maxRecDepth 20000 in
theorem gX6_finds_X6_colours : GoodIn wsX6_finds (wsV RX6 234 RX6 yX6_colours wsX6_colours) := goodIn_app (goodIn_of _ (by decide +kernel)) ggX6_finds_X6_colours
set_option maxRecDepth 20000 in
theorem ggX6_finds_X6_unequal : GoodIn wsX6_finds wsX6_unequal := goodIn_ca (goodIn_r _ [101, 2, 3, 67, 68, 9, 69, 60, 61, 62, 63, 64, 65, 66, 102, 103, 104, 105, 106, 107, 108, 109, 110, 111, 112, 113, 114, 115, 12, 116, 117, 118, 119, 120, 34, 11, 25, 21, 22, 23, 24, 26, 27, 28, 29, 121, 122, 123, 124, 39, 40, 41, 42, 43, 44, 45, 46, 47, 48, 49, 50, 125, 126, 127, 128, 129, 130, 131, 132, 133, 134, 135, 136, 137, 138, 139, 140, 141, 142, 143, 144, 145, 146] (by decide +kernel) (by decide +kernel)) (goodIn_sub (fun _ h => List.mem_cons_of_mem _ (List.mem_append_right _ h)) (by decide +kernel))
set_option maxRecDepth 20000 in
theorem gX6_finds_X6_unequal : GoodIn wsX6_finds (wsV RX6 270 RX6 yX6_unequal wsX6_unequal) := goodIn_app (goodIn_of _ (by decide +kernel)) ggX6_finds_X6_unequal
set_option maxRecDepth 20000 in
theorem ggX6_finds_X6_in : GoodIn wsX6_finds wsX6_in := goodIn_r _ [29] (by decide +kernel) (by decide +kernel)
set_option maxRecDepth 20000 in
theorem gX6_finds_X6_in : GoodIn wsX6_finds (va_wsS RX6 61 yX6_in wsX6_in) := goodIn_app (goodIn_of _ (by decide +kernel)) ggX6_finds_X6_in
theorem dX6_finds_0 : decode cX6_finds 0 = .ok (.aload_n 0, 1) := by decide +kernel
theorem dX6_finds_1 : decode cX6_finds 1 = .ok (.invokevirtual 234, 3) := by decide +kernel
theorem dX6_finds_4 : decode cX6_finds 4 = .ok (.aload_n 0, 1) := by decide +kernel
theorem dX6_finds_5 : decode cX6_finds 5 = .ok (.iload_n 1, 1) := by decide +kernel
theorem dX6_finds_6 : decode cX6_finds 6 = .ok (.i2l, 1) := by decide +kernel
theorem dX6_finds_7 : decode cX6_finds 7 = .ok (.lconst 0, 1) := by decide +kernel
theorem dX6_finds_8 : decode cX6_finds 8 = .ok (.aload_n 0, 1) := by decide +kernel
theorem dX6_finds_9 : decode cX6_finds 9 = .ok (.invokevirtual 270, 3) := by decide +kernel
theorem dX6_finds_12 : decode cX6_finds 12 = .ok (.iconst 1, 1) := by decide +kernel
theorem dX6_finds_13 : decode cX6_finds 13 = .ok (.isub, 1) := by decide +kernel
theorem dX6_finds_14 : decode cX6_finds 14 = .ok (.i2l, 1) := by decide +kernel
theorem dX6_finds_15 : decode cX6_finds 15 = .ok (.invokestatic 61, 3) := by decide +kernel
theorem dX6_finds_18 : decode cX6_finds 18 = .ok (.ifCond .eq 7, 3) := by decide +kernel
theorem dX6_finds_25 : decode cX6_finds 25 = .ok (.iconst 1, 1) := by decide +kernel
theorem dX6_finds_26 : decode cX6_finds 26 = .ok (.putfield 57, 3) := by decide +kernel
theorem dX6_finds_29 : decode cX6_finds 29 = .ok (.iconst (-1), 1) := by decide +kernel
theorem dX6_finds_30 : decode cX6_finds 30 = .ok (.istore_n 2, 1) := by decide +kernel
theorem dX6_finds_31 : decode cX6_finds 31 = .ok (.iconst 0, 1) := by decide +kernel
theorem dX6_finds_32 : decode cX6_finds 32 = .ok (.istore_n 3, 1) := by decide +kernel
theorem dX6_finds_33 : decode cX6_finds 33 = .ok (.iload_n 3, 1) := by decide +kernel
theorem dX6_finds_34 : decode cX6_finds 34 = .ok (.iload_n 1, 1) := by decide +kernel
theorem dX6_finds_35 : decode cX6_finds 35 = .ok (.if_icmp .gt 137, 3) := by decide +kernel
theorem dX6_finds_38 : decode cX6_finds 38 = .ok (.aload_n 0, 1) := by decide +kernel
theorem dX6_finds_39 : decode cX6_finds 39 = .ok (.getfield 57, 3) := by decide +kernel
theorem dX6_finds_42 : decode cX6_finds 42 = .ok (.ifCond .ne 130, 3) := by decide +kernel
theorem dX6_finds_172 : decode cX6_finds 172 = .ok (.aload_n 0, 1) := by decide +kernel
theorem dX6_finds_173 : decode cX6_finds 173 = .ok (.getfield 57, 3) := by decide +kernel
theorem dX6_finds_176 : decode cX6_finds 176 = .ok (.ifCond .ne 7, 3) := by decide +kernel
theorem dX6_finds_183 : decode cX6_finds 183 = .ok (.iconst 0, 1) := by decide +kernel
theorem dX6_finds_184 : decode cX6_finds 184 = .ok (.ireturn, 1) := by decide +kernel
set_option maxHeartbeats 4000000 in
set_option maxRecDepth 100000 in
/-- isCircuit -/
theorem kX6_isCircuit (l : Launch) (dC : Nat → ClassId) (dI : Nat → Nat → Nat) (p0 : Int32) (sz : Nat) : fMi l yX6_isCircuit wsX6_isCircuit ({ frames := 0, cells := 0, slots := 0, locals := 0 } : Room) dC dI [.int p0] [] [] sz (fun (r : Int32) (u : Unit) => r = 1 ∧ (p0 = 0 ∨ p0 = 1) ∨ r = 0 ∧ ¬ (p0 = 0 ∨ p0 = 1)) (fun u => []) (fun u => []) := by
  refine oP_z (y := yX6_isCircuit) (cc := cX6_isCircuit) (maxL := 1) (by decide) rfl (Nat.le_of_ble_eq_true rfl) ?_
  intro p e s m args below meth c ls A Q hx hb hr hml hown hts hN hZ hA hin hlk hP hK hD hl ret
  have hS : va_S A s.heap s.heap [] := va_S.rf
  have hl : lv_has ls 1 [(0, .int p0)] := hl
  have hP : va_P (dC, dI) vwCl [] _ := hP
  have hD : va_D A [] := hD
  refine lv_iload_n hx hb dX6_isCircuit_0 rfl (lv_at hl 0 rfl) ?_
  refine lv_if_eq (tgt := 9) hx hb dX6_isCircuit_1 (by decide) (fun h1 => ?_) (fun h1 => ?_)
  · skip
    refine lv_iconst (v := 1) hx hb dX6_isCircuit_9 (by decide) ?_
    refine lv_goto (tgt := 14) hx hb dX6_isCircuit_10 (by decide) ?_
    exact ret _ () _ _ _ _ _ _ (rfl) (Or.inl ⟨rfl, Or.inl (h1)⟩) (hP.sub [] rfl) (hK.sub [] rfl) (hD.sub [] (by decide) rfl) hS (Nat.le_of_ble_eq_true rfl) (Nat.le_of_ble_eq_true rfl) dX6_isCircuit_14
  · skip
    refine lv_iload_n hx hb dX6_isCircuit_4 rfl (lv_at hl 0 rfl) ?_
    refine lv_iconst (v := 1) hx hb dX6_isCircuit_5 (by decide) ?_
    refine lv_icmp_ne (tgt := 13) hx hb dX6_isCircuit_6 (by decide) (fun h2 => ?_) (fun h2 => ?_)
    · skip
      refine lv_iconst (v := 0) hx hb dX6_isCircuit_13 (by decide) ?_
      exact ret _ () _ _ _ _ _ _ (rfl) (Or.inr ⟨rfl, (fun h9 => h9.elim (h1) (h2))⟩) (hP.sub [] rfl) (hK.sub [] rfl) (hD.sub [] (by decide) rfl) hS (Nat.le_of_ble_eq_true rfl) (Nat.le_of_ble_eq_true rfl) dX6_isCircuit_14
    · skip
      refine lv_iconst (v := 1) hx hb dX6_isCircuit_9 (by decide) ?_
      refine lv_goto (tgt := 14) hx hb dX6_isCircuit_10 (by decide) ?_
      exact ret _ () _ _ _ _ _ _ (rfl) (Or.inl ⟨rfl, Or.inr (h2)⟩) (hP.sub [] rfl) (hK.sub [] rfl) (hD.sub [] (by decide) rfl) hS (Nat.le_of_ble_eq_true rfl) (Nat.le_of_ble_eq_true rfl) dX6_isCircuit_14

set_option maxHeartbeats 4000000 in
set_option maxRecDepth 100000 in
/-- in -/
theorem kX6_in (l : Launch) (dC : Nat → ClassId) (dI : Nat → Nat → Nat) (va vb vc : Int64) (sz : Nat) : fMi l yX6_in wsX6_in ({ frames := 0, cells := 0, slots := 0, locals := 0 } : Room) dC dI [.long va, .long vb, .long vc] [] [] sz (fun (r : Int32) (u : Unit) => r = 1 ∧ ((¬ (va < vb)) ∧ (¬ (vc < va))) ∨ r = 0 ∧ ¬ ((¬ (va < vb)) ∧ (¬ (vc < va)))) (fun u => []) (fun u => []) := by
  refine oP_z (y := yX6_in) (cc := cX6_in) (maxL := 6) (by decide) rfl (Nat.le_of_ble_eq_true rfl) ?_
  intro p e s m args below meth c ls A Q hx hb hr hml hown hts hN hZ hA hin hlk hP hK hD hl ret
  have hS : va_S A s.heap s.heap [] := va_S.rf
  have hl : lv_has ls 6 [(0, .long va), (2, .long vb), (4, .long vc)] := hl
  have hP : va_P (dC, dI) vwCl [] _ := hP
  have hD : va_D A [] := hD
  refine lv_lload_n hx hb dX6_in_0 rfl (lv_at hl 0 rfl) ?_
  refine lv_lload_n hx hb dX6_in_1 rfl (lv_at hl 1 rfl) ?_
  refine W.lcmp hx hb dX6_in_2 ?_
  refine lv_if_lt (tgt := 17) hx hb dX6_in_3 (by decide) (fun h1 => ?_) (fun h1 => ?_)
  · skip
    refine lv_iconst (v := 0) hx hb dX6_in_17 (by decide) ?_
    exact ret _ () _ _ _ _ _ _ (rfl) (Or.inr ⟨rfl, (fun h9 => ((fun h9 => h9 ((fLt _ _).mp h1))) h9.1)⟩) (hP.sub [] rfl) (hK.sub [] rfl) (hD.sub [] (by decide) rfl) hS (Nat.le_of_ble_eq_true rfl) (Nat.le_of_ble_eq_true rfl) dX6_in_18
  · skip
    refine lv_lload_n hx hb dX6_in_6 rfl (lv_at hl 0 rfl) ?_
    refine lv_lload hx hb dX6_in_7 (lv_at hl 2 rfl) ?_
    refine W.lcmp hx hb dX6_in_9 ?_
    refine lv_if_gt (tgt := 17) hx hb dX6_in_10 (by decide) (fun h2 => ?_) (fun h2 => ?_)
    · skip
      refine lv_iconst (v := 0) hx hb dX6_in_17 (by decide) ?_
      exact ret _ () _ _ _ _ _ _ (rfl) (Or.inr ⟨rfl, (fun h9 => ((fun h9 => h9 ((fGt _ _).mp h2))) h9.2)⟩) (hP.sub [] rfl) (hK.sub [] rfl) (hD.sub [] (by decide) rfl) hS (Nat.le_of_ble_eq_true rfl) (Nat.le_of_ble_eq_true rfl) dX6_in_18
    · skip
      refine lv_iconst (v := 1) hx hb dX6_in_13 (by decide) ?_
      refine lv_goto (tgt := 18) hx hb dX6_in_14 (by decide) ?_
      exact ret _ () _ _ _ _ _ _ (rfl) (Or.inl ⟨rfl, ⟨(fun q => h1 ((fLt _ _).mpr q)), (fun q => h2 ((fGt _ _).mpr q))⟩⟩) (hP.sub [] rfl) (hK.sub [] rfl) (hD.sub [] (by decide) rfl) hS (Nat.le_of_ble_eq_true rfl) (Nat.le_of_ble_eq_true rfl) dX6_in_18

set_option maxHeartbeats 4000000 in
set_option maxRecDepth 100000 in
/-- in: an empty range -/
theorem kX6_inE (l : Launch) (dC : Nat → ClassId) (dI : Nat → Nat → Nat) (va : Int64) (sz : Nat) : fMi l yX6_in wsX6_in ({ frames := 0, cells := 0, slots := 0, locals := 0 } : Room) dC dI [.long va, .long 0, .long (-1)] [] [] sz (fun (r : Int32) (u : Unit) => r = 0) (fun u => []) (fun u => []) := by
  refine oP_z (y := yX6_in) (cc := cX6_in) (maxL := 6) (by decide) rfl (Nat.le_of_ble_eq_true rfl) ?_
  intro p e s m args below meth c ls A Q hx hb hr hml hown hts hN hZ hA hin hlk hP hK hD hl ret
  have hS : va_S A s.heap s.heap [] := va_S.rf
  have hl : lv_has ls 6 [(0, .long va), (2, .long 0), (4, .long (-1))] := hl
  have hP : va_P (dC, dI) vwCl [] _ := hP
  have hD : va_D A [] := hD
  refine lv_lload_n hx hb dX6_in_0 rfl (lv_at hl 0 rfl) ?_
  refine lv_lload_n hx hb dX6_in_1 rfl (lv_at hl 1 rfl) ?_
  refine W.lcmp hx hb dX6_in_2 ?_
  refine lv_if_lt (tgt := 17) hx hb dX6_in_3 (by decide) (fun h1 => ?_) (fun h1 => ?_)
  · skip
    refine lv_iconst (v := 0) hx hb dX6_in_17 (by decide) ?_
    exact ret _ () _ _ _ _ _ _ (rfl) (rfl) (hP.sub [] rfl) (hK.sub [] rfl) (hD.sub [] (by decide) rfl) hS (Nat.le_of_ble_eq_true rfl) (Nat.le_of_ble_eq_true rfl) dX6_in_18
  · skip
    refine lv_lload_n hx hb dX6_in_6 rfl (lv_at hl 0 rfl) ?_
    refine lv_lload hx hb dX6_in_7 (lv_at hl 2 rfl) ?_
    refine W.lcmp hx hb dX6_in_9 ?_
    refine lv_if_gt (tgt := 17) hx hb dX6_in_10 (by decide) (fun _ => ?_) (fun h9 => absurd (fEm h1) h9)
    refine lv_iconst (v := 0) hx hb dX6_in_17 (by decide) ?_
    exact ret _ () _ _ _ _ _ _ (rfl) (rfl) (hP.sub [] rfl) (hK.sub [] rfl) (hD.sub [] (by decide) rfl) hS (Nat.le_of_ble_eq_true rfl) (Nat.le_of_ble_eq_true rfl) dX6_in_18

set_option maxHeartbeats 4000000 in
set_option maxRecDepth 100000 in
/-- isNet on a fresh model -/
theorem kX6_isNet0 (l : Launch) (dC : Nat → ClassId) (dI : Nat → Nat → Nat) (k0 kN kA kO kK kV kG kP kC kD kE kF kX kY kT kU : Nat) (cI : ClassId) (p1 : Int32) (sz : Nat) : fMi l yX6_isNet wsX6_isNet ({ frames := 1, cells := 0, slots := 0, locals := 25 } : Room) dC dI [.ref k0, .int 0, .int p1] [(k0, .inr (9, [.ref kN, .ref kA, .ref kO, .ref kK, .ref kV, .ref kG, .ref kP, .ref kC, .ref kD, .ref kE, .ref kF, .ref kX, .ref kY, .int 0, .ref kT, .ref kU, .int 0, .int 0, .int 0])), (kN, .inl (cI, 2, .inl (fun _ => 0)))] [(cI, .int)] sz (fun (r : Int32) (u : Unit) => r = 0) (fun u => [(k0, .inr (9, [.ref kN, .ref kA, .ref kO, .ref kK, .ref kV, .ref kG, .ref kP, .ref kC, .ref kD, .ref kE, .ref kF, .ref kX, .ref kY, .int 0, .ref kT, .ref kU, .int 0, .int 0, .int 0])), (kN, .inl (cI, 2, .inl (fun _ => 0)))]) (fun u => [(cI, .int)]) := by
  refine oP_z (y := yX6_isNet) (cc := cX6_isNet) (maxL := 3) (by decide) rfl (Nat.le_of_ble_eq_true rfl) ?_
  intro p e s m args below meth c ls A Q hx hb hr hml hown hts hN hZ hA hin hlk hP hK hD hl ret
  have hS : va_S A s.heap s.heap [] := va_S.rf
  have hl : lv_has ls 3 [(0, .ref k0), (1, .int 0), (2, .int p1)] := hl
  have hP : va_P (dC, dI) vwCl [(k0, .inr (9, [.ref kN, .ref kA, .ref kO, .ref kK, .ref kV, .ref kG, .ref kP, .ref kC, .ref kD, .ref kE, .ref kF, .ref kX, .ref kY, .int 0, .ref kT, .ref kU, .int 0, .int 0, .int 0])), (kN, .inl (cI, 2, .inl (fun _ => 0)))] _ := hP
  have hD : va_D A [(k0, .inr (9, [.ref kN, .ref kA, .ref kO, .ref kK, .ref kV, .ref kG, .ref kP, .ref kC, .ref kD, .ref kE, .ref kF, .ref kX, .ref kY, .int 0, .ref kT, .ref kU, .int 0, .int 0, .int 0])), (kN, .inl (cI, 2, .inl (fun _ => 0)))] := hD
  refine lv_iload_n hx hb dX6_isNet_0 rfl (lv_at hl 2 rfl) ?_
  refine lv_i2l (v := p1.toInt64) hx hb dX6_isNet_1 rfl ?_
  refine lv_lconst (v := 0) hx hb dX6_isNet_2 (by decide) ?_
  refine lv_aload_n hx hb dX6_isNet_3 rfl (lv_at hl 0 rfl) ?_
  refine va_get (D := (dC, dI)) (ci := 9) (v := .ref kN) (C := RX6) (T := TX6) (N := 19) hx hb hts (fun w h => List.mem_cons_of_mem _ (List.mem_append_left _ (List.mem_append_right _ (h)))) hown hK hP 0 rfl rfl 0 (by decide) (hts (.fieldLink RX6 7 "NetcompareModel" "nets" "[I") (List.mem_cons_of_mem _ (List.mem_append_left _ (List.mem_append_left _ (List.mem_of_getElem? (i := 0) rfl))))) (fun _ h9 => h9) rfl dX6_isNet_4 ?_
  refine lv_iload_n hx hb dX6_isNet_7 rfl (lv_at hl 1 rfl) ?_
  refine va_iald hx hb hK hP 1 0 rfl rfl (show ¬ (_ ∨ _) by decide) dX6_isNet_8 ?_
  refine W.eq (g2 := F0 m 9 ls [.int 0, .long 0, .long p1.toInt64]) rfl ?_
  refine lv_iconst (v := 1) hx hb dX6_isNet_9 (by decide) ?_
  refine lv_isub hx hb dX6_isNet_10 ?_
  refine lv_topi (fun y1 ey1 => ?_)
  obtain rfl : y1 = (-1) := ey1.trans (by decide)
  refine lv_i2l (v := (-1)) hx hb dX6_isNet_11 (by decide) ?_
  have hPc := hP.sub (ws' := []) [] rfl
  have hDc := hD.sub (ws' := []) [] (by decide) rfl
  have hKc := hK.sub (tys' := []) [] rfl
  have hFc := va_free (wc := []) hD hS hA [] rfl
  refine va_calli (va_runS (As := [.long p1.toInt64, .long 0, .long (-1)]) (rest := []) ⟨hx, hb, hml, hown, hts⟩ (kX6_inE l dC dI p1.toInt64 s.heap.size) (va_cwS 3 hts gX6_isNet_X6_in rfl rfl rfl (by decide +kernel) ⟨Nat.le_of_ble_eq_true rfl, Nat.le_of_ble_eq_true rfl⟩) (fPreS hN hZ hS (fun q h => hFc q h) hPc hKc hDc) rfl rfl hl.1 rfl (lv_room (Nat.le_of_ble_eq_true rfl)) dX6_isNet_12 ⟨Nat.le_of_ble_eq_true rfl, Nat.le_of_ble_eq_true rfl⟩) hS (fun q _ h => hFc q h) hFc (fun r u t H1 locs ht hvm hw hB hz1 hk1 hS => ?_)
  obtain ⟨hP1, hK1, hD1⟩ := hB
  rw [ht] at hP1
  have hK1 := va_K.moved hvm.symm hK1
  obtain ⟨hP, hD⟩ := va_join (wr := [(k0, .inr (9, [.ref kN, .ref kA, .ref kO, .ref kK, .ref kV, .ref kG, .ref kP, .ref kC, .ref kD, .ref kE, .ref kF, .ref kX, .ref kY, .int 0, .ref kT, .ref kU, .int 0, .int 0, .int 0])), (kN, .inl (cI, 2, .inl (fun _ => 0)))]) (w1 := []) hP hD [] [0, 1] rfl rfl (by decide) (by decide) hk1 hFc hP1 hD1
  generalize H1 = H at hP hS ⊢
  have hP : va_P (dC, dI) vwCl [(k0, .inr (9, [.ref kN, .ref kA, .ref kO, .ref kK, .ref kV, .ref kG, .ref kP, .ref kC, .ref kD, .ref kE, .ref kF, .ref kX, .ref kY, .int 0, .ref kT, .ref kU, .int 0, .int 0, .int 0])), (kN, .inl (cI, 2, .inl (fun _ => 0)))] _ := hP
  have hD : va_D A [(k0, .inr (9, [.ref kN, .ref kA, .ref kO, .ref kK, .ref kV, .ref kG, .ref kP, .ref kC, .ref kD, .ref kE, .ref kF, .ref kX, .ref kY, .int 0, .ref kT, .ref kU, .int 0, .int 0, .int 0])), (kN, .inl (cI, 2, .inl (fun _ => 0)))] := hD
  subst hw
  exact ret _ () _ _ _ _ _ _ (rfl) (rfl) (hP.sub [0, 1] rfl) (hK.sub [0] rfl) (hD.sub [0, 1] (by decide) rfl) hS (Nat.le_of_ble_eq_true rfl) (Nat.le_of_ble_eq_true rfl) dX6_isNet_15

set_option maxHeartbeats 4000000 in
set_option maxRecDepth 100000 in
/-- isNet on a fresh model -/
theorem kX6_isNet1 (l : Launch) (dC : Nat → ClassId) (dI : Nat → Nat → Nat) (k0 kN kA kO kK kV kG kP kC kD kE kF kX kY kT kU : Nat) (cI : ClassId) (p1 : Int32) (sz : Nat) : fMi l yX6_isNet wsX6_isNet ({ frames := 1, cells := 0, slots := 0, locals := 25 } : Room) dC dI [.ref k0, .int 1, .int p1] [(k0, .inr (9, [.ref kN, .ref kA, .ref kO, .ref kK, .ref kV, .ref kG, .ref kP, .ref kC, .ref kD, .ref kE, .ref kF, .ref kX, .ref kY, .int 0, .ref kT, .ref kU, .int 0, .int 0, .int 0])), (kN, .inl (cI, 2, .inl (fun _ => 0)))] [(cI, .int)] sz (fun (r : Int32) (u : Unit) => r = 0) (fun u => [(k0, .inr (9, [.ref kN, .ref kA, .ref kO, .ref kK, .ref kV, .ref kG, .ref kP, .ref kC, .ref kD, .ref kE, .ref kF, .ref kX, .ref kY, .int 0, .ref kT, .ref kU, .int 0, .int 0, .int 0])), (kN, .inl (cI, 2, .inl (fun _ => 0)))]) (fun u => [(cI, .int)]) := by
  refine oP_z (y := yX6_isNet) (cc := cX6_isNet) (maxL := 3) (by decide) rfl (Nat.le_of_ble_eq_true rfl) ?_
  intro p e s m args below meth c ls A Q hx hb hr hml hown hts hN hZ hA hin hlk hP hK hD hl ret
  have hS : va_S A s.heap s.heap [] := va_S.rf
  have hl : lv_has ls 3 [(0, .ref k0), (1, .int 1), (2, .int p1)] := hl
  have hP : va_P (dC, dI) vwCl [(k0, .inr (9, [.ref kN, .ref kA, .ref kO, .ref kK, .ref kV, .ref kG, .ref kP, .ref kC, .ref kD, .ref kE, .ref kF, .ref kX, .ref kY, .int 0, .ref kT, .ref kU, .int 0, .int 0, .int 0])), (kN, .inl (cI, 2, .inl (fun _ => 0)))] _ := hP
  have hD : va_D A [(k0, .inr (9, [.ref kN, .ref kA, .ref kO, .ref kK, .ref kV, .ref kG, .ref kP, .ref kC, .ref kD, .ref kE, .ref kF, .ref kX, .ref kY, .int 0, .ref kT, .ref kU, .int 0, .int 0, .int 0])), (kN, .inl (cI, 2, .inl (fun _ => 0)))] := hD
  refine lv_iload_n hx hb dX6_isNet_0 rfl (lv_at hl 2 rfl) ?_
  refine lv_i2l (v := p1.toInt64) hx hb dX6_isNet_1 rfl ?_
  refine lv_lconst (v := 0) hx hb dX6_isNet_2 (by decide) ?_
  refine lv_aload_n hx hb dX6_isNet_3 rfl (lv_at hl 0 rfl) ?_
  refine va_get (D := (dC, dI)) (ci := 9) (v := .ref kN) (C := RX6) (T := TX6) (N := 19) hx hb hts (fun w h => List.mem_cons_of_mem _ (List.mem_append_left _ (List.mem_append_right _ (h)))) hown hK hP 0 rfl rfl 0 (by decide) (hts (.fieldLink RX6 7 "NetcompareModel" "nets" "[I") (List.mem_cons_of_mem _ (List.mem_append_left _ (List.mem_append_left _ (List.mem_of_getElem? (i := 0) rfl))))) (fun _ h9 => h9) rfl dX6_isNet_4 ?_
  refine lv_iload_n hx hb dX6_isNet_7 rfl (lv_at hl 1 rfl) ?_
  refine va_iald hx hb hK hP 1 0 rfl rfl (show ¬ (_ ∨ _) by decide) dX6_isNet_8 ?_
  refine W.eq (g2 := F0 m 9 ls [.int 0, .long 0, .long p1.toInt64]) rfl ?_
  refine lv_iconst (v := 1) hx hb dX6_isNet_9 (by decide) ?_
  refine lv_isub hx hb dX6_isNet_10 ?_
  refine lv_topi (fun y1 ey1 => ?_)
  obtain rfl : y1 = (-1) := ey1.trans (by decide)
  refine lv_i2l (v := (-1)) hx hb dX6_isNet_11 (by decide) ?_
  have hPc := hP.sub (ws' := []) [] rfl
  have hDc := hD.sub (ws' := []) [] (by decide) rfl
  have hKc := hK.sub (tys' := []) [] rfl
  have hFc := va_free (wc := []) hD hS hA [] rfl
  refine va_calli (va_runS (As := [.long p1.toInt64, .long 0, .long (-1)]) (rest := []) ⟨hx, hb, hml, hown, hts⟩ (kX6_inE l dC dI p1.toInt64 s.heap.size) (va_cwS 3 hts gX6_isNet_X6_in rfl rfl rfl (by decide +kernel) ⟨Nat.le_of_ble_eq_true rfl, Nat.le_of_ble_eq_true rfl⟩) (fPreS hN hZ hS (fun q h => hFc q h) hPc hKc hDc) rfl rfl hl.1 rfl (lv_room (Nat.le_of_ble_eq_true rfl)) dX6_isNet_12 ⟨Nat.le_of_ble_eq_true rfl, Nat.le_of_ble_eq_true rfl⟩) hS (fun q _ h => hFc q h) hFc (fun r u t H1 locs ht hvm hw hB hz1 hk1 hS => ?_)
  obtain ⟨hP1, hK1, hD1⟩ := hB
  rw [ht] at hP1
  have hK1 := va_K.moved hvm.symm hK1
  obtain ⟨hP, hD⟩ := va_join (wr := [(k0, .inr (9, [.ref kN, .ref kA, .ref kO, .ref kK, .ref kV, .ref kG, .ref kP, .ref kC, .ref kD, .ref kE, .ref kF, .ref kX, .ref kY, .int 0, .ref kT, .ref kU, .int 0, .int 0, .int 0])), (kN, .inl (cI, 2, .inl (fun _ => 0)))]) (w1 := []) hP hD [] [0, 1] rfl rfl (by decide) (by decide) hk1 hFc hP1 hD1
  generalize H1 = H at hP hS ⊢
  have hP : va_P (dC, dI) vwCl [(k0, .inr (9, [.ref kN, .ref kA, .ref kO, .ref kK, .ref kV, .ref kG, .ref kP, .ref kC, .ref kD, .ref kE, .ref kF, .ref kX, .ref kY, .int 0, .ref kT, .ref kU, .int 0, .int 0, .int 0])), (kN, .inl (cI, 2, .inl (fun _ => 0)))] _ := hP
  have hD : va_D A [(k0, .inr (9, [.ref kN, .ref kA, .ref kO, .ref kK, .ref kV, .ref kG, .ref kP, .ref kC, .ref kD, .ref kE, .ref kF, .ref kX, .ref kY, .int 0, .ref kT, .ref kU, .int 0, .int 0, .int 0])), (kN, .inl (cI, 2, .inl (fun _ => 0)))] := hD
  subst hw
  exact ret _ () _ _ _ _ _ _ (rfl) (rfl) (hP.sub [0, 1] rfl) (hK.sub [0] rfl) (hD.sub [0, 1] (by decide) rfl) hS (Nat.le_of_ble_eq_true rfl) (Nat.le_of_ble_eq_true rfl) dX6_isNet_15

set_option maxHeartbeats 4000000 in
set_option maxRecDepth 100000 in
/-- isPart on a fresh model -/
theorem kX6_isPart0 (l : Launch) (dC : Nat → ClassId) (dI : Nat → Nat → Nat) (k0 kN kA kO kK kV kG kP kC kD kE kF kX kY kT kU : Nat) (cI : ClassId) (p1 : Int32) (sz : Nat) : fMi l yX6_isPart wsX6_isPart ({ frames := 1, cells := 0, slots := 0, locals := 25 } : Room) dC dI [.ref k0, .int 0, .int p1] [(k0, .inr (9, [.ref kN, .ref kA, .ref kO, .ref kK, .ref kV, .ref kG, .ref kP, .ref kC, .ref kD, .ref kE, .ref kF, .ref kX, .ref kY, .int 0, .ref kT, .ref kU, .int 0, .int 0, .int 0])), (kA, .inl (cI, 2, .inl (fun _ => 0)))] [(cI, .int)] sz (fun (r : Int32) (u : Unit) => r = 0) (fun u => [(k0, .inr (9, [.ref kN, .ref kA, .ref kO, .ref kK, .ref kV, .ref kG, .ref kP, .ref kC, .ref kD, .ref kE, .ref kF, .ref kX, .ref kY, .int 0, .ref kT, .ref kU, .int 0, .int 0, .int 0])), (kA, .inl (cI, 2, .inl (fun _ => 0)))]) (fun u => [(cI, .int)]) := by
  refine oP_z (y := yX6_isPart) (cc := cX6_isPart) (maxL := 3) (by decide) rfl (Nat.le_of_ble_eq_true rfl) ?_
  intro p e s m args below meth c ls A Q hx hb hr hml hown hts hN hZ hA hin hlk hP hK hD hl ret
  have hS : va_S A s.heap s.heap [] := va_S.rf
  have hl : lv_has ls 3 [(0, .ref k0), (1, .int 0), (2, .int p1)] := hl
  have hP : va_P (dC, dI) vwCl [(k0, .inr (9, [.ref kN, .ref kA, .ref kO, .ref kK, .ref kV, .ref kG, .ref kP, .ref kC, .ref kD, .ref kE, .ref kF, .ref kX, .ref kY, .int 0, .ref kT, .ref kU, .int 0, .int 0, .int 0])), (kA, .inl (cI, 2, .inl (fun _ => 0)))] _ := hP
  have hD : va_D A [(k0, .inr (9, [.ref kN, .ref kA, .ref kO, .ref kK, .ref kV, .ref kG, .ref kP, .ref kC, .ref kD, .ref kE, .ref kF, .ref kX, .ref kY, .int 0, .ref kT, .ref kU, .int 0, .int 0, .int 0])), (kA, .inl (cI, 2, .inl (fun _ => 0)))] := hD
  refine lv_iload_n hx hb dX6_isPart_0 rfl (lv_at hl 2 rfl) ?_
  refine lv_i2l (v := p1.toInt64) hx hb dX6_isPart_1 rfl ?_
  refine lv_lconst (v := 0) hx hb dX6_isPart_2 (by decide) ?_
  refine lv_aload_n hx hb dX6_isPart_3 rfl (lv_at hl 0 rfl) ?_
  refine va_get (D := (dC, dI)) (ci := 9) (v := .ref kA) (C := RX6) (T := TX6) (N := 19) hx hb hts (fun w h => List.mem_cons_of_mem _ (List.mem_append_left _ (List.mem_append_right _ (h)))) hown hK hP 0 rfl rfl 1 (by decide) (hts (.fieldLink RX6 13 "NetcompareModel" "added" "[I") (List.mem_cons_of_mem _ (List.mem_append_left _ (List.mem_append_left _ (List.mem_of_getElem? (i := 0) rfl))))) (fun _ h9 => h9) rfl dX6_isPart_4 ?_
  refine lv_iload_n hx hb dX6_isPart_7 rfl (lv_at hl 1 rfl) ?_
  refine va_iald hx hb hK hP 1 0 rfl rfl (show ¬ (_ ∨ _) by decide) dX6_isPart_8 ?_
  refine W.eq (g2 := F0 m 9 ls [.int 0, .long 0, .long p1.toInt64]) rfl ?_
  refine lv_iconst (v := 1) hx hb dX6_isPart_9 (by decide) ?_
  refine lv_isub hx hb dX6_isPart_10 ?_
  refine lv_topi (fun y1 ey1 => ?_)
  obtain rfl : y1 = (-1) := ey1.trans (by decide)
  refine lv_i2l (v := (-1)) hx hb dX6_isPart_11 (by decide) ?_
  have hPc := hP.sub (ws' := []) [] rfl
  have hDc := hD.sub (ws' := []) [] (by decide) rfl
  have hKc := hK.sub (tys' := []) [] rfl
  have hFc := va_free (wc := []) hD hS hA [] rfl
  refine va_calli (va_runS (As := [.long p1.toInt64, .long 0, .long (-1)]) (rest := []) ⟨hx, hb, hml, hown, hts⟩ (kX6_inE l dC dI p1.toInt64 s.heap.size) (va_cwS 3 hts gX6_isPart_X6_in rfl rfl rfl (by decide +kernel) ⟨Nat.le_of_ble_eq_true rfl, Nat.le_of_ble_eq_true rfl⟩) (fPreS hN hZ hS (fun q h => hFc q h) hPc hKc hDc) rfl rfl hl.1 rfl (lv_room (Nat.le_of_ble_eq_true rfl)) dX6_isPart_12 ⟨Nat.le_of_ble_eq_true rfl, Nat.le_of_ble_eq_true rfl⟩) hS (fun q _ h => hFc q h) hFc (fun r u t H1 locs ht hvm hw hB hz1 hk1 hS => ?_)
  obtain ⟨hP1, hK1, hD1⟩ := hB
  rw [ht] at hP1
  have hK1 := va_K.moved hvm.symm hK1
  obtain ⟨hP, hD⟩ := va_join (wr := [(k0, .inr (9, [.ref kN, .ref kA, .ref kO, .ref kK, .ref kV, .ref kG, .ref kP, .ref kC, .ref kD, .ref kE, .ref kF, .ref kX, .ref kY, .int 0, .ref kT, .ref kU, .int 0, .int 0, .int 0])), (kA, .inl (cI, 2, .inl (fun _ => 0)))]) (w1 := []) hP hD [] [0, 1] rfl rfl (by decide) (by decide) hk1 hFc hP1 hD1
  generalize H1 = H at hP hS ⊢
  have hP : va_P (dC, dI) vwCl [(k0, .inr (9, [.ref kN, .ref kA, .ref kO, .ref kK, .ref kV, .ref kG, .ref kP, .ref kC, .ref kD, .ref kE, .ref kF, .ref kX, .ref kY, .int 0, .ref kT, .ref kU, .int 0, .int 0, .int 0])), (kA, .inl (cI, 2, .inl (fun _ => 0)))] _ := hP
  have hD : va_D A [(k0, .inr (9, [.ref kN, .ref kA, .ref kO, .ref kK, .ref kV, .ref kG, .ref kP, .ref kC, .ref kD, .ref kE, .ref kF, .ref kX, .ref kY, .int 0, .ref kT, .ref kU, .int 0, .int 0, .int 0])), (kA, .inl (cI, 2, .inl (fun _ => 0)))] := hD
  subst hw
  refine lv_if_eq (tgt := 36) hx hb dX6_isPart_15 (by decide) (fun _ => ?_) (fun h9 => absurd (by decide) h9)
  refine lv_iconst (v := 0) hx hb dX6_isPart_36 (by decide) ?_
  exact ret _ () _ _ _ _ _ _ (rfl) (rfl) (hP.sub [0, 1] rfl) (hK.sub [0] rfl) (hD.sub [0, 1] (by decide) rfl) hS (Nat.le_of_ble_eq_true rfl) (Nat.le_of_ble_eq_true rfl) dX6_isPart_37

set_option maxHeartbeats 4000000 in
set_option maxRecDepth 100000 in
/-- isPart on a fresh model -/
theorem kX6_isPart1 (l : Launch) (dC : Nat → ClassId) (dI : Nat → Nat → Nat) (k0 kN kA kO kK kV kG kP kC kD kE kF kX kY kT kU : Nat) (cI : ClassId) (p1 : Int32) (sz : Nat) : fMi l yX6_isPart wsX6_isPart ({ frames := 1, cells := 0, slots := 0, locals := 25 } : Room) dC dI [.ref k0, .int 1, .int p1] [(k0, .inr (9, [.ref kN, .ref kA, .ref kO, .ref kK, .ref kV, .ref kG, .ref kP, .ref kC, .ref kD, .ref kE, .ref kF, .ref kX, .ref kY, .int 0, .ref kT, .ref kU, .int 0, .int 0, .int 0])), (kA, .inl (cI, 2, .inl (fun _ => 0)))] [(cI, .int)] sz (fun (r : Int32) (u : Unit) => r = 0) (fun u => [(k0, .inr (9, [.ref kN, .ref kA, .ref kO, .ref kK, .ref kV, .ref kG, .ref kP, .ref kC, .ref kD, .ref kE, .ref kF, .ref kX, .ref kY, .int 0, .ref kT, .ref kU, .int 0, .int 0, .int 0])), (kA, .inl (cI, 2, .inl (fun _ => 0)))]) (fun u => [(cI, .int)]) := by
  refine oP_z (y := yX6_isPart) (cc := cX6_isPart) (maxL := 3) (by decide) rfl (Nat.le_of_ble_eq_true rfl) ?_
  intro p e s m args below meth c ls A Q hx hb hr hml hown hts hN hZ hA hin hlk hP hK hD hl ret
  have hS : va_S A s.heap s.heap [] := va_S.rf
  have hl : lv_has ls 3 [(0, .ref k0), (1, .int 1), (2, .int p1)] := hl
  have hP : va_P (dC, dI) vwCl [(k0, .inr (9, [.ref kN, .ref kA, .ref kO, .ref kK, .ref kV, .ref kG, .ref kP, .ref kC, .ref kD, .ref kE, .ref kF, .ref kX, .ref kY, .int 0, .ref kT, .ref kU, .int 0, .int 0, .int 0])), (kA, .inl (cI, 2, .inl (fun _ => 0)))] _ := hP
  have hD : va_D A [(k0, .inr (9, [.ref kN, .ref kA, .ref kO, .ref kK, .ref kV, .ref kG, .ref kP, .ref kC, .ref kD, .ref kE, .ref kF, .ref kX, .ref kY, .int 0, .ref kT, .ref kU, .int 0, .int 0, .int 0])), (kA, .inl (cI, 2, .inl (fun _ => 0)))] := hD
  refine lv_iload_n hx hb dX6_isPart_0 rfl (lv_at hl 2 rfl) ?_
  refine lv_i2l (v := p1.toInt64) hx hb dX6_isPart_1 rfl ?_
  refine lv_lconst (v := 0) hx hb dX6_isPart_2 (by decide) ?_
  refine lv_aload_n hx hb dX6_isPart_3 rfl (lv_at hl 0 rfl) ?_
  refine va_get (D := (dC, dI)) (ci := 9) (v := .ref kA) (C := RX6) (T := TX6) (N := 19) hx hb hts (fun w h => List.mem_cons_of_mem _ (List.mem_append_left _ (List.mem_append_right _ (h)))) hown hK hP 0 rfl rfl 1 (by decide) (hts (.fieldLink RX6 13 "NetcompareModel" "added" "[I") (List.mem_cons_of_mem _ (List.mem_append_left _ (List.mem_append_left _ (List.mem_of_getElem? (i := 0) rfl))))) (fun _ h9 => h9) rfl dX6_isPart_4 ?_
  refine lv_iload_n hx hb dX6_isPart_7 rfl (lv_at hl 1 rfl) ?_
  refine va_iald hx hb hK hP 1 0 rfl rfl (show ¬ (_ ∨ _) by decide) dX6_isPart_8 ?_
  refine W.eq (g2 := F0 m 9 ls [.int 0, .long 0, .long p1.toInt64]) rfl ?_
  refine lv_iconst (v := 1) hx hb dX6_isPart_9 (by decide) ?_
  refine lv_isub hx hb dX6_isPart_10 ?_
  refine lv_topi (fun y1 ey1 => ?_)
  obtain rfl : y1 = (-1) := ey1.trans (by decide)
  refine lv_i2l (v := (-1)) hx hb dX6_isPart_11 (by decide) ?_
  have hPc := hP.sub (ws' := []) [] rfl
  have hDc := hD.sub (ws' := []) [] (by decide) rfl
  have hKc := hK.sub (tys' := []) [] rfl
  have hFc := va_free (wc := []) hD hS hA [] rfl
  refine va_calli (va_runS (As := [.long p1.toInt64, .long 0, .long (-1)]) (rest := []) ⟨hx, hb, hml, hown, hts⟩ (kX6_inE l dC dI p1.toInt64 s.heap.size) (va_cwS 3 hts gX6_isPart_X6_in rfl rfl rfl (by decide +kernel) ⟨Nat.le_of_ble_eq_true rfl, Nat.le_of_ble_eq_true rfl⟩) (fPreS hN hZ hS (fun q h => hFc q h) hPc hKc hDc) rfl rfl hl.1 rfl (lv_room (Nat.le_of_ble_eq_true rfl)) dX6_isPart_12 ⟨Nat.le_of_ble_eq_true rfl, Nat.le_of_ble_eq_true rfl⟩) hS (fun q _ h => hFc q h) hFc (fun r u t H1 locs ht hvm hw hB hz1 hk1 hS => ?_)
  obtain ⟨hP1, hK1, hD1⟩ := hB
  rw [ht] at hP1
  have hK1 := va_K.moved hvm.symm hK1
  obtain ⟨hP, hD⟩ := va_join (wr := [(k0, .inr (9, [.ref kN, .ref kA, .ref kO, .ref kK, .ref kV, .ref kG, .ref kP, .ref kC, .ref kD, .ref kE, .ref kF, .ref kX, .ref kY, .int 0, .ref kT, .ref kU, .int 0, .int 0, .int 0])), (kA, .inl (cI, 2, .inl (fun _ => 0)))]) (w1 := []) hP hD [] [0, 1] rfl rfl (by decide) (by decide) hk1 hFc hP1 hD1
  generalize H1 = H at hP hS ⊢
  have hP : va_P (dC, dI) vwCl [(k0, .inr (9, [.ref kN, .ref kA, .ref kO, .ref kK, .ref kV, .ref kG, .ref kP, .ref kC, .ref kD, .ref kE, .ref kF, .ref kX, .ref kY, .int 0, .ref kT, .ref kU, .int 0, .int 0, .int 0])), (kA, .inl (cI, 2, .inl (fun _ => 0)))] _ := hP
  have hD : va_D A [(k0, .inr (9, [.ref kN, .ref kA, .ref kO, .ref kK, .ref kV, .ref kG, .ref kP, .ref kC, .ref kD, .ref kE, .ref kF, .ref kX, .ref kY, .int 0, .ref kT, .ref kU, .int 0, .int 0, .int 0])), (kA, .inl (cI, 2, .inl (fun _ => 0)))] := hD
  subst hw
  refine lv_if_eq (tgt := 36) hx hb dX6_isPart_15 (by decide) (fun _ => ?_) (fun h9 => absurd (by decide) h9)
  refine lv_iconst (v := 0) hx hb dX6_isPart_36 (by decide) ?_
  exact ret _ () _ _ _ _ _ _ (rfl) (rfl) (hP.sub [0, 1] rfl) (hK.sub [0] rfl) (hD.sub [0, 1] (by decide) rfl) hS (Nat.le_of_ble_eq_true rfl) (Nat.le_of_ble_eq_true rfl) dX6_isPart_37

set_option maxHeartbeats 4000000 in
set_option maxRecDepth 100000 in
/-- partMany on a fresh model -/
theorem kX6_partMany0 (l : Launch) (dC : Nat → ClassId) (dI : Nat → Nat → Nat) (k0 kN kA kO kK kV kG kP kC kD kE kF kX kY kT kU : Nat) (cI : ClassId) (sz : Nat) : fMi l yX6_partMany wsX6_partMany ({ frames := 0, cells := 0, slots := 0, locals := 0 } : Room) dC dI [.ref k0, .int 0] [(k0, .inr (9, [.ref kN, .ref kA, .ref kO, .ref kK, .ref kV, .ref kG, .ref kP, .ref kC, .ref kD, .ref kE, .ref kF, .ref kX, .ref kY, .int 0, .ref kT, .ref kU, .int 0, .int 0, .int 0])), (kA, .inl (cI, 2, .inl (fun _ => 0)))] [(cI, .int)] sz (fun (r : Int32) (u : Unit) => r = 0) (fun u => [(k0, .inr (9, [.ref kN, .ref kA, .ref kO, .ref kK, .ref kV, .ref kG, .ref kP, .ref kC, .ref kD, .ref kE, .ref kF, .ref kX, .ref kY, .int 0, .ref kT, .ref kU, .int 0, .int 0, .int 0])), (kA, .inl (cI, 2, .inl (fun _ => 0)))]) (fun u => [(cI, .int)]) := by
  refine oP_i (y := yX6_partMany) (cc := cX6_partMany) (maxL := 4) (by decide) rfl (Nat.le_of_ble_eq_true rfl) ?_
  intro p e s m args below meth c ls A Q hx hb hr hml hown hts hN hZ hA hin hlk hP hK hD hl ret
  have hS : va_S A s.heap s.heap [] := va_S.rf
  have hl : lv_has ls 4 [(0, .ref k0), (1, .int 0)] := hl
  have hP : va_P (dC, dI) vwCl [(k0, .inr (9, [.ref kN, .ref kA, .ref kO, .ref kK, .ref kV, .ref kG, .ref kP, .ref kC, .ref kD, .ref kE, .ref kF, .ref kX, .ref kY, .int 0, .ref kT, .ref kU, .int 0, .int 0, .int 0])), (kA, .inl (cI, 2, .inl (fun _ => 0)))] _ := hP
  have hD : va_D A [(k0, .inr (9, [.ref kN, .ref kA, .ref kO, .ref kK, .ref kV, .ref kG, .ref kP, .ref kC, .ref kD, .ref kE, .ref kF, .ref kX, .ref kY, .int 0, .ref kT, .ref kU, .int 0, .int 0, .int 0])), (kA, .inl (cI, 2, .inl (fun _ => 0)))] := hD
  refine lv_iconst (v := 0) hx hb dX6_partMany_0 (by decide) ?_
  refine lv_istore_n (lv' := [(2, .int 0), (0, .ref k0), (1, .int 0)]) hx hb dX6_partMany_1 rfl hl (Nat.le_of_ble_eq_true rfl) rfl (fun ls hl => ?_)
  refine lv_iconst (v := 0) hx hb dX6_partMany_2 (by decide) ?_
  refine lv_istore_n (lv' := [(3, .int 0), (2, .int 0), (0, .ref k0), (1, .int 0)]) hx hb dX6_partMany_3 rfl hl (Nat.le_of_ble_eq_true rfl) rfl (fun ls hl => ?_)
  refine lv_iload_n hx hb dX6_partMany_4 rfl (lv_at hl 0 rfl) ?_
  refine lv_aload_n hx hb dX6_partMany_5 rfl (lv_at hl 2 rfl) ?_
  refine va_get (D := (dC, dI)) (ci := 9) (v := .ref kA) (C := RX6) (T := TX6) (N := 19) hx hb hts (fun w h => List.mem_cons_of_mem _ (List.mem_append_left _ (List.mem_append_right _ (h)))) hown hK hP 0 rfl rfl 1 (by decide) (hts (.fieldLink RX6 13 "NetcompareModel" "added" "[I") (List.mem_cons_of_mem _ (List.mem_append_left _ (List.mem_append_left _ (List.mem_of_getElem? (i := 0) rfl))))) (fun _ h9 => h9) rfl dX6_partMany_6 ?_
  refine lv_iload_n hx hb dX6_partMany_9 rfl (lv_at hl 3 rfl) ?_
  refine va_iald hx hb hK hP 1 0 rfl rfl (show ¬ (_ ∨ _) by decide) dX6_partMany_10 ?_
  refine W.eq (g2 := F0 m 11 ls [.int 0, .int 0]) rfl ?_
  refine lv_icmp_ge (tgt := 37) hx hb dX6_partMany_11 (by decide) (fun _ => ?_) (fun h9 => absurd (by decide) h9)
  refine lv_iload_n hx hb dX6_partMany_37 rfl (lv_at hl 1 rfl) ?_
  exact ret _ () _ _ _ _ _ _ (rfl) (hP.sub [0, 1] rfl) (hK.sub [0] rfl) (hD.sub [0, 1] (by decide) rfl) hS (Nat.le_of_ble_eq_true rfl) (Nat.le_of_ble_eq_true rfl) dX6_partMany_38

set_option maxHeartbeats 4000000 in
set_option maxRecDepth 100000 in
/-- firstPair on a fresh model -/
theorem kX6_firstPair0 (l : Launch) (dC : Nat → ClassId) (dI : Nat → Nat → Nat) (k0 kN kA kO kK kV kG kP kC kD kE kF kX kY kT kU : Nat) (cI : ClassId) (sz : Nat) : fMi l yX6_firstPair wsX6_firstPair ({ frames := 0, cells := 0, slots := 0, locals := 0 } : Room) dC dI [.ref k0, .int 0] [(k0, .inr (9, [.ref kN, .ref kA, .ref kO, .ref kK, .ref kV, .ref kG, .ref kP, .ref kC, .ref kD, .ref kE, .ref kF, .ref kX, .ref kY, .int 0, .ref kT, .ref kU, .int 0, .int 0, .int 0])), (kA, .inl (cI, 2, .inl (fun _ => 0)))] [(cI, .int)] sz (fun (r : Int32) (u : Unit) => r = -1) (fun u => [(k0, .inr (9, [.ref kN, .ref kA, .ref kO, .ref kK, .ref kV, .ref kG, .ref kP, .ref kC, .ref kD, .ref kE, .ref kF, .ref kX, .ref kY, .int 0, .ref kT, .ref kU, .int 0, .int 0, .int 0])), (kA, .inl (cI, 2, .inl (fun _ => 0)))]) (fun u => [(cI, .int)]) := by
  refine oP_i (y := yX6_firstPair) (cc := cX6_firstPair) (maxL := 4) (by decide) rfl (Nat.le_of_ble_eq_true rfl) ?_
  intro p e s m args below meth c ls A Q hx hb hr hml hown hts hN hZ hA hin hlk hP hK hD hl ret
  have hS : va_S A s.heap s.heap [] := va_S.rf
  have hl : lv_has ls 4 [(0, .ref k0), (1, .int 0)] := hl
  have hP : va_P (dC, dI) vwCl [(k0, .inr (9, [.ref kN, .ref kA, .ref kO, .ref kK, .ref kV, .ref kG, .ref kP, .ref kC, .ref kD, .ref kE, .ref kF, .ref kX, .ref kY, .int 0, .ref kT, .ref kU, .int 0, .int 0, .int 0])), (kA, .inl (cI, 2, .inl (fun _ => 0)))] _ := hP
  have hD : va_D A [(k0, .inr (9, [.ref kN, .ref kA, .ref kO, .ref kK, .ref kV, .ref kG, .ref kP, .ref kC, .ref kD, .ref kE, .ref kF, .ref kX, .ref kY, .int 0, .ref kT, .ref kU, .int 0, .int 0, .int 0])), (kA, .inl (cI, 2, .inl (fun _ => 0)))] := hD
  refine lv_iconst (v := 0) hx hb dX6_firstPair_0 (by decide) ?_
  refine lv_istore_n (lv' := [(2, .int 0), (0, .ref k0), (1, .int 0)]) hx hb dX6_firstPair_1 rfl hl (Nat.le_of_ble_eq_true rfl) rfl (fun ls hl => ?_)
  refine lv_iload_n hx hb dX6_firstPair_2 rfl (lv_at hl 0 rfl) ?_
  refine lv_aload_n hx hb dX6_firstPair_3 rfl (lv_at hl 1 rfl) ?_
  refine va_get (D := (dC, dI)) (ci := 9) (v := .ref kA) (C := RX6) (T := TX6) (N := 19) hx hb hts (fun w h => List.mem_cons_of_mem _ (List.mem_append_left _ (List.mem_append_right _ (h)))) hown hK hP 0 rfl rfl 1 (by decide) (hts (.fieldLink RX6 13 "NetcompareModel" "added" "[I") (List.mem_cons_of_mem _ (List.mem_append_left _ (List.mem_append_left _ (List.mem_append_left _ (List.mem_of_getElem? (i := 0) rfl)))))) (fun _ h9 => h9) rfl dX6_firstPair_4 ?_
  refine lv_iload_n hx hb dX6_firstPair_7 rfl (lv_at hl 2 rfl) ?_
  refine va_iald hx hb hK hP 1 0 rfl rfl (show ¬ (_ ∨ _) by decide) dX6_firstPair_8 ?_
  refine W.eq (g2 := F0 m 9 ls [.int 0, .int 0]) rfl ?_
  refine lv_icmp_ge (tgt := 75) hx hb dX6_firstPair_9 (by decide) (fun _ => ?_) (fun h9 => absurd (by decide) h9)
  refine lv_iconst (v := (-1)) hx hb dX6_firstPair_75 (by decide) ?_
  exact ret _ () _ _ _ _ _ _ (rfl) (hP.sub [0, 1] rfl) (hK.sub [0] rfl) (hD.sub [0, 1] (by decide) rfl) hS (Nat.le_of_ble_eq_true rfl) (Nat.le_of_ble_eq_true rfl) dX6_firstPair_76

set_option maxHeartbeats 4000000 in
set_option maxRecDepth 100000 in
/-- partMany on a fresh model -/
theorem kX6_partMany1 (l : Launch) (dC : Nat → ClassId) (dI : Nat → Nat → Nat) (k0 kN kA kO kK kV kG kP kC kD kE kF kX kY kT kU : Nat) (cI : ClassId) (sz : Nat) : fMi l yX6_partMany wsX6_partMany ({ frames := 0, cells := 0, slots := 0, locals := 0 } : Room) dC dI [.ref k0, .int 1] [(k0, .inr (9, [.ref kN, .ref kA, .ref kO, .ref kK, .ref kV, .ref kG, .ref kP, .ref kC, .ref kD, .ref kE, .ref kF, .ref kX, .ref kY, .int 0, .ref kT, .ref kU, .int 0, .int 0, .int 0])), (kA, .inl (cI, 2, .inl (fun _ => 0)))] [(cI, .int)] sz (fun (r : Int32) (u : Unit) => r = 0) (fun u => [(k0, .inr (9, [.ref kN, .ref kA, .ref kO, .ref kK, .ref kV, .ref kG, .ref kP, .ref kC, .ref kD, .ref kE, .ref kF, .ref kX, .ref kY, .int 0, .ref kT, .ref kU, .int 0, .int 0, .int 0])), (kA, .inl (cI, 2, .inl (fun _ => 0)))]) (fun u => [(cI, .int)]) := by
  refine oP_i (y := yX6_partMany) (cc := cX6_partMany) (maxL := 4) (by decide) rfl (Nat.le_of_ble_eq_true rfl) ?_
  intro p e s m args below meth c ls A Q hx hb hr hml hown hts hN hZ hA hin hlk hP hK hD hl ret
  have hS : va_S A s.heap s.heap [] := va_S.rf
  have hl : lv_has ls 4 [(0, .ref k0), (1, .int 1)] := hl
  have hP : va_P (dC, dI) vwCl [(k0, .inr (9, [.ref kN, .ref kA, .ref kO, .ref kK, .ref kV, .ref kG, .ref kP, .ref kC, .ref kD, .ref kE, .ref kF, .ref kX, .ref kY, .int 0, .ref kT, .ref kU, .int 0, .int 0, .int 0])), (kA, .inl (cI, 2, .inl (fun _ => 0)))] _ := hP
  have hD : va_D A [(k0, .inr (9, [.ref kN, .ref kA, .ref kO, .ref kK, .ref kV, .ref kG, .ref kP, .ref kC, .ref kD, .ref kE, .ref kF, .ref kX, .ref kY, .int 0, .ref kT, .ref kU, .int 0, .int 0, .int 0])), (kA, .inl (cI, 2, .inl (fun _ => 0)))] := hD
  refine lv_iconst (v := 0) hx hb dX6_partMany_0 (by decide) ?_
  refine lv_istore_n (lv' := [(2, .int 0), (0, .ref k0), (1, .int 1)]) hx hb dX6_partMany_1 rfl hl (Nat.le_of_ble_eq_true rfl) rfl (fun ls hl => ?_)
  refine lv_iconst (v := 0) hx hb dX6_partMany_2 (by decide) ?_
  refine lv_istore_n (lv' := [(3, .int 0), (2, .int 0), (0, .ref k0), (1, .int 1)]) hx hb dX6_partMany_3 rfl hl (Nat.le_of_ble_eq_true rfl) rfl (fun ls hl => ?_)
  refine lv_iload_n hx hb dX6_partMany_4 rfl (lv_at hl 0 rfl) ?_
  refine lv_aload_n hx hb dX6_partMany_5 rfl (lv_at hl 2 rfl) ?_
  refine va_get (D := (dC, dI)) (ci := 9) (v := .ref kA) (C := RX6) (T := TX6) (N := 19) hx hb hts (fun w h => List.mem_cons_of_mem _ (List.mem_append_left _ (List.mem_append_right _ (h)))) hown hK hP 0 rfl rfl 1 (by decide) (hts (.fieldLink RX6 13 "NetcompareModel" "added" "[I") (List.mem_cons_of_mem _ (List.mem_append_left _ (List.mem_append_left _ (List.mem_of_getElem? (i := 0) rfl))))) (fun _ h9 => h9) rfl dX6_partMany_6 ?_
  refine lv_iload_n hx hb dX6_partMany_9 rfl (lv_at hl 3 rfl) ?_
  refine va_iald hx hb hK hP 1 0 rfl rfl (show ¬ (_ ∨ _) by decide) dX6_partMany_10 ?_
  refine W.eq (g2 := F0 m 11 ls [.int 0, .int 0]) rfl ?_
  refine lv_icmp_ge (tgt := 37) hx hb dX6_partMany_11 (by decide) (fun _ => ?_) (fun h9 => absurd (by decide) h9)
  refine lv_iload_n hx hb dX6_partMany_37 rfl (lv_at hl 1 rfl) ?_
  exact ret _ () _ _ _ _ _ _ (rfl) (hP.sub [0, 1] rfl) (hK.sub [0] rfl) (hD.sub [0, 1] (by decide) rfl) hS (Nat.le_of_ble_eq_true rfl) (Nat.le_of_ble_eq_true rfl) dX6_partMany_38

set_option maxHeartbeats 4000000 in
set_option maxRecDepth 100000 in
/-- firstPair on a fresh model -/
theorem kX6_firstPair1 (l : Launch) (dC : Nat → ClassId) (dI : Nat → Nat → Nat) (k0 kN kA kO kK kV kG kP kC kD kE kF kX kY kT kU : Nat) (cI : ClassId) (sz : Nat) : fMi l yX6_firstPair wsX6_firstPair ({ frames := 0, cells := 0, slots := 0, locals := 0 } : Room) dC dI [.ref k0, .int 1] [(k0, .inr (9, [.ref kN, .ref kA, .ref kO, .ref kK, .ref kV, .ref kG, .ref kP, .ref kC, .ref kD, .ref kE, .ref kF, .ref kX, .ref kY, .int 0, .ref kT, .ref kU, .int 0, .int 0, .int 0])), (kA, .inl (cI, 2, .inl (fun _ => 0)))] [(cI, .int)] sz (fun (r : Int32) (u : Unit) => r = -1) (fun u => [(k0, .inr (9, [.ref kN, .ref kA, .ref kO, .ref kK, .ref kV, .ref kG, .ref kP, .ref kC, .ref kD, .ref kE, .ref kF, .ref kX, .ref kY, .int 0, .ref kT, .ref kU, .int 0, .int 0, .int 0])), (kA, .inl (cI, 2, .inl (fun _ => 0)))]) (fun u => [(cI, .int)]) := by
  refine oP_i (y := yX6_firstPair) (cc := cX6_firstPair) (maxL := 4) (by decide) rfl (Nat.le_of_ble_eq_true rfl) ?_
  intro p e s m args below meth c ls A Q hx hb hr hml hown hts hN hZ hA hin hlk hP hK hD hl ret
  have hS : va_S A s.heap s.heap [] := va_S.rf
  have hl : lv_has ls 4 [(0, .ref k0), (1, .int 1)] := hl
  have hP : va_P (dC, dI) vwCl [(k0, .inr (9, [.ref kN, .ref kA, .ref kO, .ref kK, .ref kV, .ref kG, .ref kP, .ref kC, .ref kD, .ref kE, .ref kF, .ref kX, .ref kY, .int 0, .ref kT, .ref kU, .int 0, .int 0, .int 0])), (kA, .inl (cI, 2, .inl (fun _ => 0)))] _ := hP
  have hD : va_D A [(k0, .inr (9, [.ref kN, .ref kA, .ref kO, .ref kK, .ref kV, .ref kG, .ref kP, .ref kC, .ref kD, .ref kE, .ref kF, .ref kX, .ref kY, .int 0, .ref kT, .ref kU, .int 0, .int 0, .int 0])), (kA, .inl (cI, 2, .inl (fun _ => 0)))] := hD
  refine lv_iconst (v := 0) hx hb dX6_firstPair_0 (by decide) ?_
  refine lv_istore_n (lv' := [(2, .int 0), (0, .ref k0), (1, .int 1)]) hx hb dX6_firstPair_1 rfl hl (Nat.le_of_ble_eq_true rfl) rfl (fun ls hl => ?_)
  refine lv_iload_n hx hb dX6_firstPair_2 rfl (lv_at hl 0 rfl) ?_
  refine lv_aload_n hx hb dX6_firstPair_3 rfl (lv_at hl 1 rfl) ?_
  refine va_get (D := (dC, dI)) (ci := 9) (v := .ref kA) (C := RX6) (T := TX6) (N := 19) hx hb hts (fun w h => List.mem_cons_of_mem _ (List.mem_append_left _ (List.mem_append_right _ (h)))) hown hK hP 0 rfl rfl 1 (by decide) (hts (.fieldLink RX6 13 "NetcompareModel" "added" "[I") (List.mem_cons_of_mem _ (List.mem_append_left _ (List.mem_append_left _ (List.mem_append_left _ (List.mem_of_getElem? (i := 0) rfl)))))) (fun _ h9 => h9) rfl dX6_firstPair_4 ?_
  refine lv_iload_n hx hb dX6_firstPair_7 rfl (lv_at hl 2 rfl) ?_
  refine va_iald hx hb hK hP 1 0 rfl rfl (show ¬ (_ ∨ _) by decide) dX6_firstPair_8 ?_
  refine W.eq (g2 := F0 m 9 ls [.int 0, .int 0]) rfl ?_
  refine lv_icmp_ge (tgt := 75) hx hb dX6_firstPair_9 (by decide) (fun _ => ?_) (fun h9 => absurd (by decide) h9)
  refine lv_iconst (v := (-1)) hx hb dX6_firstPair_75 (by decide) ?_
  exact ret _ () _ _ _ _ _ _ (rfl) (hP.sub [0, 1] rfl) (hK.sub [0] rfl) (hD.sub [0, 1] (by decide) rfl) hS (Nat.le_of_ble_eq_true rfl) (Nat.le_of_ble_eq_true rfl) dX6_firstPair_76

set_option maxHeartbeats 4000000 in
set_option maxRecDepth 100000 in
/-- isLarge on a fresh model -/
theorem kX6_isLarge (l : Launch) (dC : Nat → ClassId) (dI : Nat → Nat → Nat) (k0 kN kA kO kK kV kG kP kC kD kE kF kX kY kT kU : Nat) (cI : ClassId) (sz : Nat) : fMi l yX6_isLarge wsX6_isLarge ({ frames := 0, cells := 0, slots := 0, locals := 0 } : Room) dC dI [.ref k0] [(k0, .inr (9, [.ref kN, .ref kA, .ref kO, .ref kK, .ref kV, .ref kG, .ref kP, .ref kC, .ref kD, .ref kE, .ref kF, .ref kX, .ref kY, .int 0, .ref kT, .ref kU, .int 0, .int 0, .int 0])), (kN, .inl (cI, 2, .inl (fun _ => 0)))] [(cI, .int)] sz (fun (r : Int32) (u : Unit) => r = 0) (fun u => [(k0, .inr (9, [.ref kN, .ref kA, .ref kO, .ref kK, .ref kV, .ref kG, .ref kP, .ref kC, .ref kD, .ref kE, .ref kF, .ref kX, .ref kY, .int 0, .ref kT, .ref kU, .int 0, .int 0, .int 0])), (kN, .inl (cI, 2, .inl (fun _ => 0)))]) (fun u => [(cI, .int)]) := by
  refine oP_z (y := yX6_isLarge) (cc := cX6_isLarge) (maxL := 1) (by decide) rfl (Nat.le_of_ble_eq_true rfl) ?_
  intro p e s m args below meth c ls A Q hx hb hr hml hown hts hN hZ hA hin hlk hP hK hD hl ret
  have hS : va_S A s.heap s.heap [] := va_S.rf
  have hl : lv_has ls 1 [(0, .ref k0)] := hl
  have hP : va_P (dC, dI) vwCl [(k0, .inr (9, [.ref kN, .ref kA, .ref kO, .ref kK, .ref kV, .ref kG, .ref kP, .ref kC, .ref kD, .ref kE, .ref kF, .ref kX, .ref kY, .int 0, .ref kT, .ref kU, .int 0, .int 0, .int 0])), (kN, .inl (cI, 2, .inl (fun _ => 0)))] _ := hP
  have hD : va_D A [(k0, .inr (9, [.ref kN, .ref kA, .ref kO, .ref kK, .ref kV, .ref kG, .ref kP, .ref kC, .ref kD, .ref kE, .ref kF, .ref kX, .ref kY, .int 0, .ref kT, .ref kU, .int 0, .int 0, .int 0])), (kN, .inl (cI, 2, .inl (fun _ => 0)))] := hD
  refine lv_aload_n hx hb dX6_isLarge_0 rfl (lv_at hl 0 rfl) ?_
  refine va_get (D := (dC, dI)) (ci := 9) (v := .ref kN) (C := RX6) (T := TX6) (N := 19) hx hb hts (fun w h => List.mem_cons_of_mem _ (List.mem_append_left _ (List.mem_append_right _ (h)))) hown hK hP 0 rfl rfl 0 (by decide) (hts (.fieldLink RX6 7 "NetcompareModel" "nets" "[I") (List.mem_cons_of_mem _ (List.mem_append_left _ (List.mem_append_left _ (List.mem_of_getElem? (i := 0) rfl))))) (fun _ h9 => h9) rfl dX6_isLarge_1 ?_
  refine lv_iconst (v := 0) hx hb dX6_isLarge_4 (by decide) ?_
  refine va_iald hx hb hK hP 1 0 rfl rfl (show ¬ (_ ∨ _) by decide) dX6_isLarge_5 ?_
  refine W.eq (g2 := F0 m 6 ls [.int 0]) rfl ?_
  refine lv_bipush (v := 6) hx hb dX6_isLarge_6 (by decide) ?_
  refine lv_icmp_gt (tgt := 22) hx hb dX6_isLarge_8 (by decide) (fun h9 => absurd h9 (by decide)) (fun _ => ?_)
  refine lv_aload_n hx hb dX6_isLarge_11 rfl (lv_at hl 0 rfl) ?_
  refine va_get (D := (dC, dI)) (ci := 9) (v := .ref kN) (C := RX6) (T := TX6) (N := 19) hx hb hts (fun w h => List.mem_cons_of_mem _ (List.mem_append_left _ (List.mem_append_right _ (h)))) hown hK hP 0 rfl rfl 0 (by decide) (hts (.fieldLink RX6 7 "NetcompareModel" "nets" "[I") (List.mem_cons_of_mem _ (List.mem_append_left _ (List.mem_append_left _ (List.mem_of_getElem? (i := 0) rfl))))) (fun _ h9 => h9) rfl dX6_isLarge_12 ?_
  refine lv_iconst (v := 1) hx hb dX6_isLarge_15 (by decide) ?_
  refine va_iald hx hb hK hP 1 0 rfl rfl (show ¬ (_ ∨ _) by decide) dX6_isLarge_16 ?_
  refine W.eq (g2 := F0 m 17 ls [.int 0]) rfl ?_
  refine lv_bipush (v := 6) hx hb dX6_isLarge_17 (by decide) ?_
  refine lv_icmp_le (tgt := 26) hx hb dX6_isLarge_19 (by decide) (fun _ => ?_) (fun h9 => absurd (by decide) h9)
  refine lv_iconst (v := 0) hx hb dX6_isLarge_26 (by decide) ?_
  exact ret _ () _ _ _ _ _ _ (rfl) (rfl) (hP.sub [0, 1] rfl) (hK.sub [0] rfl) (hD.sub [0, 1] (by decide) rfl) hS (Nat.le_of_ble_eq_true rfl) (Nat.le_of_ble_eq_true rfl) dX6_isLarge_27

set_option maxHeartbeats 4000000 in
set_option maxRecDepth 100000 in
/-- maps on a fresh model -/
theorem kX6_maps (l : Launch) (dC : Nat → ClassId) (dI : Nat → Nat → Nat) (k0 kN kA kO kK kV kG kP kC kD kE kF kX kY kT kU : Nat) (cI : ClassId) (sz : Nat) : fMi l yX6_maps wsX6_maps ({ frames := 0, cells := 0, slots := 0, locals := 0 } : Room) dC dI [.ref k0, .int 0] [(k0, .inr (9, [.ref kN, .ref kA, .ref kO, .ref kK, .ref kV, .ref kG, .ref kP, .ref kC, .ref kD, .ref kE, .ref kF, .ref kX, .ref kY, .int 0, .ref kT, .ref kU, .int 0, .int 0, .int 0])), (kN, .inl (cI, 2, .inl (fun _ => 0)))] [(cI, .int)] sz (fun (r : Int32) (u : Unit) => r = 1) (fun u => [(k0, .inr (9, [.ref kN, .ref kA, .ref kO, .ref kK, .ref kV, .ref kG, .ref kP, .ref kC, .ref kD, .ref kE, .ref kF, .ref kX, .ref kY, .int 0, .ref kT, .ref kU, .int 0, .int 0, .int 0])), (kN, .inl (cI, 2, .inl (fun _ => 0)))]) (fun u => [(cI, .int)]) := by
  refine oP_z (y := yX6_maps) (cc := cX6_maps) (maxL := 5) (by decide) rfl (Nat.le_of_ble_eq_true rfl) ?_
  intro p e s m args below meth c ls A Q hx hb hr hml hown hts hN hZ hA hin hlk hP hK hD hl ret
  have hS : va_S A s.heap s.heap [] := va_S.rf
  have hl : lv_has ls 5 [(0, .ref k0), (1, .int 0)] := hl
  have hP : va_P (dC, dI) vwCl [(k0, .inr (9, [.ref kN, .ref kA, .ref kO, .ref kK, .ref kV, .ref kG, .ref kP, .ref kC, .ref kD, .ref kE, .ref kF, .ref kX, .ref kY, .int 0, .ref kT, .ref kU, .int 0, .int 0, .int 0])), (kN, .inl (cI, 2, .inl (fun _ => 0)))] _ := hP
  have hD : va_D A [(k0, .inr (9, [.ref kN, .ref kA, .ref kO, .ref kK, .ref kV, .ref kG, .ref kP, .ref kC, .ref kD, .ref kE, .ref kF, .ref kX, .ref kY, .int 0, .ref kT, .ref kU, .int 0, .int 0, .int 0])), (kN, .inl (cI, 2, .inl (fun _ => 0)))] := hD
  refine lv_iload_n hx hb dX6_maps_0 rfl (lv_at hl 1 rfl) ?_
  refine lv_aload_n hx hb dX6_maps_1 rfl (lv_at hl 0 rfl) ?_
  refine va_get (D := (dC, dI)) (ci := 9) (v := .ref kN) (C := RX6) (T := TX6) (N := 19) hx hb hts (fun w h => List.mem_cons_of_mem _ (List.mem_append_left _ (List.mem_append_right _ (h)))) hown hK hP 0 rfl rfl 0 (by decide) (hts (.fieldLink RX6 7 "NetcompareModel" "nets" "[I") (List.mem_cons_of_mem _ (List.mem_append_left _ (List.mem_append_left _ (List.mem_append_left _ (List.mem_of_getElem? (i := 0) rfl)))))) (fun _ h9 => h9) rfl dX6_maps_2 ?_
  refine lv_iconst (v := 0) hx hb dX6_maps_5 (by decide) ?_
  refine va_iald hx hb hK hP 1 0 rfl rfl (show ¬ (_ ∨ _) by decide) dX6_maps_6 ?_
  refine W.eq (g2 := F0 m 7 ls [.int 0, .int 0]) rfl ?_
  refine lv_icmp_ne (tgt := 12) hx hb dX6_maps_7 (by decide) (fun h9 => absurd (by decide) h9) (fun _ => ?_)
  refine lv_iconst (v := 1) hx hb dX6_maps_10 (by decide) ?_
  exact ret _ () _ _ _ _ _ _ (rfl) (rfl) (hP.sub [0, 1] rfl) (hK.sub [0] rfl) (hD.sub [0, 1] (by decide) rfl) hS (Nat.le_of_ble_eq_true rfl) (Nat.le_of_ble_eq_true rfl) dX6_maps_11

set_option maxHeartbeats 4000000 in
set_option maxRecDepth 100000 in
/-- mapsParts on a fresh model -/
theorem kX6_mapsParts (l : Launch) (dC : Nat → ClassId) (dI : Nat → Nat → Nat) (k0 kN kA kO kK kV kG kP kC kD kE kF kX kY kT kU : Nat) (cI : ClassId) (sz : Nat) : fMi l yX6_mapsParts wsX6_mapsParts ({ frames := 0, cells := 1, slots := 10, locals := 0 } : Room) dC dI [.ref k0, .int 0] [(k0, .inr (9, [.ref kN, .ref kA, .ref kO, .ref kK, .ref kV, .ref kG, .ref kP, .ref kC, .ref kD, .ref kE, .ref kF, .ref kX, .ref kY, .int 0, .ref kT, .ref kU, .int 0, .int 0, .int 0])), (kA, .inl (cI, 2, .inl (fun _ => 0)))] [(cI, .int)] sz (fun (r : Int32) (u : Unit) => r = 1) (fun u => [(k0, .inr (9, [.ref kN, .ref kA, .ref kO, .ref kK, .ref kV, .ref kG, .ref kP, .ref kC, .ref kD, .ref kE, .ref kF, .ref kX, .ref kY, .int 0, .ref kT, .ref kU, .int 0, .int 0, .int 0])), (kA, .inl (cI, 2, .inl (fun _ => 0)))]) (fun u => [(cI, .int)]) := by
  refine oP_z (y := yX6_mapsParts) (cc := cX6_mapsParts) (maxL := 6) (by decide) rfl (Nat.le_of_ble_eq_true rfl) ?_
  intro p e s m args below meth c ls A Q hx hb hr hml hown hts hN hZ hA hin hlk hP hK hD hl ret
  have hS : va_S A s.heap s.heap [] := va_S.rf
  have hl : lv_has ls 6 [(0, .ref k0), (1, .int 0)] := hl
  have hP : va_P (dC, dI) vwCl [(k0, .inr (9, [.ref kN, .ref kA, .ref kO, .ref kK, .ref kV, .ref kG, .ref kP, .ref kC, .ref kD, .ref kE, .ref kF, .ref kX, .ref kY, .int 0, .ref kT, .ref kU, .int 0, .int 0, .int 0])), (kA, .inl (cI, 2, .inl (fun _ => 0)))] _ := hP
  have hD : va_D A [(k0, .inr (9, [.ref kN, .ref kA, .ref kO, .ref kK, .ref kV, .ref kG, .ref kP, .ref kC, .ref kD, .ref kE, .ref kF, .ref kX, .ref kY, .int 0, .ref kT, .ref kU, .int 0, .int 0, .int 0])), (kA, .inl (cI, 2, .inl (fun _ => 0)))] := hD
  refine lv_bipush (v := 10) hx hb dX6_mapsParts_0 (by decide) ?_
  refine va_newa (atype := .boolean) (ty := .boolean) (N' := 10) (a0 := (10, .inl (fun _ => 0))) hx hb (hts (.arrayClass .boolean) (List.mem_cons_of_mem _ (List.mem_append_left _ (List.mem_append_left _ (List.mem_append_left _ (List.mem_of_getElem? (i := 0) rfl)))))) rfl hK hP hD hS hA (fun _ => rfl) (by decide) rfl (Nat.le_of_ble_eq_true rfl) (Nat.le_of_ble_eq_true rfl) (Nat.le_of_ble_eq_true rfl) dX6_mapsParts_2 (fun q1 cA2 H hK hP hD hS => ?_)
  refine W.widen (k := 1) (n := 10) (Nat.le_of_ble_eq_true rfl) (Nat.le_of_ble_eq_true rfl) ?_
  have hP : va_P (dC, dI) vwCl [(k0, .inr (9, [.ref kN, .ref kA, .ref kO, .ref kK, .ref kV, .ref kG, .ref kP, .ref kC, .ref kD, .ref kE, .ref kF, .ref kX, .ref kY, .int 0, .ref kT, .ref kU, .int 0, .int 0, .int 0])), (kA, .inl (cI, 2, .inl (fun _ => 0))), (q1, .inl (cA2, 10, .inl (fun _ => 0)))] _ := hP
  have hD : va_D A [(k0, .inr (9, [.ref kN, .ref kA, .ref kO, .ref kK, .ref kV, .ref kG, .ref kP, .ref kC, .ref kD, .ref kE, .ref kF, .ref kX, .ref kY, .int 0, .ref kT, .ref kU, .int 0, .int 0, .int 0])), (kA, .inl (cI, 2, .inl (fun _ => 0))), (q1, .inl (cA2, 10, .inl (fun _ => 0)))] := hD
  have hK : va_K (dC, dI) vwCl [(cI, .int), (cA2, .boolean)] s := hK
  refine lv_astore_n (lv' := [(2, .ref q1), (0, .ref k0), (1, .int 0)]) hx hb dX6_mapsParts_4 rfl hl (Nat.le_of_ble_eq_true rfl) rfl (fun ls hl => ?_)
  refine lv_iconst (v := 1) hx hb dX6_mapsParts_5 (by decide) ?_
  refine lv_istore_n (lv' := [(3, .int 1), (2, .ref q1), (0, .ref k0), (1, .int 0)]) hx hb dX6_mapsParts_6 rfl hl (Nat.le_of_ble_eq_true rfl) rfl (fun ls hl => ?_)
  refine lv_iconst (v := 0) hx hb dX6_mapsParts_7 (by decide) ?_
  refine lv_istore (lv' := [(4, .int 0), (3, .int 1), (2, .ref q1), (0, .ref k0), (1, .int 0)]) hx hb dX6_mapsParts_8 hl (Nat.le_of_ble_eq_true rfl) rfl (fun ls hl => ?_)
  refine lv_iload hx hb dX6_mapsParts_10 (lv_at hl 0 rfl) ?_
  refine lv_aload_n hx hb dX6_mapsParts_12 rfl (lv_at hl 3 rfl) ?_
  refine va_get (D := (dC, dI)) (ci := 9) (v := .ref kA) (C := RX6) (T := TX6) (N := 19) hx hb hts (fun w h => List.mem_cons_of_mem _ (List.mem_append_left _ (List.mem_append_right _ (h)))) hown hK hP 0 rfl rfl 1 (by decide) (hts (.fieldLink RX6 13 "NetcompareModel" "added" "[I") (List.mem_cons_of_mem _ (List.mem_append_left _ (List.mem_append_left _ (List.mem_append_left _ (List.mem_of_getElem? (i := 1) rfl)))))) (fun _ h9 => h9) rfl dX6_mapsParts_13 ?_
  refine lv_iconst (v := 0) hx hb dX6_mapsParts_16 (by decide) ?_
  refine va_iald hx hb hK hP 1 0 rfl rfl (show ¬ (_ ∨ _) by decide) dX6_mapsParts_17 ?_
  refine W.eq (g2 := F0 m 18 ls [.int 0, .int 0]) rfl ?_
  refine lv_icmp_ge (tgt := 198) hx hb dX6_mapsParts_18 (by decide) (fun _ => ?_) (fun h9 => absurd (by decide) h9)
  refine lv_iconst (v := 0) hx hb dX6_mapsParts_198 (by decide) ?_
  refine lv_istore (lv' := [(4, .int 0), (3, .int 1), (2, .ref q1), (0, .ref k0), (1, .int 0)]) hx hb dX6_mapsParts_199 hl (Nat.le_of_ble_eq_true rfl) rfl (fun ls hl => ?_)
  refine lv_iload hx hb dX6_mapsParts_201 (lv_at hl 0 rfl) ?_
  refine lv_aload_n hx hb dX6_mapsParts_203 rfl (lv_at hl 3 rfl) ?_
  refine va_get (D := (dC, dI)) (ci := 9) (v := .ref kA) (C := RX6) (T := TX6) (N := 19) hx hb hts (fun w h => List.mem_cons_of_mem _ (List.mem_append_left _ (List.mem_append_right _ (h)))) hown hK hP 0 rfl rfl 1 (by decide) (hts (.fieldLink RX6 13 "NetcompareModel" "added" "[I") (List.mem_cons_of_mem _ (List.mem_append_left _ (List.mem_append_left _ (List.mem_append_left _ (List.mem_of_getElem? (i := 1) rfl)))))) (fun _ h9 => h9) rfl dX6_mapsParts_204 ?_
  refine lv_iconst (v := 1) hx hb dX6_mapsParts_207 (by decide) ?_
  refine va_iald hx hb hK hP 1 0 rfl rfl (show ¬ (_ ∨ _) by decide) dX6_mapsParts_208 ?_
  refine W.eq (g2 := F0 m 209 ls [.int 0, .int 0]) rfl ?_
  refine lv_icmp_ge (tgt := 256) hx hb dX6_mapsParts_209 (by decide) (fun _ => ?_) (fun h9 => absurd (by decide) h9)
  refine lv_iload_n hx hb dX6_mapsParts_256 rfl (lv_at hl 1 rfl) ?_
  exact ret _ () _ _ _ _ _ _ (rfl) (rfl) (hP.sub [0, 1] rfl) (hK.sub [0] rfl) (hD.sub [0, 1] (by decide) rfl) hS (Nat.le_of_ble_eq_true rfl) (Nat.le_of_ble_eq_true rfl) dX6_mapsParts_257

set_option maxHeartbeats 4000000 in
set_option maxRecDepth 100000 in
/-- isThere: nothing is there -/
theorem kX6_isThere0 (l : Launch) (dC : Nat → ClassId) (dI : Nat → Nat → Nat) (k0 kN kA kO kK kV kG kP kC kD kE kF kX kY kT kU : Nat) (cI : ClassId) (i : Nat) (sz : Nat) (hi : i < 20) : fMi l yX6_isThere wsX6_isThere ({ frames := 2, cells := 0, slots := 0, locals := 47 } : Room) dC dI [.ref k0, .int (nI i), .int 0] [(k0, .inr (9, [.ref kN, .ref kA, .ref kO, .ref kK, .ref kV, .ref kG, .ref kP, .ref kC, .ref kD, .ref kE, .ref kF, .ref kX, .ref kY, .int 0, .ref kT, .ref kU, .int 0, .int 0, .int 0])), (kN, .inl (cI, 2, .inl (fun _ => 0))), (kA, .inl (cI, 2, .inl (fun _ => 0)))] [(cI, .int)] sz (fun (r : Int32) (u : Unit) => r = 0) (fun u => [(k0, .inr (9, [.ref kN, .ref kA, .ref kO, .ref kK, .ref kV, .ref kG, .ref kP, .ref kC, .ref kD, .ref kE, .ref kF, .ref kX, .ref kY, .int 0, .ref kT, .ref kU, .int 0, .int 0, .int 0])), (kN, .inl (cI, 2, .inl (fun _ => 0))), (kA, .inl (cI, 2, .inl (fun _ => 0)))]) (fun u => [(cI, .int)]) := by
  refine oP_z (y := yX6_isThere) (cc := cX6_isThere) (maxL := 3) (by decide) rfl (Nat.le_of_ble_eq_true rfl) ?_
  intro p e s m args below meth c ls A Q hx hb hr hml hown hts hN hZ hA hin hlk hP hK hD hl ret
  have hS : va_S A s.heap s.heap [] := va_S.rf
  have hl : lv_has ls 3 [(0, .ref k0), (1, .int (nI i)), (2, .int 0)] := hl
  have hP : va_P (dC, dI) vwCl [(k0, .inr (9, [.ref kN, .ref kA, .ref kO, .ref kK, .ref kV, .ref kG, .ref kP, .ref kC, .ref kD, .ref kE, .ref kF, .ref kX, .ref kY, .int 0, .ref kT, .ref kU, .int 0, .int 0, .int 0])), (kN, .inl (cI, 2, .inl (fun _ => 0))), (kA, .inl (cI, 2, .inl (fun _ => 0)))] _ := hP
  have hD : va_D A [(k0, .inr (9, [.ref kN, .ref kA, .ref kO, .ref kK, .ref kV, .ref kG, .ref kP, .ref kC, .ref kD, .ref kE, .ref kF, .ref kX, .ref kY, .int 0, .ref kT, .ref kU, .int 0, .int 0, .int 0])), (kN, .inl (cI, 2, .inl (fun _ => 0))), (kA, .inl (cI, 2, .inl (fun _ => 0)))] := hD
  rcases Nat.lt_or_ge i 10 with hq | hq
  · skip
    refine lv_iload_n hx hb dX6_isThere_0 rfl (lv_at hl 2 rfl) ?_
    refine lv_if_eq (tgt := 19) hx hb dX6_isThere_1 (by decide) (fun _ => ?_) (fun h9 => absurd (by decide) h9)
    refine lv_aload_n hx hb dX6_isThere_19 rfl (lv_at hl 0 rfl) ?_
    refine lv_iload_n hx hb dX6_isThere_20 rfl (lv_at hl 1 rfl) ?_
    refine lv_bipush (v := 10) hx hb dX6_isThere_21 (by decide) ?_
    refine lv_idiv hx hb dX6_isThere_23 (by decide) ?_
    refine lv_topi (fun y1 ey1 => ?_)
    obtain rfl : y1 = 0 := ey1.trans (fq0 hq)
    refine lv_iload_n hx hb dX6_isThere_24 rfl (lv_at hl 1 rfl) ?_
    refine lv_bipush (v := 10) hx hb dX6_isThere_25 (by decide) ?_
    refine lv_irem hx hb dX6_isThere_27 (by decide) ?_
    have hPc := hP.sub (ws' := [(k0, .inr (9, [.ref kN, .ref kA, .ref kO, .ref kK, .ref kV, .ref kG, .ref kP, .ref kC, .ref kD, .ref kE, .ref kF, .ref kX, .ref kY, .int 0, .ref kT, .ref kU, .int 0, .int 0, .int 0])), (kN, .inl (cI, 2, .inl (fun _ => 0)))]) [0, 1] rfl
    have hDc := hD.sub (ws' := [(k0, .inr (9, [.ref kN, .ref kA, .ref kO, .ref kK, .ref kV, .ref kG, .ref kP, .ref kC, .ref kD, .ref kE, .ref kF, .ref kX, .ref kY, .int 0, .ref kT, .ref kU, .int 0, .int 0, .int 0])), (kN, .inl (cI, 2, .inl (fun _ => 0)))]) [0, 1] (by decide) rfl
    have hKc := hK.sub (tys' := [(cI, .int)]) [0] rfl
    have hFc := va_free (wc := [(k0, .inr (9, [.ref kN, .ref kA, .ref kO, .ref kK, .ref kV, .ref kG, .ref kP, .ref kC, .ref kD, .ref kE, .ref kF, .ref kX, .ref kY, .int 0, .ref kT, .ref kU, .int 0, .int 0, .int 0])), (kN, .inl (cI, 2, .inl (fun _ => 0)))]) hD hS hA [0, 1] rfl
    refine va_calli (va_runV (As := [.int 0, .int ((nI i) - (nI i) / 10 * 10)]) (rest := []) ⟨hx, hb, hml, hown, hts⟩ (kX6_isNet0 l dC dI k0 kN kA kO kK kV kG kP kC kD kE kF kX kY kT kU cI ((nI i) - (nI i) / 10 * 10) s.heap.size) (cwV 2 hts gX6_isThere_X6_isNet rfl rfl rfl (by decide +kernel) ⟨Nat.le_of_ble_eq_true rfl, Nat.le_of_ble_eq_true rfl⟩) (fPreV hN hZ hS (fun q h => hFc q h) hPc hKc hDc (ci := 9) (q0 := 0) rfl rfl) rfl rfl hl.1 rfl (lv_room (Nat.le_of_ble_eq_true rfl)) dX6_isThere_28 ⟨Nat.le_of_ble_eq_true rfl, Nat.le_of_ble_eq_true rfl⟩) hS (fun q _ h => hFc q h) hFc (fun r u t H1 locs ht hvm hw hB hz1 hk1 hS => ?_)
    obtain ⟨hP1, hK1, hD1⟩ := hB
    rw [ht] at hP1
    have hK1 := va_K.moved hvm.symm hK1
    obtain ⟨hP, hD⟩ := va_join (wr := [(kA, .inl (cI, 2, .inl (fun _ => 0)))]) (w1 := [(k0, .inr (9, [.ref kN, .ref kA, .ref kO, .ref kK, .ref kV, .ref kG, .ref kP, .ref kC, .ref kD, .ref kE, .ref kF, .ref kX, .ref kY, .int 0, .ref kT, .ref kU, .int 0, .int 0, .int 0])), (kN, .inl (cI, 2, .inl (fun _ => 0)))]) hP hD [0, 1] [2] rfl rfl (by decide) (by decide) hk1 hFc hP1 hD1
    generalize H1 = H at hP hS ⊢
    have hP : va_P (dC, dI) vwCl [(kA, .inl (cI, 2, .inl (fun _ => 0))), (k0, .inr (9, [.ref kN, .ref kA, .ref kO, .ref kK, .ref kV, .ref kG, .ref kP, .ref kC, .ref kD, .ref kE, .ref kF, .ref kX, .ref kY, .int 0, .ref kT, .ref kU, .int 0, .int 0, .int 0])), (kN, .inl (cI, 2, .inl (fun _ => 0)))] _ := hP
    have hD : va_D A [(kA, .inl (cI, 2, .inl (fun _ => 0))), (k0, .inr (9, [.ref kN, .ref kA, .ref kO, .ref kK, .ref kV, .ref kG, .ref kP, .ref kC, .ref kD, .ref kE, .ref kF, .ref kX, .ref kY, .int 0, .ref kT, .ref kU, .int 0, .int 0, .int 0])), (kN, .inl (cI, 2, .inl (fun _ => 0)))] := hD
    subst hw
    exact ret _ () _ _ _ _ _ _ (rfl) (rfl) (hP.sub [1, 2, 0] rfl) (hK.sub [0] rfl) (hD.sub [1, 2, 0] (by decide) rfl) hS (Nat.le_of_ble_eq_true rfl) (Nat.le_of_ble_eq_true rfl) dX6_isThere_31
  · skip
    refine lv_iload_n hx hb dX6_isThere_0 rfl (lv_at hl 2 rfl) ?_
    refine lv_if_eq (tgt := 19) hx hb dX6_isThere_1 (by decide) (fun _ => ?_) (fun h9 => absurd (by decide) h9)
    refine lv_aload_n hx hb dX6_isThere_19 rfl (lv_at hl 0 rfl) ?_
    refine lv_iload_n hx hb dX6_isThere_20 rfl (lv_at hl 1 rfl) ?_
    refine lv_bipush (v := 10) hx hb dX6_isThere_21 (by decide) ?_
    refine lv_idiv hx hb dX6_isThere_23 (by decide) ?_
    refine lv_topi (fun y2 ey2 => ?_)
    obtain rfl : y2 = 1 := ey2.trans (fq1 hq hi)
    refine lv_iload_n hx hb dX6_isThere_24 rfl (lv_at hl 1 rfl) ?_
    refine lv_bipush (v := 10) hx hb dX6_isThere_25 (by decide) ?_
    refine lv_irem hx hb dX6_isThere_27 (by decide) ?_
    have hPc := hP.sub (ws' := [(k0, .inr (9, [.ref kN, .ref kA, .ref kO, .ref kK, .ref kV, .ref kG, .ref kP, .ref kC, .ref kD, .ref kE, .ref kF, .ref kX, .ref kY, .int 0, .ref kT, .ref kU, .int 0, .int 0, .int 0])), (kN, .inl (cI, 2, .inl (fun _ => 0)))]) [0, 1] rfl
    have hDc := hD.sub (ws' := [(k0, .inr (9, [.ref kN, .ref kA, .ref kO, .ref kK, .ref kV, .ref kG, .ref kP, .ref kC, .ref kD, .ref kE, .ref kF, .ref kX, .ref kY, .int 0, .ref kT, .ref kU, .int 0, .int 0, .int 0])), (kN, .inl (cI, 2, .inl (fun _ => 0)))]) [0, 1] (by decide) rfl
    have hKc := hK.sub (tys' := [(cI, .int)]) [0] rfl
    have hFc := va_free (wc := [(k0, .inr (9, [.ref kN, .ref kA, .ref kO, .ref kK, .ref kV, .ref kG, .ref kP, .ref kC, .ref kD, .ref kE, .ref kF, .ref kX, .ref kY, .int 0, .ref kT, .ref kU, .int 0, .int 0, .int 0])), (kN, .inl (cI, 2, .inl (fun _ => 0)))]) hD hS hA [0, 1] rfl
    refine va_calli (va_runV (As := [.int 1, .int ((nI i) - (nI i) / 10 * 10)]) (rest := []) ⟨hx, hb, hml, hown, hts⟩ (kX6_isNet1 l dC dI k0 kN kA kO kK kV kG kP kC kD kE kF kX kY kT kU cI ((nI i) - (nI i) / 10 * 10) s.heap.size) (cwV 2 hts gX6_isThere_X6_isNet rfl rfl rfl (by decide +kernel) ⟨Nat.le_of_ble_eq_true rfl, Nat.le_of_ble_eq_true rfl⟩) (fPreV hN hZ hS (fun q h => hFc q h) hPc hKc hDc (ci := 9) (q0 := 0) rfl rfl) rfl rfl hl.1 rfl (lv_room (Nat.le_of_ble_eq_true rfl)) dX6_isThere_28 ⟨Nat.le_of_ble_eq_true rfl, Nat.le_of_ble_eq_true rfl⟩) hS (fun q _ h => hFc q h) hFc (fun r u t H1 locs ht hvm hw hB hz1 hk1 hS => ?_)
    obtain ⟨hP1, hK1, hD1⟩ := hB
    rw [ht] at hP1
    have hK1 := va_K.moved hvm.symm hK1
    obtain ⟨hP, hD⟩ := va_join (wr := [(kA, .inl (cI, 2, .inl (fun _ => 0)))]) (w1 := [(k0, .inr (9, [.ref kN, .ref kA, .ref kO, .ref kK, .ref kV, .ref kG, .ref kP, .ref kC, .ref kD, .ref kE, .ref kF, .ref kX, .ref kY, .int 0, .ref kT, .ref kU, .int 0, .int 0, .int 0])), (kN, .inl (cI, 2, .inl (fun _ => 0)))]) hP hD [0, 1] [2] rfl rfl (by decide) (by decide) hk1 hFc hP1 hD1
    generalize H1 = H at hP hS ⊢
    have hP : va_P (dC, dI) vwCl [(kA, .inl (cI, 2, .inl (fun _ => 0))), (k0, .inr (9, [.ref kN, .ref kA, .ref kO, .ref kK, .ref kV, .ref kG, .ref kP, .ref kC, .ref kD, .ref kE, .ref kF, .ref kX, .ref kY, .int 0, .ref kT, .ref kU, .int 0, .int 0, .int 0])), (kN, .inl (cI, 2, .inl (fun _ => 0)))] _ := hP
    have hD : va_D A [(kA, .inl (cI, 2, .inl (fun _ => 0))), (k0, .inr (9, [.ref kN, .ref kA, .ref kO, .ref kK, .ref kV, .ref kG, .ref kP, .ref kC, .ref kD, .ref kE, .ref kF, .ref kX, .ref kY, .int 0, .ref kT, .ref kU, .int 0, .int 0, .int 0])), (kN, .inl (cI, 2, .inl (fun _ => 0)))] := hD
    subst hw
    exact ret _ () _ _ _ _ _ _ (rfl) (rfl) (hP.sub [1, 2, 0] rfl) (hK.sub [0] rfl) (hD.sub [1, 2, 0] (by decide) rfl) hS (Nat.le_of_ble_eq_true rfl) (Nat.le_of_ble_eq_true rfl) dX6_isThere_31

set_option maxHeartbeats 4000000 in
set_option maxRecDepth 100000 in
/-- isThere: nothing is there -/
theorem kX6_isThere1 (l : Launch) (dC : Nat → ClassId) (dI : Nat → Nat → Nat) (k0 kN kA kO kK kV kG kP kC kD kE kF kX kY kT kU : Nat) (cI : ClassId) (i : Nat) (sz : Nat) (hi : i < 20) : fMi l yX6_isThere wsX6_isThere ({ frames := 2, cells := 0, slots := 0, locals := 47 } : Room) dC dI [.ref k0, .int (nI i), .int 1] [(k0, .inr (9, [.ref kN, .ref kA, .ref kO, .ref kK, .ref kV, .ref kG, .ref kP, .ref kC, .ref kD, .ref kE, .ref kF, .ref kX, .ref kY, .int 0, .ref kT, .ref kU, .int 0, .int 0, .int 0])), (kN, .inl (cI, 2, .inl (fun _ => 0))), (kA, .inl (cI, 2, .inl (fun _ => 0)))] [(cI, .int)] sz (fun (r : Int32) (u : Unit) => r = 0) (fun u => [(k0, .inr (9, [.ref kN, .ref kA, .ref kO, .ref kK, .ref kV, .ref kG, .ref kP, .ref kC, .ref kD, .ref kE, .ref kF, .ref kX, .ref kY, .int 0, .ref kT, .ref kU, .int 0, .int 0, .int 0])), (kN, .inl (cI, 2, .inl (fun _ => 0))), (kA, .inl (cI, 2, .inl (fun _ => 0)))]) (fun u => [(cI, .int)]) := by
  refine oP_z (y := yX6_isThere) (cc := cX6_isThere) (maxL := 3) (by decide) rfl (Nat.le_of_ble_eq_true rfl) ?_
  intro p e s m args below meth c ls A Q hx hb hr hml hown hts hN hZ hA hin hlk hP hK hD hl ret
  have hS : va_S A s.heap s.heap [] := va_S.rf
  have hl : lv_has ls 3 [(0, .ref k0), (1, .int (nI i)), (2, .int 1)] := hl
  have hP : va_P (dC, dI) vwCl [(k0, .inr (9, [.ref kN, .ref kA, .ref kO, .ref kK, .ref kV, .ref kG, .ref kP, .ref kC, .ref kD, .ref kE, .ref kF, .ref kX, .ref kY, .int 0, .ref kT, .ref kU, .int 0, .int 0, .int 0])), (kN, .inl (cI, 2, .inl (fun _ => 0))), (kA, .inl (cI, 2, .inl (fun _ => 0)))] _ := hP
  have hD : va_D A [(k0, .inr (9, [.ref kN, .ref kA, .ref kO, .ref kK, .ref kV, .ref kG, .ref kP, .ref kC, .ref kD, .ref kE, .ref kF, .ref kX, .ref kY, .int 0, .ref kT, .ref kU, .int 0, .int 0, .int 0])), (kN, .inl (cI, 2, .inl (fun _ => 0))), (kA, .inl (cI, 2, .inl (fun _ => 0)))] := hD
  rcases Nat.lt_or_ge i 10 with hq | hq
  · skip
    refine lv_iload_n hx hb dX6_isThere_0 rfl (lv_at hl 2 rfl) ?_
    refine lv_if_eq (tgt := 19) hx hb dX6_isThere_1 (by decide) (fun h9 => absurd h9 (by decide)) (fun _ => ?_)
    refine lv_aload_n hx hb dX6_isThere_4 rfl (lv_at hl 0 rfl) ?_
    refine lv_iload_n hx hb dX6_isThere_5 rfl (lv_at hl 1 rfl) ?_
    refine lv_bipush (v := 10) hx hb dX6_isThere_6 (by decide) ?_
    refine lv_idiv hx hb dX6_isThere_8 (by decide) ?_
    refine lv_topi (fun y1 ey1 => ?_)
    obtain rfl : y1 = 0 := ey1.trans (fq0 hq)
    refine lv_iload_n hx hb dX6_isThere_9 rfl (lv_at hl 1 rfl) ?_
    refine lv_bipush (v := 10) hx hb dX6_isThere_10 (by decide) ?_
    refine lv_irem hx hb dX6_isThere_12 (by decide) ?_
    have hPc := hP.sub (ws' := [(k0, .inr (9, [.ref kN, .ref kA, .ref kO, .ref kK, .ref kV, .ref kG, .ref kP, .ref kC, .ref kD, .ref kE, .ref kF, .ref kX, .ref kY, .int 0, .ref kT, .ref kU, .int 0, .int 0, .int 0])), (kA, .inl (cI, 2, .inl (fun _ => 0)))]) [0, 2] rfl
    have hDc := hD.sub (ws' := [(k0, .inr (9, [.ref kN, .ref kA, .ref kO, .ref kK, .ref kV, .ref kG, .ref kP, .ref kC, .ref kD, .ref kE, .ref kF, .ref kX, .ref kY, .int 0, .ref kT, .ref kU, .int 0, .int 0, .int 0])), (kA, .inl (cI, 2, .inl (fun _ => 0)))]) [0, 2] (by decide) rfl
    have hKc := hK.sub (tys' := [(cI, .int)]) [0] rfl
    have hFc := va_free (wc := [(k0, .inr (9, [.ref kN, .ref kA, .ref kO, .ref kK, .ref kV, .ref kG, .ref kP, .ref kC, .ref kD, .ref kE, .ref kF, .ref kX, .ref kY, .int 0, .ref kT, .ref kU, .int 0, .int 0, .int 0])), (kA, .inl (cI, 2, .inl (fun _ => 0)))]) hD hS hA [0, 2] rfl
    refine va_calli (va_runV (As := [.int 0, .int ((nI i) - (nI i) / 10 * 10)]) (rest := []) ⟨hx, hb, hml, hown, hts⟩ (kX6_isPart0 l dC dI k0 kN kA kO kK kV kG kP kC kD kE kF kX kY kT kU cI ((nI i) - (nI i) / 10 * 10) s.heap.size) (cwV 2 hts gX6_isThere_X6_isPart rfl rfl rfl (by decide +kernel) ⟨Nat.le_of_ble_eq_true rfl, Nat.le_of_ble_eq_true rfl⟩) (fPreV hN hZ hS (fun q h => hFc q h) hPc hKc hDc (ci := 9) (q0 := 0) rfl rfl) rfl rfl hl.1 rfl (lv_room (Nat.le_of_ble_eq_true rfl)) dX6_isThere_13 ⟨Nat.le_of_ble_eq_true rfl, Nat.le_of_ble_eq_true rfl⟩) hS (fun q _ h => hFc q h) hFc (fun r u t H1 locs ht hvm hw hB hz1 hk1 hS => ?_)
    obtain ⟨hP1, hK1, hD1⟩ := hB
    rw [ht] at hP1
    have hK1 := va_K.moved hvm.symm hK1
    obtain ⟨hP, hD⟩ := va_join (wr := [(kN, .inl (cI, 2, .inl (fun _ => 0)))]) (w1 := [(k0, .inr (9, [.ref kN, .ref kA, .ref kO, .ref kK, .ref kV, .ref kG, .ref kP, .ref kC, .ref kD, .ref kE, .ref kF, .ref kX, .ref kY, .int 0, .ref kT, .ref kU, .int 0, .int 0, .int 0])), (kA, .inl (cI, 2, .inl (fun _ => 0)))]) hP hD [0, 2] [1] rfl rfl (by decide) (by decide) hk1 hFc hP1 hD1
    generalize H1 = H at hP hS ⊢
    have hP : va_P (dC, dI) vwCl [(kN, .inl (cI, 2, .inl (fun _ => 0))), (k0, .inr (9, [.ref kN, .ref kA, .ref kO, .ref kK, .ref kV, .ref kG, .ref kP, .ref kC, .ref kD, .ref kE, .ref kF, .ref kX, .ref kY, .int 0, .ref kT, .ref kU, .int 0, .int 0, .int 0])), (kA, .inl (cI, 2, .inl (fun _ => 0)))] _ := hP
    have hD : va_D A [(kN, .inl (cI, 2, .inl (fun _ => 0))), (k0, .inr (9, [.ref kN, .ref kA, .ref kO, .ref kK, .ref kV, .ref kG, .ref kP, .ref kC, .ref kD, .ref kE, .ref kF, .ref kX, .ref kY, .int 0, .ref kT, .ref kU, .int 0, .int 0, .int 0])), (kA, .inl (cI, 2, .inl (fun _ => 0)))] := hD
    subst hw
    refine lv_goto (tgt := 31) hx hb dX6_isThere_16 (by decide) ?_
    exact ret _ () _ _ _ _ _ _ (rfl) (rfl) (hP.sub [1, 0, 2] rfl) (hK.sub [0] rfl) (hD.sub [1, 0, 2] (by decide) rfl) hS (Nat.le_of_ble_eq_true rfl) (Nat.le_of_ble_eq_true rfl) dX6_isThere_31
  · skip
    refine lv_iload_n hx hb dX6_isThere_0 rfl (lv_at hl 2 rfl) ?_
    refine lv_if_eq (tgt := 19) hx hb dX6_isThere_1 (by decide) (fun h9 => absurd h9 (by decide)) (fun _ => ?_)
    refine lv_aload_n hx hb dX6_isThere_4 rfl (lv_at hl 0 rfl) ?_
    refine lv_iload_n hx hb dX6_isThere_5 rfl (lv_at hl 1 rfl) ?_
    refine lv_bipush (v := 10) hx hb dX6_isThere_6 (by decide) ?_
    refine lv_idiv hx hb dX6_isThere_8 (by decide) ?_
    refine lv_topi (fun y2 ey2 => ?_)
    obtain rfl : y2 = 1 := ey2.trans (fq1 hq hi)
    refine lv_iload_n hx hb dX6_isThere_9 rfl (lv_at hl 1 rfl) ?_
    refine lv_bipush (v := 10) hx hb dX6_isThere_10 (by decide) ?_
    refine lv_irem hx hb dX6_isThere_12 (by decide) ?_
    have hPc := hP.sub (ws' := [(k0, .inr (9, [.ref kN, .ref kA, .ref kO, .ref kK, .ref kV, .ref kG, .ref kP, .ref kC, .ref kD, .ref kE, .ref kF, .ref kX, .ref kY, .int 0, .ref kT, .ref kU, .int 0, .int 0, .int 0])), (kA, .inl (cI, 2, .inl (fun _ => 0)))]) [0, 2] rfl
    have hDc := hD.sub (ws' := [(k0, .inr (9, [.ref kN, .ref kA, .ref kO, .ref kK, .ref kV, .ref kG, .ref kP, .ref kC, .ref kD, .ref kE, .ref kF, .ref kX, .ref kY, .int 0, .ref kT, .ref kU, .int 0, .int 0, .int 0])), (kA, .inl (cI, 2, .inl (fun _ => 0)))]) [0, 2] (by decide) rfl
    have hKc := hK.sub (tys' := [(cI, .int)]) [0] rfl
    have hFc := va_free (wc := [(k0, .inr (9, [.ref kN, .ref kA, .ref kO, .ref kK, .ref kV, .ref kG, .ref kP, .ref kC, .ref kD, .ref kE, .ref kF, .ref kX, .ref kY, .int 0, .ref kT, .ref kU, .int 0, .int 0, .int 0])), (kA, .inl (cI, 2, .inl (fun _ => 0)))]) hD hS hA [0, 2] rfl
    refine va_calli (va_runV (As := [.int 1, .int ((nI i) - (nI i) / 10 * 10)]) (rest := []) ⟨hx, hb, hml, hown, hts⟩ (kX6_isPart1 l dC dI k0 kN kA kO kK kV kG kP kC kD kE kF kX kY kT kU cI ((nI i) - (nI i) / 10 * 10) s.heap.size) (cwV 2 hts gX6_isThere_X6_isPart rfl rfl rfl (by decide +kernel) ⟨Nat.le_of_ble_eq_true rfl, Nat.le_of_ble_eq_true rfl⟩) (fPreV hN hZ hS (fun q h => hFc q h) hPc hKc hDc (ci := 9) (q0 := 0) rfl rfl) rfl rfl hl.1 rfl (lv_room (Nat.le_of_ble_eq_true rfl)) dX6_isThere_13 ⟨Nat.le_of_ble_eq_true rfl, Nat.le_of_ble_eq_true rfl⟩) hS (fun q _ h => hFc q h) hFc (fun r u t H1 locs ht hvm hw hB hz1 hk1 hS => ?_)
    obtain ⟨hP1, hK1, hD1⟩ := hB
    rw [ht] at hP1
    have hK1 := va_K.moved hvm.symm hK1
    obtain ⟨hP, hD⟩ := va_join (wr := [(kN, .inl (cI, 2, .inl (fun _ => 0)))]) (w1 := [(k0, .inr (9, [.ref kN, .ref kA, .ref kO, .ref kK, .ref kV, .ref kG, .ref kP, .ref kC, .ref kD, .ref kE, .ref kF, .ref kX, .ref kY, .int 0, .ref kT, .ref kU, .int 0, .int 0, .int 0])), (kA, .inl (cI, 2, .inl (fun _ => 0)))]) hP hD [0, 2] [1] rfl rfl (by decide) (by decide) hk1 hFc hP1 hD1
    generalize H1 = H at hP hS ⊢
    have hP : va_P (dC, dI) vwCl [(kN, .inl (cI, 2, .inl (fun _ => 0))), (k0, .inr (9, [.ref kN, .ref kA, .ref kO, .ref kK, .ref kV, .ref kG, .ref kP, .ref kC, .ref kD, .ref kE, .ref kF, .ref kX, .ref kY, .int 0, .ref kT, .ref kU, .int 0, .int 0, .int 0])), (kA, .inl (cI, 2, .inl (fun _ => 0)))] _ := hP
    have hD : va_D A [(kN, .inl (cI, 2, .inl (fun _ => 0))), (k0, .inr (9, [.ref kN, .ref kA, .ref kO, .ref kK, .ref kV, .ref kG, .ref kP, .ref kC, .ref kD, .ref kE, .ref kF, .ref kX, .ref kY, .int 0, .ref kT, .ref kU, .int 0, .int 0, .int 0])), (kA, .inl (cI, 2, .inl (fun _ => 0)))] := hD
    subst hw
    refine lv_goto (tgt := 31) hx hb dX6_isThere_16 (by decide) ?_
    exact ret _ () _ _ _ _ _ _ (rfl) (rfl) (hP.sub [1, 0, 2] rfl) (hK.sub [0] rfl) (hD.sub [1, 0, 2] (by decide) rfl) hS (Nat.le_of_ble_eq_true rfl) (Nat.le_of_ble_eq_true rfl) dX6_isThere_31

set_option maxHeartbeats 4000000 in
set_option maxRecDepth 100000 in
/-- fresh: behind nothing but -1 -/
theorem kX6_fresh (l : Launch) (dC : Nat → ClassId) (dI : Nat → Nat → Nat) (xa : Nat) (cI : ClassId) (f : Nat → Int32) (sz : Nat) (hf : ∀ j, j < 20 → f j = (-1)) : fMi l yX6_fresh wsX6_fresh ({ frames := 1, cells := 0, slots := 0, locals := 13 } : Room) dC dI [.ref xa, .int 20] [(xa, .inl (cI, 20, .inl f))] [(cI, .int)] sz (fun (r : Int32) (u : Unit) => r = 0) (fun u => [(xa, .inl (cI, 20, .inl f))]) (fun u => [(cI, .int)]) := by
  refine oP_i (y := yX6_fresh) (cc := cX6_fresh) (maxL := 4) (by decide) rfl (Nat.le_of_ble_eq_true rfl) ?_
  intro p e s m args below meth c ls A Q hx hb hr hml hown hts hN hZ hA hin hlk hP hK hD hl ret
  have hS : va_S A s.heap s.heap [] := va_S.rf
  have hl : lv_has ls 4 [(0, .ref xa), (1, .int 20)] := hl
  have hP : va_P (dC, dI) vwCl [(xa, .inl (cI, 20, .inl f))] _ := hP
  have hD : va_D A [(xa, .inl (cI, 20, .inl f))] := hD
  refine lv_iconst (v := (-1)) hx hb dX6_fresh_0 (by decide) ?_
  refine lv_istore_n (lv' := [(2, .int (-1)), (0, .ref xa), (1, .int 20)]) hx hb dX6_fresh_1 rfl hl (Nat.le_of_ble_eq_true rfl) rfl (fun ls hl => ?_)
  refine lv_iconst (v := 0) hx hb dX6_fresh_2 (by decide) ?_
  refine lv_istore_n (lv' := [(3, .int 0), (2, .int (-1)), (0, .ref xa), (1, .int 20)]) hx hb dX6_fresh_3 rfl hl (Nat.le_of_ble_eq_true rfl) rfl (fun ls hl => ?_)
  have lp4 : ∀ (n i : Nat), i ≤ 20 → 20 - i < n → ∀  (ls : Array Slot) (H : Heap) (locs : List Loc), lv_has ls 4 [(3, .int (nI i)), (2, .int (-1)), (0, .ref xa), (1, .int 20)] → va_P (dC, dI) vwCl [(xa, .inl (cI, 20, .inl f))] H → va_D A [(xa, .inl (cI, 20, .inl f))] → va_S A s.heap H locs → W p l e ({ frames := 1, cells := 0, slots := 0, locals := 13 } : Room) s m args below meth c H locs 0 0 Q (F0 m 4 ls []) := by
    intro n
    induction n with
    | zero => intro i _ h9; exact absurd h9 (Nat.not_lt_zero _)
    | succ n ih =>
      intro i hi ni  ls H locs hl hP hD hS
      rcases Nat.lt_or_ge i 20 with hlt | hge
      · skip
        refine lv_iload_n hx hb dX6_fresh_4 rfl (lv_at hl 0 rfl) ?_
        refine lv_iload_n hx hb dX6_fresh_5 rfl (lv_at hl 3 rfl) ?_
        refine lv_icmp_ge (tgt := 23) hx hb dX6_fresh_6 (by decide) (fun h9 => absurd h9 (show ¬ nI 20 ≤ nI i from nI_ge hlt (by decide))) (fun _ => ?_)
        refine lv_iload_n hx hb dX6_fresh_9 rfl (lv_at hl 1 rfl) ?_
        refine lv_aload_n hx hb dX6_fresh_10 rfl (lv_at hl 2 rfl) ?_
        refine lv_iload_n hx hb dX6_fresh_11 rfl (lv_at hl 0 rfl) ?_
        refine va_iald hx hb hK hP 0 0 rfl rfl (vp_in_nI (Nat.lt_of_lt_of_le hlt (by decide)) (by decide)) dX6_fresh_12 ?_
        refine lv_topi (fun y1 ey1 => ?_)
        obtain rfl : y1 = (-1) := ey1.trans (fEl (i := i) hf (by omega) (by decide))
        refine va_mmax hx hb (hml.trans hl.1.symm) hown (hts (.methodLink RX6 132 Lib.Math.max.name) (List.mem_cons_of_mem _ (List.mem_append_left _ (List.mem_of_getElem? (i := 0) rfl)))) (hts (.static Lib.Math.max.name) (List.mem_cons_of_mem _ (List.mem_append_left _ (List.mem_of_getElem? (i := 1) rfl)))) (hts (.initialized "java/lang/Math") (List.mem_cons_of_mem _ (List.mem_append_left _ (List.mem_of_getElem? (i := 2) rfl)))) (hts (.code Lib.Math.max.name Lib.Math.max.code 2 (some .int)) (List.mem_cons_of_mem _ (List.mem_append_left _ (List.mem_of_getElem? (i := 3) rfl)))) (Nat.le_of_ble_eq_true rfl) (Nat.le_of_ble_eq_true rfl) (Nat.le_of_ble_eq_true rfl) (Nat.le_of_ble_eq_true rfl) dX6_fresh_13 ?_
        refine lv_topi (fun y2 ey2 => ?_)
        obtain rfl : y2 = (-1) := ey2.trans (by decide)
        refine lv_istore_n (lv' := [(2, .int (-1)), (3, .int (nI i)), (0, .ref xa), (1, .int 20)]) hx hb dX6_fresh_16 rfl hl (Nat.le_of_ble_eq_true rfl) rfl (fun ls hl => ?_)
        refine lv_iinc (v := (nI (i + 1))) (lv' := [(3, .int (nI (i + 1))), (2, .int (-1)), (0, .ref xa), (1, .int 20)]) hx hb dX6_fresh_17 hl (k := 1) rfl (nI_1 _) (Nat.le_of_ble_eq_true rfl) rfl (fun ls hl => ?_)
        refine lv_goto (tgt := 4) hx hb dX6_fresh_20 (by decide) ?_
        exact ih (i + 1) hlt (by omega) _ _ _ (lv_sub hl [0, 1, 2, 3] rfl) (hP.sub [0] rfl) (hD.sub [0] (by decide) rfl) hS
      · skip
        refine lv_iload_n hx hb dX6_fresh_4 rfl (lv_at hl 0 rfl) ?_
        refine lv_iload_n hx hb dX6_fresh_5 rfl (lv_at hl 3 rfl) ?_
        refine lv_icmp_ge (tgt := 23) hx hb dX6_fresh_6 (by decide) (fun _ => ?_) (fun h9 => absurd (show nI 20 ≤ nI i from nI_le hge (Nat.lt_of_le_of_lt hi (by decide))) h9)
        refine lv_iload_n hx hb dX6_fresh_23 rfl (lv_at hl 1 rfl) ?_
        refine lv_iconst (v := 1) hx hb dX6_fresh_24 (by decide) ?_
        refine lv_iadd hx hb dX6_fresh_25 ?_
        refine lv_topi (fun y3 ey3 => ?_)
        obtain rfl : y3 = 0 := ey3.trans (by decide)
        exact ret _ () _ _ _ _ _ _ (rfl) (hP.sub [0] rfl) (hK.sub [0] rfl) (hD.sub [0] (by decide) rfl) hS (Nat.le_of_ble_eq_true rfl) (Nat.le_of_ble_eq_true rfl) dX6_fresh_26
  exact lp4 (20 + 1) 0 (Nat.le_of_ble_eq_true rfl) (by decide) _ _ _ (lv_sub hl [0, 1, 2, 3] rfl) (hP.sub [0] rfl) (hD.sub [0] (by decide) rfl) hS

set_option maxHeartbeats 4000000 in
set_option maxRecDepth 100000 in
/-- classes: none -/
theorem kX6_classes (l : Launch) (dC : Nat → ClassId) (dI : Nat → Nat → Nat) (xa : Nat) (cI : ClassId) (f : Nat → Int32) (sz : Nat) (hf : ∀ j, j < 20 → f j = (-1)) : fMi l yX6_classes wsX6_classes ({ frames := 2, cells := 0, slots := 0, locals := 36 } : Room) dC dI [.ref xa] [(xa, .inl (cI, 20, .inl f))] [(cI, .int)] sz (fun (r : Int32) (u : Unit) => r = 0) (fun u => [(xa, .inl (cI, 20, .inl f))]) (fun u => [(cI, .int)]) := by
  refine oP_i (y := yX6_classes) (cc := cX6_classes) (maxL := 1) (by decide) rfl (Nat.le_of_ble_eq_true rfl) ?_
  intro p e s m args below meth c ls A Q hx hb hr hml hown hts hN hZ hA hin hlk hP hK hD hl ret
  have hS : va_S A s.heap s.heap [] := va_S.rf
  have hl : lv_has ls 1 [(0, .ref xa)] := hl
  have hP : va_P (dC, dI) vwCl [(xa, .inl (cI, 20, .inl f))] _ := hP
  have hD : va_D A [(xa, .inl (cI, 20, .inl f))] := hD
  refine lv_aload_n hx hb dX6_classes_0 rfl (lv_at hl 0 rfl) ?_
  refine lv_aload_n hx hb dX6_classes_1 rfl (lv_at hl 0 rfl) ?_
  refine va_alen hx hb hK hP 0 0 rfl rfl (v := 20) rfl dX6_classes_2 ?_
  have hPc := hP.sub (ws' := [(xa, .inl (cI, 20, .inl f))]) [0] rfl
  have hDc := hD.sub (ws' := [(xa, .inl (cI, 20, .inl f))]) [0] (by decide) rfl
  have hKc := hK.sub (tys' := [(cI, .int)]) [0] rfl
  have hFc := va_free (wc := [(xa, .inl (cI, 20, .inl f))]) hD hS hA [0] rfl
  refine va_calli (va_runS (As := [.ref xa, .int 20]) (rest := []) ⟨hx, hb, hml, hown, hts⟩ (kX6_fresh l dC dI xa cI f s.heap.size hf) (va_cwS 2 hts gX6_classes_X6_fresh rfl rfl rfl (by decide +kernel) ⟨Nat.le_of_ble_eq_true rfl, Nat.le_of_ble_eq_true rfl⟩) (fPreS hN hZ hS (fun q h => hFc q h) hPc hKc hDc) rfl rfl hl.1 rfl (lv_room (Nat.le_of_ble_eq_true rfl)) dX6_classes_3 ⟨Nat.le_of_ble_eq_true rfl, Nat.le_of_ble_eq_true rfl⟩) hS (fun q _ h => hFc q h) hFc (fun r u t H1 locs ht hvm hw hB hz1 hk1 hS => ?_)
  obtain ⟨hP1, hK1, hD1⟩ := hB
  rw [ht] at hP1
  have hK1 := va_K.moved hvm.symm hK1
  obtain ⟨hP, hD⟩ := va_join (wr := []) (w1 := [(xa, .inl (cI, 20, .inl f))]) hP hD [0] [] rfl rfl (by decide) (by decide) hk1 hFc hP1 hD1
  generalize H1 = H at hP hS ⊢
  have hP : va_P (dC, dI) vwCl [(xa, .inl (cI, 20, .inl f))] _ := hP
  have hD : va_D A [(xa, .inl (cI, 20, .inl f))] := hD
  subst hw
  exact ret _ () _ _ _ _ _ _ (rfl) (hP.sub [0] rfl) (hK.sub [0] rfl) (hD.sub [0] (by decide) rfl) hS (Nat.le_of_ble_eq_true rfl) (Nat.le_of_ble_eq_true rfl) dX6_classes_6

set_option maxHeartbeats 4000000 in
set_option maxRecDepth 100000 in
/-- numbers: no colour -/
theorem kX6_numbers0 (l : Launch) (dC : Nat → ClassId) (dI : Nat → Nat → Nat) (k0 kN kA kO kK kV kG kP kC kD kE kF kX kY kT kU : Nat) (cI : ClassId) (xa : Nat) (g : Nat → Int32) (sz : Nat) : fMv l yX6_numbers wsX6_numbers ({ frames := 3, cells := 0, slots := 0, locals := 69 } : Room) dC dI [.ref k0, .int 0, .ref xa] [(k0, .inr (9, [.ref kN, .ref kA, .ref kO, .ref kK, .ref kV, .ref kG, .ref kP, .ref kC, .ref kD, .ref kE, .ref kF, .ref kX, .ref kY, .int 0, .ref kT, .ref kU, .int 0, .int 0, .int 0])), (kN, .inl (cI, 2, .inl (fun _ => 0))), (kA, .inl (cI, 2, .inl (fun _ => 0))), (xa, .inl (cI, 20, .inl g))] [(cI, .int)] sz (fun (u : Nat → Int32) => ∀ j, j < 20 → u j = (-1)) (fun u => [(k0, .inr (9, [.ref kN, .ref kA, .ref kO, .ref kK, .ref kV, .ref kG, .ref kP, .ref kC, .ref kD, .ref kE, .ref kF, .ref kX, .ref kY, .int 0, .ref kT, .ref kU, .int 0, .int 0, .int 0])), (kN, .inl (cI, 2, .inl (fun _ => 0))), (kA, .inl (cI, 2, .inl (fun _ => 0))), (xa, .inl (cI, 20, .inl u))]) (fun u => [(cI, .int)]) := by
  refine oP_v (y := yX6_numbers) (cc := cX6_numbers) (maxL := 5) (by decide) rfl (Nat.le_of_ble_eq_true rfl) ?_
  intro p e s m args below meth c ls A Q hx hb hr hml hown hts hN hZ hA hin hlk hP hK hD hl ret
  have hS : va_S A s.heap s.heap [] := va_S.rf
  have hl : lv_has ls 5 [(0, .ref k0), (1, .int 0), (2, .ref xa)] := hl
  have hP : va_P (dC, dI) vwCl [(k0, .inr (9, [.ref kN, .ref kA, .ref kO, .ref kK, .ref kV, .ref kG, .ref kP, .ref kC, .ref kD, .ref kE, .ref kF, .ref kX, .ref kY, .int 0, .ref kT, .ref kU, .int 0, .int 0, .int 0])), (kN, .inl (cI, 2, .inl (fun _ => 0))), (kA, .inl (cI, 2, .inl (fun _ => 0))), (xa, .inl (cI, 20, .inl g))] _ := hP
  have hD : va_D A [(k0, .inr (9, [.ref kN, .ref kA, .ref kO, .ref kK, .ref kV, .ref kG, .ref kP, .ref kC, .ref kD, .ref kE, .ref kF, .ref kX, .ref kY, .int 0, .ref kT, .ref kU, .int 0, .int 0, .int 0])), (kN, .inl (cI, 2, .inl (fun _ => 0))), (kA, .inl (cI, 2, .inl (fun _ => 0))), (xa, .inl (cI, 20, .inl g))] := hD
  refine lv_iconst (v := 0) hx hb dX6_numbers_0 (by decide) ?_
  refine lv_istore_n (lv' := [(3, .int 0), (0, .ref k0), (1, .int 0), (2, .ref xa)]) hx hb dX6_numbers_1 rfl hl (Nat.le_of_ble_eq_true rfl) rfl (fun ls hl => ?_)
  have lp2 : ∀ (n i : Nat), i ≤ 20 → 20 - i < n → ∀ (g_xa : Nat → Int32) (ls : Array Slot) (H : Heap) (locs : List Loc), (∀ j, j < i → g_xa j = (-1)) → lv_has ls 5 [(3, .int (nI i)), (0, .ref k0), (1, .int 0), (2, .ref xa)] → va_P (dC, dI) vwCl [(k0, .inr (9, [.ref kN, .ref kA, .ref kO, .ref kK, .ref kV, .ref kG, .ref kP, .ref kC, .ref kD, .ref kE, .ref kF, .ref kX, .ref kY, .int 0, .ref kT, .ref kU, .int 0, .int 0, .int 0])), (kN, .inl (cI, 2, .inl (fun _ => 0))), (kA, .inl (cI, 2, .inl (fun _ => 0))), (xa, .inl (cI, 20, .inl g_xa))] H → va_D A [(k0, .inr (9, [.ref kN, .ref kA, .ref kO, .ref kK, .ref kV, .ref kG, .ref kP, .ref kC, .ref kD, .ref kE, .ref kF, .ref kX, .ref kY, .int 0, .ref kT, .ref kU, .int 0, .int 0, .int 0])), (kN, .inl (cI, 2, .inl (fun _ => 0))), (kA, .inl (cI, 2, .inl (fun _ => 0))), (xa, .inl (cI, 20, .inl g_xa))] → va_S A s.heap H locs → W p l e ({ frames := 3, cells := 0, slots := 0, locals := 69 } : Room) s m args below meth c H locs 0 0 Q (F0 m 2 ls []) := by
    intro n
    induction n with
    | zero => intro i _ h9; exact absurd h9 (Nat.not_lt_zero _)
    | succ n ih =>
      intro i hi ni g_xa ls H locs hinv hl hP hD hS
      rcases Nat.lt_or_ge i 20 with hlt | hge
      · skip
        refine lv_iload_n hx hb dX6_numbers_2 rfl (lv_at hl 0 rfl) ?_
        refine lv_bipush (v := 20) hx hb dX6_numbers_3 (by decide) ?_
        refine lv_icmp_ge (tgt := 107) hx hb dX6_numbers_5 (by decide) (fun h9 => absurd h9 (show ¬ nI 20 ≤ nI i from nI_ge hlt (by decide))) (fun _ => ?_)
        refine lv_aload_n hx hb dX6_numbers_8 rfl (lv_at hl 3 rfl) ?_
        refine lv_iload_n hx hb dX6_numbers_9 rfl (lv_at hl 0 rfl) ?_
        refine lv_iconst (v := (-1)) hx hb dX6_numbers_10 (by decide) ?_
        refine va_iast hx hb hK hP hD hS 3 0 rfl rfl (vp_in_nI (Nat.lt_of_lt_of_le hlt (by decide)) (by decide)) dX6_numbers_11 (fun H locs hP hD hS => ?_)
        rw [nI_clamp (show i < 2 ^ 31 by omega)] at hP hD
        have hP : va_P (dC, dI) vwCl [(k0, .inr (9, [.ref kN, .ref kA, .ref kO, .ref kK, .ref kV, .ref kG, .ref kP, .ref kC, .ref kD, .ref kE, .ref kF, .ref kX, .ref kY, .int 0, .ref kT, .ref kU, .int 0, .int 0, .int 0])), (kN, .inl (cI, 2, .inl (fun _ => 0))), (kA, .inl (cI, 2, .inl (fun _ => 0))), (xa, .inl (cI, 20, .inl (upd g_xa i (-1))))] _ := hP
        have hD : va_D A [(k0, .inr (9, [.ref kN, .ref kA, .ref kO, .ref kK, .ref kV, .ref kG, .ref kP, .ref kC, .ref kD, .ref kE, .ref kF, .ref kX, .ref kY, .int 0, .ref kT, .ref kU, .int 0, .int 0, .int 0])), (kN, .inl (cI, 2, .inl (fun _ => 0))), (kA, .inl (cI, 2, .inl (fun _ => 0))), (xa, .inl (cI, 20, .inl (upd g_xa i (-1))))] := hD
        refine lv_iload_n hx hb dX6_numbers_12 rfl (lv_at hl 0 rfl) ?_
        refine lv_iconst (v := 1) hx hb dX6_numbers_13 (by decide) ?_
        refine lv_isub hx hb dX6_numbers_14 ?_
        refine lv_istore (lv' := [(4, .int ((nI i) - 1)), (3, .int (nI i)), (0, .ref k0), (1, .int 0), (2, .ref xa)]) hx hb dX6_numbers_15 hl (Nat.le_of_ble_eq_true rfl) rfl (fun ls hl => ?_)
        refine lv_iload hx hb dX6_numbers_17 (lv_at hl 0 rfl) ?_
        refine lv_if_lt (tgt := 71) hx hb dX6_numbers_19 (by decide) (fun h1 => ?_) (fun h1 => ?_)
        · skip
          refine lv_aload_n hx hb dX6_numbers_71 rfl (lv_at hl 4 rfl) ?_
          refine lv_iload_n hx hb dX6_numbers_72 rfl (lv_at hl 1 rfl) ?_
          refine lv_aload_n hx hb dX6_numbers_73 rfl (lv_at hl 2 rfl) ?_
          refine lv_iload_n hx hb dX6_numbers_74 rfl (lv_at hl 1 rfl) ?_
          refine lv_iload_n hx hb dX6_numbers_75 rfl (lv_at hl 3 rfl) ?_
          have hPc := hP.sub (ws' := [(k0, .inr (9, [.ref kN, .ref kA, .ref kO, .ref kK, .ref kV, .ref kG, .ref kP, .ref kC, .ref kD, .ref kE, .ref kF, .ref kX, .ref kY, .int 0, .ref kT, .ref kU, .int 0, .int 0, .int 0])), (kN, .inl (cI, 2, .inl (fun _ => 0))), (kA, .inl (cI, 2, .inl (fun _ => 0)))]) [0, 1, 2] rfl
          have hDc := hD.sub (ws' := [(k0, .inr (9, [.ref kN, .ref kA, .ref kO, .ref kK, .ref kV, .ref kG, .ref kP, .ref kC, .ref kD, .ref kE, .ref kF, .ref kX, .ref kY, .int 0, .ref kT, .ref kU, .int 0, .int 0, .int 0])), (kN, .inl (cI, 2, .inl (fun _ => 0))), (kA, .inl (cI, 2, .inl (fun _ => 0)))]) [0, 1, 2] (by decide) rfl
          have hKc := hK.sub (tys' := [(cI, .int)]) [0] rfl
          have hFc := va_free (wc := [(k0, .inr (9, [.ref kN, .ref kA, .ref kO, .ref kK, .ref kV, .ref kG, .ref kP, .ref kC, .ref kD, .ref kE, .ref kF, .ref kX, .ref kY, .int 0, .ref kT, .ref kU, .int 0, .int 0, .int 0])), (kN, .inl (cI, 2, .inl (fun _ => 0))), (kA, .inl (cI, 2, .inl (fun _ => 0)))]) hD hS hA [0, 1, 2] rfl
          refine va_calli (va_runV (As := [.int (nI i), .int 0]) (rest := [.int (nI i), .ref xa]) ⟨hx, hb, hml, hown, hts⟩ (kX6_isThere0 l dC dI k0 kN kA kO kK kV kG kP kC kD kE kF kX kY kT kU cI i H.size (by omega)) (cwV 2 hts gX6_numbers_X6_isThere rfl rfl rfl (by decide +kernel) ⟨Nat.le_of_ble_eq_true rfl, Nat.le_of_ble_eq_true rfl⟩) (fPreV hN hZ hS (fun q h => hFc q h) hPc hKc hDc (ci := 9) (q0 := 0) rfl rfl) rfl rfl hl.1 rfl (lv_room (Nat.le_of_ble_eq_true rfl)) dX6_numbers_76 ⟨Nat.le_of_ble_eq_true rfl, Nat.le_of_ble_eq_true rfl⟩) hS (fun q _ h => hFc q h) hFc (fun r u t H1 locs ht hvm hw hB hz1 hk1 hS => ?_)
          obtain ⟨hP1, hK1, hD1⟩ := hB
          rw [ht] at hP1
          have hK1 := va_K.moved hvm.symm hK1
          obtain ⟨hP, hD⟩ := va_join (wr := [(xa, .inl (cI, 20, .inl (upd g_xa i (-1))))]) (w1 := [(k0, .inr (9, [.ref kN, .ref kA, .ref kO, .ref kK, .ref kV, .ref kG, .ref kP, .ref kC, .ref kD, .ref kE, .ref kF, .ref kX, .ref kY, .int 0, .ref kT, .ref kU, .int 0, .int 0, .int 0])), (kN, .inl (cI, 2, .inl (fun _ => 0))), (kA, .inl (cI, 2, .inl (fun _ => 0)))]) hP hD [0, 1, 2] [3] rfl rfl (by decide) (by decide) hk1 hFc hP1 hD1
          generalize H1 = H at hP hS ⊢
          have hP : va_P (dC, dI) vwCl [(xa, .inl (cI, 20, .inl (upd g_xa i (-1)))), (k0, .inr (9, [.ref kN, .ref kA, .ref kO, .ref kK, .ref kV, .ref kG, .ref kP, .ref kC, .ref kD, .ref kE, .ref kF, .ref kX, .ref kY, .int 0, .ref kT, .ref kU, .int 0, .int 0, .int 0])), (kN, .inl (cI, 2, .inl (fun _ => 0))), (kA, .inl (cI, 2, .inl (fun _ => 0)))] _ := hP
          have hD : va_D A [(xa, .inl (cI, 20, .inl (upd g_xa i (-1)))), (k0, .inr (9, [.ref kN, .ref kA, .ref kO, .ref kK, .ref kV, .ref kG, .ref kP, .ref kC, .ref kD, .ref kE, .ref kF, .ref kX, .ref kY, .int 0, .ref kT, .ref kU, .int 0, .int 0, .int 0])), (kN, .inl (cI, 2, .inl (fun _ => 0))), (kA, .inl (cI, 2, .inl (fun _ => 0)))] := hD
          subst hw
          refine lv_if_eq (tgt := 97) hx hb dX6_numbers_79 (by decide) (fun _ => ?_) (fun h9 => absurd (by decide) h9)
          refine lv_aload_n hx hb dX6_numbers_97 rfl (lv_at hl 4 rfl) ?_
          refine lv_iload_n hx hb dX6_numbers_98 rfl (lv_at hl 1 rfl) ?_
          refine va_iald hx hb hK hP 0 0 rfl rfl (vp_in_nI (Nat.lt_of_lt_of_le hlt (by decide)) (by decide)) dX6_numbers_99 ?_
          refine lv_topi (fun y2 ey2 => ?_)
          obtain rfl : y2 = (-1) := ey2.trans (fAt _ _ _ (by omega))
          refine va_iast hx hb hK hP hD hS 0 0 rfl rfl (vp_in_nI (Nat.lt_of_lt_of_le hlt (by decide)) (by decide)) dX6_numbers_100 (fun H locs hP hD hS => ?_)
          rw [nI_clamp (show i < 2 ^ 31 by omega)] at hP hD
          have hP : va_P (dC, dI) vwCl [(xa, .inl (cI, 20, .inl (upd (upd g_xa i (-1)) i (-1)))), (k0, .inr (9, [.ref kN, .ref kA, .ref kO, .ref kK, .ref kV, .ref kG, .ref kP, .ref kC, .ref kD, .ref kE, .ref kF, .ref kX, .ref kY, .int 0, .ref kT, .ref kU, .int 0, .int 0, .int 0])), (kN, .inl (cI, 2, .inl (fun _ => 0))), (kA, .inl (cI, 2, .inl (fun _ => 0)))] _ := hP
          have hD : va_D A [(xa, .inl (cI, 20, .inl (upd (upd g_xa i (-1)) i (-1)))), (k0, .inr (9, [.ref kN, .ref kA, .ref kO, .ref kK, .ref kV, .ref kG, .ref kP, .ref kC, .ref kD, .ref kE, .ref kF, .ref kX, .ref kY, .int 0, .ref kT, .ref kU, .int 0, .int 0, .int 0])), (kN, .inl (cI, 2, .inl (fun _ => 0))), (kA, .inl (cI, 2, .inl (fun _ => 0)))] := hD
          rw [fU2] at hP hD
          have hP : va_P (dC, dI) vwCl [(xa, .inl (cI, 20, .inl (upd g_xa i (-1)))), (k0, .inr (9, [.ref kN, .ref kA, .ref kO, .ref kK, .ref kV, .ref kG, .ref kP, .ref kC, .ref kD, .ref kE, .ref kF, .ref kX, .ref kY, .int 0, .ref kT, .ref kU, .int 0, .int 0, .int 0])), (kN, .inl (cI, 2, .inl (fun _ => 0))), (kA, .inl (cI, 2, .inl (fun _ => 0)))] _ := hP
          have hD : va_D A [(xa, .inl (cI, 20, .inl (upd g_xa i (-1)))), (k0, .inr (9, [.ref kN, .ref kA, .ref kO, .ref kK, .ref kV, .ref kG, .ref kP, .ref kC, .ref kD, .ref kE, .ref kF, .ref kX, .ref kY, .int 0, .ref kT, .ref kU, .int 0, .int 0, .int 0])), (kN, .inl (cI, 2, .inl (fun _ => 0))), (kA, .inl (cI, 2, .inl (fun _ => 0)))] := hD
          refine lv_iinc (v := (nI (i + 1))) (lv' := [(3, .int (nI (i + 1))), (4, .int ((nI i) - 1)), (0, .ref k0), (1, .int 0), (2, .ref xa)]) hx hb dX6_numbers_101 hl (k := 1) rfl (nI_1 _) (Nat.le_of_ble_eq_true rfl) rfl (fun ls hl => ?_)
          refine lv_goto (tgt := 2) hx hb dX6_numbers_104 (by decide) ?_
          exact ih (i + 1) hlt (by omega) (upd g_xa i (-1)) _ _ _ (fInv hinv) (lv_sub hl [0, 2, 3, 4] rfl) (hP.sub [1, 2, 3, 0] rfl) (hD.sub [1, 2, 3, 0] (by decide) rfl) hS
        · skip
          refine lv_aload_n hx hb dX6_numbers_22 rfl (lv_at hl 2 rfl) ?_
          refine lv_iload_n hx hb dX6_numbers_23 rfl (lv_at hl 1 rfl) ?_
          refine lv_iload_n hx hb dX6_numbers_24 rfl (lv_at hl 3 rfl) ?_
          have hPc := hP.sub (ws' := [(k0, .inr (9, [.ref kN, .ref kA, .ref kO, .ref kK, .ref kV, .ref kG, .ref kP, .ref kC, .ref kD, .ref kE, .ref kF, .ref kX, .ref kY, .int 0, .ref kT, .ref kU, .int 0, .int 0, .int 0])), (kN, .inl (cI, 2, .inl (fun _ => 0))), (kA, .inl (cI, 2, .inl (fun _ => 0)))]) [0, 1, 2] rfl
          have hDc := hD.sub (ws' := [(k0, .inr (9, [.ref kN, .ref kA, .ref kO, .ref kK, .ref kV, .ref kG, .ref kP, .ref kC, .ref kD, .ref kE, .ref kF, .ref kX, .ref kY, .int 0, .ref kT, .ref kU, .int 0, .int 0, .int 0])), (kN, .inl (cI, 2, .inl (fun _ => 0))), (kA, .inl (cI, 2, .inl (fun _ => 0)))]) [0, 1, 2] (by decide) rfl
          have hKc := hK.sub (tys' := [(cI, .int)]) [0] rfl
          have hFc := va_free (wc := [(k0, .inr (9, [.ref kN, .ref kA, .ref kO, .ref kK, .ref kV, .ref kG, .ref kP, .ref kC, .ref kD, .ref kE, .ref kF, .ref kX, .ref kY, .int 0, .ref kT, .ref kU, .int 0, .int 0, .int 0])), (kN, .inl (cI, 2, .inl (fun _ => 0))), (kA, .inl (cI, 2, .inl (fun _ => 0)))]) hD hS hA [0, 1, 2] rfl
          refine va_calli (va_runV (As := [.int (nI i), .int 0]) (rest := []) ⟨hx, hb, hml, hown, hts⟩ (kX6_isThere0 l dC dI k0 kN kA kO kK kV kG kP kC kD kE kF kX kY kT kU cI i H.size (by omega)) (cwV 2 hts gX6_numbers_X6_isThere rfl rfl rfl (by decide +kernel) ⟨Nat.le_of_ble_eq_true rfl, Nat.le_of_ble_eq_true rfl⟩) (fPreV hN hZ hS (fun q h => hFc q h) hPc hKc hDc (ci := 9) (q0 := 0) rfl rfl) rfl rfl hl.1 rfl (lv_room (Nat.le_of_ble_eq_true rfl)) dX6_numbers_25 ⟨Nat.le_of_ble_eq_true rfl, Nat.le_of_ble_eq_true rfl⟩) hS (fun q _ h => hFc q h) hFc (fun r u t H1 locs ht hvm hw hB hz1 hk1 hS => ?_)
          obtain ⟨hP1, hK1, hD1⟩ := hB
          rw [ht] at hP1
          have hK1 := va_K.moved hvm.symm hK1
          obtain ⟨hP, hD⟩ := va_join (wr := [(xa, .inl (cI, 20, .inl (upd g_xa i (-1))))]) (w1 := [(k0, .inr (9, [.ref kN, .ref kA, .ref kO, .ref kK, .ref kV, .ref kG, .ref kP, .ref kC, .ref kD, .ref kE, .ref kF, .ref kX, .ref kY, .int 0, .ref kT, .ref kU, .int 0, .int 0, .int 0])), (kN, .inl (cI, 2, .inl (fun _ => 0))), (kA, .inl (cI, 2, .inl (fun _ => 0)))]) hP hD [0, 1, 2] [3] rfl rfl (by decide) (by decide) hk1 hFc hP1 hD1
          generalize H1 = H at hP hS ⊢
          have hP : va_P (dC, dI) vwCl [(xa, .inl (cI, 20, .inl (upd g_xa i (-1)))), (k0, .inr (9, [.ref kN, .ref kA, .ref kO, .ref kK, .ref kV, .ref kG, .ref kP, .ref kC, .ref kD, .ref kE, .ref kF, .ref kX, .ref kY, .int 0, .ref kT, .ref kU, .int 0, .int 0, .int 0])), (kN, .inl (cI, 2, .inl (fun _ => 0))), (kA, .inl (cI, 2, .inl (fun _ => 0)))] _ := hP
          have hD : va_D A [(xa, .inl (cI, 20, .inl (upd g_xa i (-1)))), (k0, .inr (9, [.ref kN, .ref kA, .ref kO, .ref kK, .ref kV, .ref kG, .ref kP, .ref kC, .ref kD, .ref kE, .ref kF, .ref kX, .ref kY, .int 0, .ref kT, .ref kU, .int 0, .int 0, .int 0])), (kN, .inl (cI, 2, .inl (fun _ => 0))), (kA, .inl (cI, 2, .inl (fun _ => 0)))] := hD
          subst hw
          refine lv_if_eq (tgt := 71) hx hb dX6_numbers_28 (by decide) (fun _ => ?_) (fun h9 => absurd (by decide) h9)
          refine lv_aload_n hx hb dX6_numbers_71 rfl (lv_at hl 4 rfl) ?_
          refine lv_iload_n hx hb dX6_numbers_72 rfl (lv_at hl 1 rfl) ?_
          refine lv_aload_n hx hb dX6_numbers_73 rfl (lv_at hl 2 rfl) ?_
          refine lv_iload_n hx hb dX6_numbers_74 rfl (lv_at hl 1 rfl) ?_
          refine lv_iload_n hx hb dX6_numbers_75 rfl (lv_at hl 3 rfl) ?_
          have hPc := hP.sub (ws' := [(k0, .inr (9, [.ref kN, .ref kA, .ref kO, .ref kK, .ref kV, .ref kG, .ref kP, .ref kC, .ref kD, .ref kE, .ref kF, .ref kX, .ref kY, .int 0, .ref kT, .ref kU, .int 0, .int 0, .int 0])), (kN, .inl (cI, 2, .inl (fun _ => 0))), (kA, .inl (cI, 2, .inl (fun _ => 0)))]) [1, 2, 3] rfl
          have hDc := hD.sub (ws' := [(k0, .inr (9, [.ref kN, .ref kA, .ref kO, .ref kK, .ref kV, .ref kG, .ref kP, .ref kC, .ref kD, .ref kE, .ref kF, .ref kX, .ref kY, .int 0, .ref kT, .ref kU, .int 0, .int 0, .int 0])), (kN, .inl (cI, 2, .inl (fun _ => 0))), (kA, .inl (cI, 2, .inl (fun _ => 0)))]) [1, 2, 3] (by decide) rfl
          have hKc := hK.sub (tys' := [(cI, .int)]) [0] rfl
          have hFc := va_free (wc := [(k0, .inr (9, [.ref kN, .ref kA, .ref kO, .ref kK, .ref kV, .ref kG, .ref kP, .ref kC, .ref kD, .ref kE, .ref kF, .ref kX, .ref kY, .int 0, .ref kT, .ref kU, .int 0, .int 0, .int 0])), (kN, .inl (cI, 2, .inl (fun _ => 0))), (kA, .inl (cI, 2, .inl (fun _ => 0)))]) hD hS hA [1, 2, 3] rfl
          refine va_calli (va_runV (As := [.int (nI i), .int 0]) (rest := [.int (nI i), .ref xa]) ⟨hx, hb, hml, hown, hts⟩ (kX6_isThere0 l dC dI k0 kN kA kO kK kV kG kP kC kD kE kF kX kY kT kU cI i H.size (by omega)) (cwV 2 hts gX6_numbers_X6_isThere rfl rfl rfl (by decide +kernel) ⟨Nat.le_of_ble_eq_true rfl, Nat.le_of_ble_eq_true rfl⟩) (fPreV hN hZ hS (fun q h => hFc q h) hPc hKc hDc (ci := 9) (q0 := 0) rfl rfl) rfl rfl hl.1 rfl (lv_room (Nat.le_of_ble_eq_true rfl)) dX6_numbers_76 ⟨Nat.le_of_ble_eq_true rfl, Nat.le_of_ble_eq_true rfl⟩) hS (fun q _ h => hFc q h) hFc (fun r u t H1 locs ht hvm hw hB hz1 hk1 hS => ?_)
          obtain ⟨hP1, hK1, hD1⟩ := hB
          rw [ht] at hP1
          have hK1 := va_K.moved hvm.symm hK1
          obtain ⟨hP, hD⟩ := va_join (wr := [(xa, .inl (cI, 20, .inl (upd g_xa i (-1))))]) (w1 := [(k0, .inr (9, [.ref kN, .ref kA, .ref kO, .ref kK, .ref kV, .ref kG, .ref kP, .ref kC, .ref kD, .ref kE, .ref kF, .ref kX, .ref kY, .int 0, .ref kT, .ref kU, .int 0, .int 0, .int 0])), (kN, .inl (cI, 2, .inl (fun _ => 0))), (kA, .inl (cI, 2, .inl (fun _ => 0)))]) hP hD [1, 2, 3] [0] rfl rfl (by decide) (by decide) hk1 hFc hP1 hD1
          generalize H1 = H at hP hS ⊢
          have hP : va_P (dC, dI) vwCl [(xa, .inl (cI, 20, .inl (upd g_xa i (-1)))), (k0, .inr (9, [.ref kN, .ref kA, .ref kO, .ref kK, .ref kV, .ref kG, .ref kP, .ref kC, .ref kD, .ref kE, .ref kF, .ref kX, .ref kY, .int 0, .ref kT, .ref kU, .int 0, .int 0, .int 0])), (kN, .inl (cI, 2, .inl (fun _ => 0))), (kA, .inl (cI, 2, .inl (fun _ => 0)))] _ := hP
          have hD : va_D A [(xa, .inl (cI, 20, .inl (upd g_xa i (-1)))), (k0, .inr (9, [.ref kN, .ref kA, .ref kO, .ref kK, .ref kV, .ref kG, .ref kP, .ref kC, .ref kD, .ref kE, .ref kF, .ref kX, .ref kY, .int 0, .ref kT, .ref kU, .int 0, .int 0, .int 0])), (kN, .inl (cI, 2, .inl (fun _ => 0))), (kA, .inl (cI, 2, .inl (fun _ => 0)))] := hD
          subst hw
          refine lv_if_eq (tgt := 97) hx hb dX6_numbers_79 (by decide) (fun _ => ?_) (fun h9 => absurd (by decide) h9)
          refine lv_aload_n hx hb dX6_numbers_97 rfl (lv_at hl 4 rfl) ?_
          refine lv_iload_n hx hb dX6_numbers_98 rfl (lv_at hl 1 rfl) ?_
          refine va_iald hx hb hK hP 0 0 rfl rfl (vp_in_nI (Nat.lt_of_lt_of_le hlt (by decide)) (by decide)) dX6_numbers_99 ?_
          refine lv_topi (fun y3 ey3 => ?_)
          obtain rfl : y3 = (-1) := ey3.trans (fAt _ _ _ (by omega))
          refine va_iast hx hb hK hP hD hS 0 0 rfl rfl (vp_in_nI (Nat.lt_of_lt_of_le hlt (by decide)) (by decide)) dX6_numbers_100 (fun H locs hP hD hS => ?_)
          rw [nI_clamp (show i < 2 ^ 31 by omega)] at hP hD
          have hP : va_P (dC, dI) vwCl [(xa, .inl (cI, 20, .inl (upd (upd g_xa i (-1)) i (-1)))), (k0, .inr (9, [.ref kN, .ref kA, .ref kO, .ref kK, .ref kV, .ref kG, .ref kP, .ref kC, .ref kD, .ref kE, .ref kF, .ref kX, .ref kY, .int 0, .ref kT, .ref kU, .int 0, .int 0, .int 0])), (kN, .inl (cI, 2, .inl (fun _ => 0))), (kA, .inl (cI, 2, .inl (fun _ => 0)))] _ := hP
          have hD : va_D A [(xa, .inl (cI, 20, .inl (upd (upd g_xa i (-1)) i (-1)))), (k0, .inr (9, [.ref kN, .ref kA, .ref kO, .ref kK, .ref kV, .ref kG, .ref kP, .ref kC, .ref kD, .ref kE, .ref kF, .ref kX, .ref kY, .int 0, .ref kT, .ref kU, .int 0, .int 0, .int 0])), (kN, .inl (cI, 2, .inl (fun _ => 0))), (kA, .inl (cI, 2, .inl (fun _ => 0)))] := hD
          rw [fU2] at hP hD
          have hP : va_P (dC, dI) vwCl [(xa, .inl (cI, 20, .inl (upd g_xa i (-1)))), (k0, .inr (9, [.ref kN, .ref kA, .ref kO, .ref kK, .ref kV, .ref kG, .ref kP, .ref kC, .ref kD, .ref kE, .ref kF, .ref kX, .ref kY, .int 0, .ref kT, .ref kU, .int 0, .int 0, .int 0])), (kN, .inl (cI, 2, .inl (fun _ => 0))), (kA, .inl (cI, 2, .inl (fun _ => 0)))] _ := hP
          have hD : va_D A [(xa, .inl (cI, 20, .inl (upd g_xa i (-1)))), (k0, .inr (9, [.ref kN, .ref kA, .ref kO, .ref kK, .ref kV, .ref kG, .ref kP, .ref kC, .ref kD, .ref kE, .ref kF, .ref kX, .ref kY, .int 0, .ref kT, .ref kU, .int 0, .int 0, .int 0])), (kN, .inl (cI, 2, .inl (fun _ => 0))), (kA, .inl (cI, 2, .inl (fun _ => 0)))] := hD
          refine lv_iinc (v := (nI (i + 1))) (lv' := [(3, .int (nI (i + 1))), (4, .int ((nI i) - 1)), (0, .ref k0), (1, .int 0), (2, .ref xa)]) hx hb dX6_numbers_101 hl (k := 1) rfl (nI_1 _) (Nat.le_of_ble_eq_true rfl) rfl (fun ls hl => ?_)
          refine lv_goto (tgt := 2) hx hb dX6_numbers_104 (by decide) ?_
          exact ih (i + 1) hlt (by omega) (upd g_xa i (-1)) _ _ _ (fInv hinv) (lv_sub hl [0, 2, 3, 4] rfl) (hP.sub [1, 2, 3, 0] rfl) (hD.sub [1, 2, 3, 0] (by decide) rfl) hS
      · skip
        refine lv_iload_n hx hb dX6_numbers_2 rfl (lv_at hl 0 rfl) ?_
        refine lv_bipush (v := 20) hx hb dX6_numbers_3 (by decide) ?_
        refine lv_icmp_ge (tgt := 107) hx hb dX6_numbers_5 (by decide) (fun _ => ?_) (fun h9 => absurd (show nI 20 ≤ nI i from nI_le hge (Nat.lt_of_le_of_lt hi (by decide))) h9)
        exact ret g_xa _ _ _ _ _ _ (fun j hj => hinv j (by omega)) (hP.sub [0, 1, 2, 3] rfl) (hK.sub [0] rfl) (hD.sub [0, 1, 2, 3] (by decide) rfl) hS (Nat.le_of_ble_eq_true rfl) (Nat.le_of_ble_eq_true rfl) dX6_numbers_107
  exact lp2 (20 + 1) 0 (Nat.le_of_ble_eq_true rfl) (by decide) g _ _ _ (fun j hj => absurd hj (Nat.not_lt_zero _)) (lv_sub hl [0, 1, 2, 3] rfl) (hP.sub [0, 1, 2, 3] rfl) (hD.sub [0, 1, 2, 3] (by decide) rfl) hS

set_option maxHeartbeats 4000000 in
set_option maxRecDepth 100000 in
/-- numbers: no colour -/
theorem kX6_numbers1 (l : Launch) (dC : Nat → ClassId) (dI : Nat → Nat → Nat) (k0 kN kA kO kK kV kG kP kC kD kE kF kX kY kT kU : Nat) (cI : ClassId) (xa : Nat) (g : Nat → Int32) (sz : Nat) : fMv l yX6_numbers wsX6_numbers ({ frames := 3, cells := 0, slots := 0, locals := 69 } : Room) dC dI [.ref k0, .int 1, .ref xa] [(k0, .inr (9, [.ref kN, .ref kA, .ref kO, .ref kK, .ref kV, .ref kG, .ref kP, .ref kC, .ref kD, .ref kE, .ref kF, .ref kX, .ref kY, .int 0, .ref kT, .ref kU, .int 0, .int 0, .int 0])), (kN, .inl (cI, 2, .inl (fun _ => 0))), (kA, .inl (cI, 2, .inl (fun _ => 0))), (xa, .inl (cI, 20, .inl g))] [(cI, .int)] sz (fun (u : Nat → Int32) => ∀ j, j < 20 → u j = (-1)) (fun u => [(k0, .inr (9, [.ref kN, .ref kA, .ref kO, .ref kK, .ref kV, .ref kG, .ref kP, .ref kC, .ref kD, .ref kE, .ref kF, .ref kX, .ref kY, .int 0, .ref kT, .ref kU, .int 0, .int 0, .int 0])), (kN, .inl (cI, 2, .inl (fun _ => 0))), (kA, .inl (cI, 2, .inl (fun _ => 0))), (xa, .inl (cI, 20, .inl u))]) (fun u => [(cI, .int)]) := by
  refine oP_v (y := yX6_numbers) (cc := cX6_numbers) (maxL := 5) (by decide) rfl (Nat.le_of_ble_eq_true rfl) ?_
  intro p e s m args below meth c ls A Q hx hb hr hml hown hts hN hZ hA hin hlk hP hK hD hl ret
  have hS : va_S A s.heap s.heap [] := va_S.rf
  have hl : lv_has ls 5 [(0, .ref k0), (1, .int 1), (2, .ref xa)] := hl
  have hP : va_P (dC, dI) vwCl [(k0, .inr (9, [.ref kN, .ref kA, .ref kO, .ref kK, .ref kV, .ref kG, .ref kP, .ref kC, .ref kD, .ref kE, .ref kF, .ref kX, .ref kY, .int 0, .ref kT, .ref kU, .int 0, .int 0, .int 0])), (kN, .inl (cI, 2, .inl (fun _ => 0))), (kA, .inl (cI, 2, .inl (fun _ => 0))), (xa, .inl (cI, 20, .inl g))] _ := hP
  have hD : va_D A [(k0, .inr (9, [.ref kN, .ref kA, .ref kO, .ref kK, .ref kV, .ref kG, .ref kP, .ref kC, .ref kD, .ref kE, .ref kF, .ref kX, .ref kY, .int 0, .ref kT, .ref kU, .int 0, .int 0, .int 0])), (kN, .inl (cI, 2, .inl (fun _ => 0))), (kA, .inl (cI, 2, .inl (fun _ => 0))), (xa, .inl (cI, 20, .inl g))] := hD
  refine lv_iconst (v := 0) hx hb dX6_numbers_0 (by decide) ?_
  refine lv_istore_n (lv' := [(3, .int 0), (0, .ref k0), (1, .int 1), (2, .ref xa)]) hx hb dX6_numbers_1 rfl hl (Nat.le_of_ble_eq_true rfl) rfl (fun ls hl => ?_)
  have lp2 : ∀ (n i : Nat), i ≤ 20 → 20 - i < n → ∀ (g_xa : Nat → Int32) (ls : Array Slot) (H : Heap) (locs : List Loc), (∀ j, j < i → g_xa j = (-1)) → lv_has ls 5 [(3, .int (nI i)), (0, .ref k0), (1, .int 1), (2, .ref xa)] → va_P (dC, dI) vwCl [(k0, .inr (9, [.ref kN, .ref kA, .ref kO, .ref kK, .ref kV, .ref kG, .ref kP, .ref kC, .ref kD, .ref kE, .ref kF, .ref kX, .ref kY, .int 0, .ref kT, .ref kU, .int 0, .int 0, .int 0])), (kN, .inl (cI, 2, .inl (fun _ => 0))), (kA, .inl (cI, 2, .inl (fun _ => 0))), (xa, .inl (cI, 20, .inl g_xa))] H → va_D A [(k0, .inr (9, [.ref kN, .ref kA, .ref kO, .ref kK, .ref kV, .ref kG, .ref kP, .ref kC, .ref kD, .ref kE, .ref kF, .ref kX, .ref kY, .int 0, .ref kT, .ref kU, .int 0, .int 0, .int 0])), (kN, .inl (cI, 2, .inl (fun _ => 0))), (kA, .inl (cI, 2, .inl (fun _ => 0))), (xa, .inl (cI, 20, .inl g_xa))] → va_S A s.heap H locs → W p l e ({ frames := 3, cells := 0, slots := 0, locals := 69 } : Room) s m args below meth c H locs 0 0 Q (F0 m 2 ls []) := by
    intro n
    induction n with
    | zero => intro i _ h9; exact absurd h9 (Nat.not_lt_zero _)
    | succ n ih =>
      intro i hi ni g_xa ls H locs hinv hl hP hD hS
      rcases Nat.lt_or_ge i 20 with hlt | hge
      · skip
        refine lv_iload_n hx hb dX6_numbers_2 rfl (lv_at hl 0 rfl) ?_
        refine lv_bipush (v := 20) hx hb dX6_numbers_3 (by decide) ?_
        refine lv_icmp_ge (tgt := 107) hx hb dX6_numbers_5 (by decide) (fun h9 => absurd h9 (show ¬ nI 20 ≤ nI i from nI_ge hlt (by decide))) (fun _ => ?_)
        refine lv_aload_n hx hb dX6_numbers_8 rfl (lv_at hl 3 rfl) ?_
        refine lv_iload_n hx hb dX6_numbers_9 rfl (lv_at hl 0 rfl) ?_
        refine lv_iconst (v := (-1)) hx hb dX6_numbers_10 (by decide) ?_
        refine va_iast hx hb hK hP hD hS 3 0 rfl rfl (vp_in_nI (Nat.lt_of_lt_of_le hlt (by decide)) (by decide)) dX6_numbers_11 (fun H locs hP hD hS => ?_)
        rw [nI_clamp (show i < 2 ^ 31 by omega)] at hP hD
        have hP : va_P (dC, dI) vwCl [(k0, .inr (9, [.ref kN, .ref kA, .ref kO, .ref kK, .ref kV, .ref kG, .ref kP, .ref kC, .ref kD, .ref kE, .ref kF, .ref kX, .ref kY, .int 0, .ref kT, .ref kU, .int 0, .int 0, .int 0])), (kN, .inl (cI, 2, .inl (fun _ => 0))), (kA, .inl (cI, 2, .inl (fun _ => 0))), (xa, .inl (cI, 20, .inl (upd g_xa i (-1))))] _ := hP
        have hD : va_D A [(k0, .inr (9, [.ref kN, .ref kA, .ref kO, .ref kK, .ref kV, .ref kG, .ref kP, .ref kC, .ref kD, .ref kE, .ref kF, .ref kX, .ref kY, .int 0, .ref kT, .ref kU, .int 0, .int 0, .int 0])), (kN, .inl (cI, 2, .inl (fun _ => 0))), (kA, .inl (cI, 2, .inl (fun _ => 0))), (xa, .inl (cI, 20, .inl (upd g_xa i (-1))))] := hD
        refine lv_iload_n hx hb dX6_numbers_12 rfl (lv_at hl 0 rfl) ?_
        refine lv_iconst (v := 1) hx hb dX6_numbers_13 (by decide) ?_
        refine lv_isub hx hb dX6_numbers_14 ?_
        refine lv_istore (lv' := [(4, .int ((nI i) - 1)), (3, .int (nI i)), (0, .ref k0), (1, .int 1), (2, .ref xa)]) hx hb dX6_numbers_15 hl (Nat.le_of_ble_eq_true rfl) rfl (fun ls hl => ?_)
        refine lv_iload hx hb dX6_numbers_17 (lv_at hl 0 rfl) ?_
        refine lv_if_lt (tgt := 71) hx hb dX6_numbers_19 (by decide) (fun h1 => ?_) (fun h1 => ?_)
        · skip
          refine lv_aload_n hx hb dX6_numbers_71 rfl (lv_at hl 4 rfl) ?_
          refine lv_iload_n hx hb dX6_numbers_72 rfl (lv_at hl 1 rfl) ?_
          refine lv_aload_n hx hb dX6_numbers_73 rfl (lv_at hl 2 rfl) ?_
          refine lv_iload_n hx hb dX6_numbers_74 rfl (lv_at hl 1 rfl) ?_
          refine lv_iload_n hx hb dX6_numbers_75 rfl (lv_at hl 3 rfl) ?_
          have hPc := hP.sub (ws' := [(k0, .inr (9, [.ref kN, .ref kA, .ref kO, .ref kK, .ref kV, .ref kG, .ref kP, .ref kC, .ref kD, .ref kE, .ref kF, .ref kX, .ref kY, .int 0, .ref kT, .ref kU, .int 0, .int 0, .int 0])), (kN, .inl (cI, 2, .inl (fun _ => 0))), (kA, .inl (cI, 2, .inl (fun _ => 0)))]) [0, 1, 2] rfl
          have hDc := hD.sub (ws' := [(k0, .inr (9, [.ref kN, .ref kA, .ref kO, .ref kK, .ref kV, .ref kG, .ref kP, .ref kC, .ref kD, .ref kE, .ref kF, .ref kX, .ref kY, .int 0, .ref kT, .ref kU, .int 0, .int 0, .int 0])), (kN, .inl (cI, 2, .inl (fun _ => 0))), (kA, .inl (cI, 2, .inl (fun _ => 0)))]) [0, 1, 2] (by decide) rfl
          have hKc := hK.sub (tys' := [(cI, .int)]) [0] rfl
          have hFc := va_free (wc := [(k0, .inr (9, [.ref kN, .ref kA, .ref kO, .ref kK, .ref kV, .ref kG, .ref kP, .ref kC, .ref kD, .ref kE, .ref kF, .ref kX, .ref kY, .int 0, .ref kT, .ref kU, .int 0, .int 0, .int 0])), (kN, .inl (cI, 2, .inl (fun _ => 0))), (kA, .inl (cI, 2, .inl (fun _ => 0)))]) hD hS hA [0, 1, 2] rfl
          refine va_calli (va_runV (As := [.int (nI i), .int 1]) (rest := [.int (nI i), .ref xa]) ⟨hx, hb, hml, hown, hts⟩ (kX6_isThere1 l dC dI k0 kN kA kO kK kV kG kP kC kD kE kF kX kY kT kU cI i H.size (by omega)) (cwV 2 hts gX6_numbers_X6_isThere rfl rfl rfl (by decide +kernel) ⟨Nat.le_of_ble_eq_true rfl, Nat.le_of_ble_eq_true rfl⟩) (fPreV hN hZ hS (fun q h => hFc q h) hPc hKc hDc (ci := 9) (q0 := 0) rfl rfl) rfl rfl hl.1 rfl (lv_room (Nat.le_of_ble_eq_true rfl)) dX6_numbers_76 ⟨Nat.le_of_ble_eq_true rfl, Nat.le_of_ble_eq_true rfl⟩) hS (fun q _ h => hFc q h) hFc (fun r u t H1 locs ht hvm hw hB hz1 hk1 hS => ?_)
          obtain ⟨hP1, hK1, hD1⟩ := hB
          rw [ht] at hP1
          have hK1 := va_K.moved hvm.symm hK1
          obtain ⟨hP, hD⟩ := va_join (wr := [(xa, .inl (cI, 20, .inl (upd g_xa i (-1))))]) (w1 := [(k0, .inr (9, [.ref kN, .ref kA, .ref kO, .ref kK, .ref kV, .ref kG, .ref kP, .ref kC, .ref kD, .ref kE, .ref kF, .ref kX, .ref kY, .int 0, .ref kT, .ref kU, .int 0, .int 0, .int 0])), (kN, .inl (cI, 2, .inl (fun _ => 0))), (kA, .inl (cI, 2, .inl (fun _ => 0)))]) hP hD [0, 1, 2] [3] rfl rfl (by decide) (by decide) hk1 hFc hP1 hD1
          generalize H1 = H at hP hS ⊢
          have hP : va_P (dC, dI) vwCl [(xa, .inl (cI, 20, .inl (upd g_xa i (-1)))), (k0, .inr (9, [.ref kN, .ref kA, .ref kO, .ref kK, .ref kV, .ref kG, .ref kP, .ref kC, .ref kD, .ref kE, .ref kF, .ref kX, .ref kY, .int 0, .ref kT, .ref kU, .int 0, .int 0, .int 0])), (kN, .inl (cI, 2, .inl (fun _ => 0))), (kA, .inl (cI, 2, .inl (fun _ => 0)))] _ := hP
          have hD : va_D A [(xa, .inl (cI, 20, .inl (upd g_xa i (-1)))), (k0, .inr (9, [.ref kN, .ref kA, .ref kO, .ref kK, .ref kV, .ref kG, .ref kP, .ref kC, .ref kD, .ref kE, .ref kF, .ref kX, .ref kY, .int 0, .ref kT, .ref kU, .int 0, .int 0, .int 0])), (kN, .inl (cI, 2, .inl (fun _ => 0))), (kA, .inl (cI, 2, .inl (fun _ => 0)))] := hD
          subst hw
          refine lv_if_eq (tgt := 97) hx hb dX6_numbers_79 (by decide) (fun _ => ?_) (fun h9 => absurd (by decide) h9)
          refine lv_aload_n hx hb dX6_numbers_97 rfl (lv_at hl 4 rfl) ?_
          refine lv_iload_n hx hb dX6_numbers_98 rfl (lv_at hl 1 rfl) ?_
          refine va_iald hx hb hK hP 0 0 rfl rfl (vp_in_nI (Nat.lt_of_lt_of_le hlt (by decide)) (by decide)) dX6_numbers_99 ?_
          refine lv_topi (fun y2 ey2 => ?_)
          obtain rfl : y2 = (-1) := ey2.trans (fAt _ _ _ (by omega))
          refine va_iast hx hb hK hP hD hS 0 0 rfl rfl (vp_in_nI (Nat.lt_of_lt_of_le hlt (by decide)) (by decide)) dX6_numbers_100 (fun H locs hP hD hS => ?_)
          rw [nI_clamp (show i < 2 ^ 31 by omega)] at hP hD
          have hP : va_P (dC, dI) vwCl [(xa, .inl (cI, 20, .inl (upd (upd g_xa i (-1)) i (-1)))), (k0, .inr (9, [.ref kN, .ref kA, .ref kO, .ref kK, .ref kV, .ref kG, .ref kP, .ref kC, .ref kD, .ref kE, .ref kF, .ref kX, .ref kY, .int 0, .ref kT, .ref kU, .int 0, .int 0, .int 0])), (kN, .inl (cI, 2, .inl (fun _ => 0))), (kA, .inl (cI, 2, .inl (fun _ => 0)))] _ := hP
          have hD : va_D A [(xa, .inl (cI, 20, .inl (upd (upd g_xa i (-1)) i (-1)))), (k0, .inr (9, [.ref kN, .ref kA, .ref kO, .ref kK, .ref kV, .ref kG, .ref kP, .ref kC, .ref kD, .ref kE, .ref kF, .ref kX, .ref kY, .int 0, .ref kT, .ref kU, .int 0, .int 0, .int 0])), (kN, .inl (cI, 2, .inl (fun _ => 0))), (kA, .inl (cI, 2, .inl (fun _ => 0)))] := hD
          rw [fU2] at hP hD
          have hP : va_P (dC, dI) vwCl [(xa, .inl (cI, 20, .inl (upd g_xa i (-1)))), (k0, .inr (9, [.ref kN, .ref kA, .ref kO, .ref kK, .ref kV, .ref kG, .ref kP, .ref kC, .ref kD, .ref kE, .ref kF, .ref kX, .ref kY, .int 0, .ref kT, .ref kU, .int 0, .int 0, .int 0])), (kN, .inl (cI, 2, .inl (fun _ => 0))), (kA, .inl (cI, 2, .inl (fun _ => 0)))] _ := hP
          have hD : va_D A [(xa, .inl (cI, 20, .inl (upd g_xa i (-1)))), (k0, .inr (9, [.ref kN, .ref kA, .ref kO, .ref kK, .ref kV, .ref kG, .ref kP, .ref kC, .ref kD, .ref kE, .ref kF, .ref kX, .ref kY, .int 0, .ref kT, .ref kU, .int 0, .int 0, .int 0])), (kN, .inl (cI, 2, .inl (fun _ => 0))), (kA, .inl (cI, 2, .inl (fun _ => 0)))] := hD
          refine lv_iinc (v := (nI (i + 1))) (lv' := [(3, .int (nI (i + 1))), (4, .int ((nI i) - 1)), (0, .ref k0), (1, .int 1), (2, .ref xa)]) hx hb dX6_numbers_101 hl (k := 1) rfl (nI_1 _) (Nat.le_of_ble_eq_true rfl) rfl (fun ls hl => ?_)
          refine lv_goto (tgt := 2) hx hb dX6_numbers_104 (by decide) ?_
          exact ih (i + 1) hlt (by omega) (upd g_xa i (-1)) _ _ _ (fInv hinv) (lv_sub hl [0, 2, 3, 4] rfl) (hP.sub [1, 2, 3, 0] rfl) (hD.sub [1, 2, 3, 0] (by decide) rfl) hS
        · skip
          refine lv_aload_n hx hb dX6_numbers_22 rfl (lv_at hl 2 rfl) ?_
          refine lv_iload_n hx hb dX6_numbers_23 rfl (lv_at hl 1 rfl) ?_
          refine lv_iload_n hx hb dX6_numbers_24 rfl (lv_at hl 3 rfl) ?_
          have hPc := hP.sub (ws' := [(k0, .inr (9, [.ref kN, .ref kA, .ref kO, .ref kK, .ref kV, .ref kG, .ref kP, .ref kC, .ref kD, .ref kE, .ref kF, .ref kX, .ref kY, .int 0, .ref kT, .ref kU, .int 0, .int 0, .int 0])), (kN, .inl (cI, 2, .inl (fun _ => 0))), (kA, .inl (cI, 2, .inl (fun _ => 0)))]) [0, 1, 2] rfl
          have hDc := hD.sub (ws' := [(k0, .inr (9, [.ref kN, .ref kA, .ref kO, .ref kK, .ref kV, .ref kG, .ref kP, .ref kC, .ref kD, .ref kE, .ref kF, .ref kX, .ref kY, .int 0, .ref kT, .ref kU, .int 0, .int 0, .int 0])), (kN, .inl (cI, 2, .inl (fun _ => 0))), (kA, .inl (cI, 2, .inl (fun _ => 0)))]) [0, 1, 2] (by decide) rfl
          have hKc := hK.sub (tys' := [(cI, .int)]) [0] rfl
          have hFc := va_free (wc := [(k0, .inr (9, [.ref kN, .ref kA, .ref kO, .ref kK, .ref kV, .ref kG, .ref kP, .ref kC, .ref kD, .ref kE, .ref kF, .ref kX, .ref kY, .int 0, .ref kT, .ref kU, .int 0, .int 0, .int 0])), (kN, .inl (cI, 2, .inl (fun _ => 0))), (kA, .inl (cI, 2, .inl (fun _ => 0)))]) hD hS hA [0, 1, 2] rfl
          refine va_calli (va_runV (As := [.int (nI i), .int 1]) (rest := []) ⟨hx, hb, hml, hown, hts⟩ (kX6_isThere1 l dC dI k0 kN kA kO kK kV kG kP kC kD kE kF kX kY kT kU cI i H.size (by omega)) (cwV 2 hts gX6_numbers_X6_isThere rfl rfl rfl (by decide +kernel) ⟨Nat.le_of_ble_eq_true rfl, Nat.le_of_ble_eq_true rfl⟩) (fPreV hN hZ hS (fun q h => hFc q h) hPc hKc hDc (ci := 9) (q0 := 0) rfl rfl) rfl rfl hl.1 rfl (lv_room (Nat.le_of_ble_eq_true rfl)) dX6_numbers_25 ⟨Nat.le_of_ble_eq_true rfl, Nat.le_of_ble_eq_true rfl⟩) hS (fun q _ h => hFc q h) hFc (fun r u t H1 locs ht hvm hw hB hz1 hk1 hS => ?_)
          obtain ⟨hP1, hK1, hD1⟩ := hB
          rw [ht] at hP1
          have hK1 := va_K.moved hvm.symm hK1
          obtain ⟨hP, hD⟩ := va_join (wr := [(xa, .inl (cI, 20, .inl (upd g_xa i (-1))))]) (w1 := [(k0, .inr (9, [.ref kN, .ref kA, .ref kO, .ref kK, .ref kV, .ref kG, .ref kP, .ref kC, .ref kD, .ref kE, .ref kF, .ref kX, .ref kY, .int 0, .ref kT, .ref kU, .int 0, .int 0, .int 0])), (kN, .inl (cI, 2, .inl (fun _ => 0))), (kA, .inl (cI, 2, .inl (fun _ => 0)))]) hP hD [0, 1, 2] [3] rfl rfl (by decide) (by decide) hk1 hFc hP1 hD1
          generalize H1 = H at hP hS ⊢
          have hP : va_P (dC, dI) vwCl [(xa, .inl (cI, 20, .inl (upd g_xa i (-1)))), (k0, .inr (9, [.ref kN, .ref kA, .ref kO, .ref kK, .ref kV, .ref kG, .ref kP, .ref kC, .ref kD, .ref kE, .ref kF, .ref kX, .ref kY, .int 0, .ref kT, .ref kU, .int 0, .int 0, .int 0])), (kN, .inl (cI, 2, .inl (fun _ => 0))), (kA, .inl (cI, 2, .inl (fun _ => 0)))] _ := hP
          have hD : va_D A [(xa, .inl (cI, 20, .inl (upd g_xa i (-1)))), (k0, .inr (9, [.ref kN, .ref kA, .ref kO, .ref kK, .ref kV, .ref kG, .ref kP, .ref kC, .ref kD, .ref kE, .ref kF, .ref kX, .ref kY, .int 0, .ref kT, .ref kU, .int 0, .int 0, .int 0])), (kN, .inl (cI, 2, .inl (fun _ => 0))), (kA, .inl (cI, 2, .inl (fun _ => 0)))] := hD
          subst hw
          refine lv_if_eq (tgt := 71) hx hb dX6_numbers_28 (by decide) (fun _ => ?_) (fun h9 => absurd (by decide) h9)
          refine lv_aload_n hx hb dX6_numbers_71 rfl (lv_at hl 4 rfl) ?_
          refine lv_iload_n hx hb dX6_numbers_72 rfl (lv_at hl 1 rfl) ?_
          refine lv_aload_n hx hb dX6_numbers_73 rfl (lv_at hl 2 rfl) ?_
          refine lv_iload_n hx hb dX6_numbers_74 rfl (lv_at hl 1 rfl) ?_
          refine lv_iload_n hx hb dX6_numbers_75 rfl (lv_at hl 3 rfl) ?_
          have hPc := hP.sub (ws' := [(k0, .inr (9, [.ref kN, .ref kA, .ref kO, .ref kK, .ref kV, .ref kG, .ref kP, .ref kC, .ref kD, .ref kE, .ref kF, .ref kX, .ref kY, .int 0, .ref kT, .ref kU, .int 0, .int 0, .int 0])), (kN, .inl (cI, 2, .inl (fun _ => 0))), (kA, .inl (cI, 2, .inl (fun _ => 0)))]) [1, 2, 3] rfl
          have hDc := hD.sub (ws' := [(k0, .inr (9, [.ref kN, .ref kA, .ref kO, .ref kK, .ref kV, .ref kG, .ref kP, .ref kC, .ref kD, .ref kE, .ref kF, .ref kX, .ref kY, .int 0, .ref kT, .ref kU, .int 0, .int 0, .int 0])), (kN, .inl (cI, 2, .inl (fun _ => 0))), (kA, .inl (cI, 2, .inl (fun _ => 0)))]) [1, 2, 3] (by decide) rfl
          have hKc := hK.sub (tys' := [(cI, .int)]) [0] rfl
          have hFc := va_free (wc := [(k0, .inr (9, [.ref kN, .ref kA, .ref kO, .ref kK, .ref kV, .ref kG, .ref kP, .ref kC, .ref kD, .ref kE, .ref kF, .ref kX, .ref kY, .int 0, .ref kT, .ref kU, .int 0, .int 0, .int 0])), (kN, .inl (cI, 2, .inl (fun _ => 0))), (kA, .inl (cI, 2, .inl (fun _ => 0)))]) hD hS hA [1, 2, 3] rfl
          refine va_calli (va_runV (As := [.int (nI i), .int 1]) (rest := [.int (nI i), .ref xa]) ⟨hx, hb, hml, hown, hts⟩ (kX6_isThere1 l dC dI k0 kN kA kO kK kV kG kP kC kD kE kF kX kY kT kU cI i H.size (by omega)) (cwV 2 hts gX6_numbers_X6_isThere rfl rfl rfl (by decide +kernel) ⟨Nat.le_of_ble_eq_true rfl, Nat.le_of_ble_eq_true rfl⟩) (fPreV hN hZ hS (fun q h => hFc q h) hPc hKc hDc (ci := 9) (q0 := 0) rfl rfl) rfl rfl hl.1 rfl (lv_room (Nat.le_of_ble_eq_true rfl)) dX6_numbers_76 ⟨Nat.le_of_ble_eq_true rfl, Nat.le_of_ble_eq_true rfl⟩) hS (fun q _ h => hFc q h) hFc (fun r u t H1 locs ht hvm hw hB hz1 hk1 hS => ?_)
          obtain ⟨hP1, hK1, hD1⟩ := hB
          rw [ht] at hP1
          have hK1 := va_K.moved hvm.symm hK1
          obtain ⟨hP, hD⟩ := va_join (wr := [(xa, .inl (cI, 20, .inl (upd g_xa i (-1))))]) (w1 := [(k0, .inr (9, [.ref kN, .ref kA, .ref kO, .ref kK, .ref kV, .ref kG, .ref kP, .ref kC, .ref kD, .ref kE, .ref kF, .ref kX, .ref kY, .int 0, .ref kT, .ref kU, .int 0, .int 0, .int 0])), (kN, .inl (cI, 2, .inl (fun _ => 0))), (kA, .inl (cI, 2, .inl (fun _ => 0)))]) hP hD [1, 2, 3] [0] rfl rfl (by decide) (by decide) hk1 hFc hP1 hD1
          generalize H1 = H at hP hS ⊢
          have hP : va_P (dC, dI) vwCl [(xa, .inl (cI, 20, .inl (upd g_xa i (-1)))), (k0, .inr (9, [.ref kN, .ref kA, .ref kO, .ref kK, .ref kV, .ref kG, .ref kP, .ref kC, .ref kD, .ref kE, .ref kF, .ref kX, .ref kY, .int 0, .ref kT, .ref kU, .int 0, .int 0, .int 0])), (kN, .inl (cI, 2, .inl (fun _ => 0))), (kA, .inl (cI, 2, .inl (fun _ => 0)))] _ := hP
          have hD : va_D A [(xa, .inl (cI, 20, .inl (upd g_xa i (-1)))), (k0, .inr (9, [.ref kN, .ref kA, .ref kO, .ref kK, .ref kV, .ref kG, .ref kP, .ref kC, .ref kD, .ref kE, .ref kF, .ref kX, .ref kY, .int 0, .ref kT, .ref kU, .int 0, .int 0, .int 0])), (kN, .inl (cI, 2, .inl (fun _ => 0))), (kA, .inl (cI, 2, .inl (fun _ => 0)))] := hD
          subst hw
          refine lv_if_eq (tgt := 97) hx hb dX6_numbers_79 (by decide) (fun _ => ?_) (fun h9 => absurd (by decide) h9)
          refine lv_aload_n hx hb dX6_numbers_97 rfl (lv_at hl 4 rfl) ?_
          refine lv_iload_n hx hb dX6_numbers_98 rfl (lv_at hl 1 rfl) ?_
          refine va_iald hx hb hK hP 0 0 rfl rfl (vp_in_nI (Nat.lt_of_lt_of_le hlt (by decide)) (by decide)) dX6_numbers_99 ?_
          refine lv_topi (fun y3 ey3 => ?_)
          obtain rfl : y3 = (-1) := ey3.trans (fAt _ _ _ (by omega))
          refine va_iast hx hb hK hP hD hS 0 0 rfl rfl (vp_in_nI (Nat.lt_of_lt_of_le hlt (by decide)) (by decide)) dX6_numbers_100 (fun H locs hP hD hS => ?_)
          rw [nI_clamp (show i < 2 ^ 31 by omega)] at hP hD
          have hP : va_P (dC, dI) vwCl [(xa, .inl (cI, 20, .inl (upd (upd g_xa i (-1)) i (-1)))), (k0, .inr (9, [.ref kN, .ref kA, .ref kO, .ref kK, .ref kV, .ref kG, .ref kP, .ref kC, .ref kD, .ref kE, .ref kF, .ref kX, .ref kY, .int 0, .ref kT, .ref kU, .int 0, .int 0, .int 0])), (kN, .inl (cI, 2, .inl (fun _ => 0))), (kA, .inl (cI, 2, .inl (fun _ => 0)))] _ := hP
          have hD : va_D A [(xa, .inl (cI, 20, .inl (upd (upd g_xa i (-1)) i (-1)))), (k0, .inr (9, [.ref kN, .ref kA, .ref kO, .ref kK, .ref kV, .ref kG, .ref kP, .ref kC, .ref kD, .ref kE, .ref kF, .ref kX, .ref kY, .int 0, .ref kT, .ref kU, .int 0, .int 0, .int 0])), (kN, .inl (cI, 2, .inl (fun _ => 0))), (kA, .inl (cI, 2, .inl (fun _ => 0)))] := hD
          rw [fU2] at hP hD
          have hP : va_P (dC, dI) vwCl [(xa, .inl (cI, 20, .inl (upd g_xa i (-1)))), (k0, .inr (9, [.ref kN, .ref kA, .ref kO, .ref kK, .ref kV, .ref kG, .ref kP, .ref kC, .ref kD, .ref kE, .ref kF, .ref kX, .ref kY, .int 0, .ref kT, .ref kU, .int 0, .int 0, .int 0])), (kN, .inl (cI, 2, .inl (fun _ => 0))), (kA, .inl (cI, 2, .inl (fun _ => 0)))] _ := hP
          have hD : va_D A [(xa, .inl (cI, 20, .inl (upd g_xa i (-1)))), (k0, .inr (9, [.ref kN, .ref kA, .ref kO, .ref kK, .ref kV, .ref kG, .ref kP, .ref kC, .ref kD, .ref kE, .ref kF, .ref kX, .ref kY, .int 0, .ref kT, .ref kU, .int 0, .int 0, .int 0])), (kN, .inl (cI, 2, .inl (fun _ => 0))), (kA, .inl (cI, 2, .inl (fun _ => 0)))] := hD
          refine lv_iinc (v := (nI (i + 1))) (lv' := [(3, .int (nI (i + 1))), (4, .int ((nI i) - 1)), (0, .ref k0), (1, .int 1), (2, .ref xa)]) hx hb dX6_numbers_101 hl (k := 1) rfl (nI_1 _) (Nat.le_of_ble_eq_true rfl) rfl (fun ls hl => ?_)
          refine lv_goto (tgt := 2) hx hb dX6_numbers_104 (by decide) ?_
          exact ih (i + 1) hlt (by omega) (upd g_xa i (-1)) _ _ _ (fInv hinv) (lv_sub hl [0, 2, 3, 4] rfl) (hP.sub [1, 2, 3, 0] rfl) (hD.sub [1, 2, 3, 0] (by decide) rfl) hS
      · skip
        refine lv_iload_n hx hb dX6_numbers_2 rfl (lv_at hl 0 rfl) ?_
        refine lv_bipush (v := 20) hx hb dX6_numbers_3 (by decide) ?_
        refine lv_icmp_ge (tgt := 107) hx hb dX6_numbers_5 (by decide) (fun _ => ?_) (fun h9 => absurd (show nI 20 ≤ nI i from nI_le hge (Nat.lt_of_le_of_lt hi (by decide))) h9)
        exact ret g_xa _ _ _ _ _ _ (fun j hj => hinv j (by omega)) (hP.sub [0, 1, 2, 3] rfl) (hK.sub [0] rfl) (hD.sub [0, 1, 2, 3] (by decide) rfl) hS (Nat.le_of_ble_eq_true rfl) (Nat.le_of_ble_eq_true rfl) dX6_numbers_107
  exact lp2 (20 + 1) 0 (Nat.le_of_ble_eq_true rfl) (by decide) g _ _ _ (fun j hj => absurd hj (Nat.not_lt_zero _)) (lv_sub hl [0, 1, 2, 3] rfl) (hP.sub [0, 1, 2, 3] rfl) (hD.sub [0, 1, 2, 3] (by decide) rfl) hS

set_option maxHeartbeats 4000000 in
set_option maxRecDepth 100000 in
/-- firstNumbers: no colour -/
theorem kX6_firstNumbers (l : Launch) (dC : Nat → ClassId) (dI : Nat → Nat → Nat) (xa : Nat) (cI : ClassId) (g : Nat → Int32) (sz : Nat) (hg : ∀ j, j < 20 → g j = (-1)) : fMv l yX6_firstNumbers wsX6_firstNumbers ({ frames := 1, cells := 1, slots := 20, locals := 22 } : Room) dC dI [.ref xa] [(xa, .inl (cI, 20, .inl g))] [(cI, .int)] sz (fun (u : Nat → Int32) => ∀ j, j < 20 → u j = (-1)) (fun u => [(xa, .inl (cI, 20, .inl u))]) (fun u => [(cI, .int)]) := by
  refine oP_v (y := yX6_firstNumbers) (cc := cX6_firstNumbers) (maxL := 4) (by decide) rfl (Nat.le_of_ble_eq_true rfl) ?_
  intro p e s m args below meth c ls A Q hx hb hr hml hown hts hN hZ hA hin hlk hP hK hD hl ret
  have hS : va_S A s.heap s.heap [] := va_S.rf
  have hl : lv_has ls 4 [(0, .ref xa)] := hl
  have hP : va_P (dC, dI) vwCl [(xa, .inl (cI, 20, .inl g))] _ := hP
  have hD : va_D A [(xa, .inl (cI, 20, .inl g))] := hD
  refine lv_aload_n hx hb dX6_firstNumbers_0 rfl (lv_at hl 0 rfl) ?_
  have hcA : s.vm.findClass "[I" = some cI := (hK.2 0 _ rfl).2
  refine va_clone (ad := "[I") hx hb (hml.trans hl.1.symm) hown (hts (.methodLink RX6 229 ⟨"[I", "clone", "()Ljava/lang/Object;"⟩) (List.mem_cons_of_mem _ (List.mem_append_left _ (List.mem_of_getElem? (i := 0) rfl)))) (hts (.sameMethod "[I" "java/lang/Object" "clone" "()Ljava/lang/Object;") (List.mem_cons_of_mem _ (List.mem_append_left _ (List.mem_of_getElem? (i := 1) rfl)))) (hts (.native ⟨"java/lang/Object", "clone", "()Ljava/lang/Object;"⟩) (List.mem_cons_of_mem _ (List.mem_append_left _ (List.mem_of_getElem? (i := 2) rfl)))) (hts (.instanceMethod ⟨"java/lang/Object", "clone", "()Ljava/lang/Object;"⟩) (List.mem_cons_of_mem _ (List.mem_append_left _ (List.mem_of_getElem? (i := 3) rfl)))) (hts (.selects "[I" ⟨"[I", "clone", "()Ljava/lang/Object;"⟩ ⟨"java/lang/Object", "clone", "()Ljava/lang/Object;"⟩) (List.mem_cons_of_mem _ (List.mem_append_left _ (List.mem_of_getElem? (i := 4) rfl)))) (hN.1 _ (List.mem_of_getElem? (i := 34) rfl)) hK hP hD hS hA 0 0 rfl rfl hcA (fun i9 v9 h9 => fFit h9) (Nat.le_of_ble_eq_true rfl) (Nat.le_of_ble_eq_true rfl) (Nat.le_of_ble_eq_true rfl) (Nat.le_of_ble_eq_true rfl) dX6_firstNumbers_1 (fun q1 H hK hP hD hS => ?_)
  refine W.widen (k := 1) (n := 20) (Nat.le_of_ble_eq_true rfl) (Nat.le_of_ble_eq_true rfl) ?_
  have hP : va_P (dC, dI) vwCl [(xa, .inl (cI, 20, .inl g)), (q1, .inl (cI, 20, .inl g))] _ := hP
  have hD : va_D A [(xa, .inl (cI, 20, .inl g)), (q1, .inl (cI, 20, .inl g))] := hD
  have hK : va_K (dC, dI) vwCl [(cI, .int), (cI, .int)] s := hK
  refine va_castA hx hb hown (hts (.classLink RX6 230 "[I") (List.mem_cons_of_mem _ (List.mem_append_left _ (List.mem_of_getElem? (i := 5) rfl)))) hP 1 rfl hcA dX6_firstNumbers_4 ?_
  refine lv_astore_n (lv' := [(1, .ref q1), (0, .ref xa)]) hx hb dX6_firstNumbers_7 rfl hl (Nat.le_of_ble_eq_true rfl) rfl (fun ls hl => ?_)
  refine lv_iconst (v := 0) hx hb dX6_firstNumbers_8 (by decide) ?_
  refine lv_istore_n (lv' := [(2, .int 0), (1, .ref q1), (0, .ref xa)]) hx hb dX6_firstNumbers_9 rfl hl (Nat.le_of_ble_eq_true rfl) rfl (fun ls hl => ?_)
  have lp10 : ∀ (n i : Nat), i ≤ 20 → 20 - i < n → ∀ (g_xa : Nat → Int32) (ls : Array Slot) (H : Heap) (locs : List Loc), (∀ j, j < 20 → g_xa j = (-1)) → lv_has ls 4 [(2, .int (nI i)), (1, .ref q1), (0, .ref xa)] → va_P (dC, dI) vwCl [(xa, .inl (cI, 20, .inl g_xa)), (q1, .inl (cI, 20, .inl g))] H → va_D A [(xa, .inl (cI, 20, .inl g_xa)), (q1, .inl (cI, 20, .inl g))] → va_S A s.heap H locs → W p l e ({ frames := 1, cells := 1, slots := 20, locals := 22 } : Room) s m args below meth c H locs 1 20 Q (F0 m 10 ls []) := by
    intro n
    induction n with
    | zero => intro i _ h9; exact absurd h9 (Nat.not_lt_zero _)
    | succ n ih =>
      intro i hi ni g_xa ls H locs hinv hl hP hD hS
      rcases Nat.lt_or_ge i 20 with hlt | hge
      · skip
        refine lv_iload_n hx hb dX6_firstNumbers_10 rfl (lv_at hl 0 rfl) ?_
        refine lv_aload_n hx hb dX6_firstNumbers_11 rfl (lv_at hl 1 rfl) ?_
        refine va_alen hx hb hK hP 1 0 rfl rfl (v := 20) rfl dX6_firstNumbers_12 ?_
        refine lv_icmp_ge (tgt := 95) hx hb dX6_firstNumbers_13 (by decide) (fun h9 => absurd h9 (show ¬ nI 20 ≤ nI i from nI_ge hlt (by decide))) (fun _ => ?_)
        refine lv_aload_n hx hb dX6_firstNumbers_16 rfl (lv_at hl 2 rfl) ?_
        refine lv_iload_n hx hb dX6_firstNumbers_17 rfl (lv_at hl 0 rfl) ?_
        refine lv_iconst (v := (-1)) hx hb dX6_firstNumbers_18 (by decide) ?_
        refine va_iast hx hb hK hP hD hS 0 0 rfl rfl (vp_in_nI (Nat.lt_of_lt_of_le hlt (by decide)) (by decide)) dX6_firstNumbers_19 (fun H locs hP hD hS => ?_)
        rw [nI_clamp (show i < 2 ^ 31 by omega)] at hP hD
        have hP : va_P (dC, dI) vwCl [(xa, .inl (cI, 20, .inl (upd g_xa i (-1)))), (q1, .inl (cI, 20, .inl g))] _ := hP
        have hD : va_D A [(xa, .inl (cI, 20, .inl (upd g_xa i (-1)))), (q1, .inl (cI, 20, .inl g))] := hD
        refine lv_iconst (v := 0) hx hb dX6_firstNumbers_20 (by decide) ?_
        refine lv_istore_n (lv' := [(3, .int 0), (2, .int (nI i)), (1, .ref q1), (0, .ref xa)]) hx hb dX6_firstNumbers_21 rfl hl (Nat.le_of_ble_eq_true rfl) rfl (fun ls hl => ?_)
        refine lv_iload_n hx hb dX6_firstNumbers_22 rfl (lv_at hl 0 rfl) ?_
        refine lv_iload_n hx hb dX6_firstNumbers_23 rfl (lv_at hl 1 rfl) ?_
        refine lv_icmp_ge (tgt := 61) hx hb dX6_firstNumbers_24 (by decide) (fun h2 => ?_) (fun h2 => ?_)
        · skip
          refine lv_aload_n hx hb dX6_firstNumbers_61 rfl (lv_at hl 3 rfl) ?_
          refine lv_iload_n hx hb dX6_firstNumbers_62 rfl (lv_at hl 1 rfl) ?_
          refine lv_aload_n hx hb dX6_firstNumbers_63 rfl (lv_at hl 2 rfl) ?_
          refine lv_iload_n hx hb dX6_firstNumbers_64 rfl (lv_at hl 1 rfl) ?_
          refine va_iald hx hb hK hP 1 0 rfl rfl (vp_in_nI (Nat.lt_of_lt_of_le hlt (by decide)) (by decide)) dX6_firstNumbers_65 ?_
          refine lv_topi (fun y3 ey3 => ?_)
          obtain rfl : y3 = (-1) := ey3.trans (fEl (i := i) hg (by omega) (by decide))
          refine lv_iconst (v := (-1)) hx hb dX6_firstNumbers_66 (by decide) ?_
          refine lv_icmp_eq (tgt := 85) hx hb dX6_firstNumbers_67 (by decide) (fun _ => ?_) (fun h9 => absurd (by decide) h9)
          refine lv_aload_n hx hb dX6_firstNumbers_85 rfl (lv_at hl 3 rfl) ?_
          refine lv_iload_n hx hb dX6_firstNumbers_86 rfl (lv_at hl 1 rfl) ?_
          refine va_iald hx hb hK hP 0 0 rfl rfl (vp_in_nI (Nat.lt_of_lt_of_le hlt (by decide)) (by decide)) dX6_firstNumbers_87 ?_
          refine lv_topi (fun y4 ey4 => ?_)
          obtain rfl : y4 = (-1) := ey4.trans (fAt _ _ _ (by omega))
          refine va_iast hx hb hK hP hD hS 0 0 rfl rfl (vp_in_nI (Nat.lt_of_lt_of_le hlt (by decide)) (by decide)) dX6_firstNumbers_88 (fun H locs hP hD hS => ?_)
          rw [nI_clamp (show i < 2 ^ 31 by omega)] at hP hD
          have hP : va_P (dC, dI) vwCl [(xa, .inl (cI, 20, .inl (upd (upd g_xa i (-1)) i (-1)))), (q1, .inl (cI, 20, .inl g))] _ := hP
          have hD : va_D A [(xa, .inl (cI, 20, .inl (upd (upd g_xa i (-1)) i (-1)))), (q1, .inl (cI, 20, .inl g))] := hD
          rw [fU2] at hP hD
          have hP : va_P (dC, dI) vwCl [(xa, .inl (cI, 20, .inl (upd g_xa i (-1)))), (q1, .inl (cI, 20, .inl g))] _ := hP
          have hD : va_D A [(xa, .inl (cI, 20, .inl (upd g_xa i (-1)))), (q1, .inl (cI, 20, .inl g))] := hD
          refine lv_iinc (v := (nI (i + 1))) (lv' := [(2, .int (nI (i + 1))), (3, .int 0), (1, .ref q1), (0, .ref xa)]) hx hb dX6_firstNumbers_89 hl (k := 1) rfl (nI_1 _) (Nat.le_of_ble_eq_true rfl) rfl (fun ls hl => ?_)
          refine lv_goto (tgt := 10) hx hb dX6_firstNumbers_92 (by decide) ?_
          exact ih (i + 1) hlt (by omega) (upd g_xa i (-1)) _ _ _ (fKeep hinv) (lv_sub hl [0, 2, 3] rfl) (hP.sub [0, 1] rfl) (hD.sub [0, 1] (by decide) rfl) hS
        · skip
          refine lv_aload_n hx hb dX6_firstNumbers_27 rfl (lv_at hl 2 rfl) ?_
          refine lv_iload_n hx hb dX6_firstNumbers_28 rfl (lv_at hl 1 rfl) ?_
          refine va_iald hx hb hK hP 1 0 rfl rfl (vp_in_nI (Nat.lt_of_lt_of_le hlt (by decide)) (by decide)) dX6_firstNumbers_29 ?_
          refine lv_topi (fun y5 ey5 => ?_)
          obtain rfl : y5 = (-1) := ey5.trans (fEl (i := i) hg (by omega) (by decide))
          refine lv_iconst (v := (-1)) hx hb dX6_firstNumbers_30 (by decide) ?_
          refine lv_icmp_eq (tgt := 61) hx hb dX6_firstNumbers_31 (by decide) (fun _ => ?_) (fun h9 => absurd (by decide) h9)
          refine lv_aload_n hx hb dX6_firstNumbers_61 rfl (lv_at hl 3 rfl) ?_
          refine lv_iload_n hx hb dX6_firstNumbers_62 rfl (lv_at hl 1 rfl) ?_
          refine lv_aload_n hx hb dX6_firstNumbers_63 rfl (lv_at hl 2 rfl) ?_
          refine lv_iload_n hx hb dX6_firstNumbers_64 rfl (lv_at hl 1 rfl) ?_
          refine va_iald hx hb hK hP 1 0 rfl rfl (vp_in_nI (Nat.lt_of_lt_of_le hlt (by decide)) (by decide)) dX6_firstNumbers_65 ?_
          refine lv_topi (fun y6 ey6 => ?_)
          obtain rfl : y6 = (-1) := ey6.trans (fEl (i := i) hg (by omega) (by decide))
          refine lv_iconst (v := (-1)) hx hb dX6_firstNumbers_66 (by decide) ?_
          refine lv_icmp_eq (tgt := 85) hx hb dX6_firstNumbers_67 (by decide) (fun _ => ?_) (fun h9 => absurd (by decide) h9)
          refine lv_aload_n hx hb dX6_firstNumbers_85 rfl (lv_at hl 3 rfl) ?_
          refine lv_iload_n hx hb dX6_firstNumbers_86 rfl (lv_at hl 1 rfl) ?_
          refine va_iald hx hb hK hP 0 0 rfl rfl (vp_in_nI (Nat.lt_of_lt_of_le hlt (by decide)) (by decide)) dX6_firstNumbers_87 ?_
          refine lv_topi (fun y7 ey7 => ?_)
          obtain rfl : y7 = (-1) := ey7.trans (fAt _ _ _ (by omega))
          refine va_iast hx hb hK hP hD hS 0 0 rfl rfl (vp_in_nI (Nat.lt_of_lt_of_le hlt (by decide)) (by decide)) dX6_firstNumbers_88 (fun H locs hP hD hS => ?_)
          rw [nI_clamp (show i < 2 ^ 31 by omega)] at hP hD
          have hP : va_P (dC, dI) vwCl [(xa, .inl (cI, 20, .inl (upd (upd g_xa i (-1)) i (-1)))), (q1, .inl (cI, 20, .inl g))] _ := hP
          have hD : va_D A [(xa, .inl (cI, 20, .inl (upd (upd g_xa i (-1)) i (-1)))), (q1, .inl (cI, 20, .inl g))] := hD
          rw [fU2] at hP hD
          have hP : va_P (dC, dI) vwCl [(xa, .inl (cI, 20, .inl (upd g_xa i (-1)))), (q1, .inl (cI, 20, .inl g))] _ := hP
          have hD : va_D A [(xa, .inl (cI, 20, .inl (upd g_xa i (-1)))), (q1, .inl (cI, 20, .inl g))] := hD
          refine lv_iinc (v := (nI (i + 1))) (lv' := [(2, .int (nI (i + 1))), (3, .int 0), (1, .ref q1), (0, .ref xa)]) hx hb dX6_firstNumbers_89 hl (k := 1) rfl (nI_1 _) (Nat.le_of_ble_eq_true rfl) rfl (fun ls hl => ?_)
          refine lv_goto (tgt := 10) hx hb dX6_firstNumbers_92 (by decide) ?_
          exact ih (i + 1) hlt (by omega) (upd g_xa i (-1)) _ _ _ (fKeep hinv) (lv_sub hl [0, 2, 3] rfl) (hP.sub [0, 1] rfl) (hD.sub [0, 1] (by decide) rfl) hS
      · skip
        refine lv_iload_n hx hb dX6_firstNumbers_10 rfl (lv_at hl 0 rfl) ?_
        refine lv_aload_n hx hb dX6_firstNumbers_11 rfl (lv_at hl 1 rfl) ?_
        refine va_alen hx hb hK hP 1 0 rfl rfl (v := 20) rfl dX6_firstNumbers_12 ?_
        refine lv_icmp_ge (tgt := 95) hx hb dX6_firstNumbers_13 (by decide) (fun _ => ?_) (fun h9 => absurd (show nI 20 ≤ nI i from nI_le hge (Nat.lt_of_le_of_lt hi (by decide))) h9)
        exact ret g_xa _ _ _ _ _ _ (hinv) (hP.sub [0] rfl) (hK.sub [0] rfl) (hD.sub [0] (by decide) rfl) hS (Nat.le_of_ble_eq_true rfl) (Nat.le_of_ble_eq_true rfl) dX6_firstNumbers_95
  exact lp10 (20 + 1) 0 (Nat.le_of_ble_eq_true rfl) (by decide) g _ _ _ (hg) (lv_sub hl [0, 1, 2] rfl) (hP.sub [0, 1] rfl) (hD.sub [0, 1] (by decide) rfl) hS

set_option maxHeartbeats 4000000 in
set_option maxRecDepth 100000 in
/-- colours of two empty circuits -/
theorem kX6_colours (l : Launch) (dC : Nat → ClassId) (dI : Nat → Nat → Nat) (k0 kN kA kO kK kV kG kP kC kD kE kF kX kY kT kU : Nat) (cI : ClassId) (g1 g2 g3 g4 : Nat → Int32) (sz : Nat) : fMv l yX6_colours wsX6_colours ({ frames := 4, cells := 2, slots := 40, locals := 93 } : Room) dC dI [.ref k0] [(k0, .inr (9, [.ref kN, .ref kA, .ref kO, .ref kK, .ref kV, .ref kG, .ref kP, .ref kC, .ref kD, .ref kE, .ref kF, .ref kX, .ref kY, .int 0, .ref kT, .ref kU, .int 0, .int 0, .int 0])), (kN, .inl (cI, 2, .inl (fun _ => 0))), (kA, .inl (cI, 2, .inl (fun _ => 0))), (kC, .inl (cI, 20, .inl g1)), (kD, .inl (cI, 20, .inl g2)), (kE, .inl (cI, 20, .inl g3)), (kF, .inl (cI, 20, .inl g4))] [(cI, .int)] sz (fun (u : (Nat → Int32) × (Nat → Int32)) => (∀ j, j < 20 → u.1 j = (-1)) ∧ ∀ j, j < 20 → u.2 j = (-1)) (fun u => [(k0, .inr (9, [.ref kN, .ref kA, .ref kO, .ref kK, .ref kV, .ref kG, .ref kP, .ref kC, .ref kD, .ref kE, .ref kF, .ref kX, .ref kY, .int 0, .ref kT, .ref kU, .int 0, .int 0, .int 0])), (kN, .inl (cI, 2, .inl (fun _ => 0))), (kA, .inl (cI, 2, .inl (fun _ => 0))), (kC, .inl (cI, 20, .inl u.1)), (kD, .inl (cI, 20, .inl u.2))]) (fun u => [(cI, .int)]) := by
  refine oP_v (y := yX6_colours) (cc := cX6_colours) (maxL := 4) (by decide) rfl (Nat.le_of_ble_eq_true rfl) ?_
  intro p e s m args below meth c ls A Q hx hb hr hml hown hts hN hZ hA hin hlk hP hK hD hl ret
  have hS : va_S A s.heap s.heap [] := va_S.rf
  have hl : lv_has ls 4 [(0, .ref k0)] := hl
  have hP : va_P (dC, dI) vwCl [(k0, .inr (9, [.ref kN, .ref kA, .ref kO, .ref kK, .ref kV, .ref kG, .ref kP, .ref kC, .ref kD, .ref kE, .ref kF, .ref kX, .ref kY, .int 0, .ref kT, .ref kU, .int 0, .int 0, .int 0])), (kN, .inl (cI, 2, .inl (fun _ => 0))), (kA, .inl (cI, 2, .inl (fun _ => 0))), (kC, .inl (cI, 20, .inl g1)), (kD, .inl (cI, 20, .inl g2)), (kE, .inl (cI, 20, .inl g3)), (kF, .inl (cI, 20, .inl g4))] _ := hP
  have hD : va_D A [(k0, .inr (9, [.ref kN, .ref kA, .ref kO, .ref kK, .ref kV, .ref kG, .ref kP, .ref kC, .ref kD, .ref kE, .ref kF, .ref kX, .ref kY, .int 0, .ref kT, .ref kU, .int 0, .int 0, .int 0])), (kN, .inl (cI, 2, .inl (fun _ => 0))), (kA, .inl (cI, 2, .inl (fun _ => 0))), (kC, .inl (cI, 20, .inl g1)), (kD, .inl (cI, 20, .inl g2)), (kE, .inl (cI, 20, .inl g3)), (kF, .inl (cI, 20, .inl g4))] := hD
  refine lv_iconst (v := 0) hx hb dX6_colours_0 (by decide) ?_
  refine lv_istore_n (lv' := [(1, .int 0), (0, .ref k0)]) hx hb dX6_colours_1 rfl hl (Nat.le_of_ble_eq_true rfl) rfl (fun ls hl => ?_)
  have lp2 : ∀ (n i : Nat), i ≤ 20 → 20 - i < n → ∀ (g_kC : Nat → Int32) (g_kD : Nat → Int32) (ls : Array Slot) (H : Heap) (locs : List Loc), ((∀ j, j < i → g_kC j = (-1)) ∧ ∀ j, j < i → g_kD j = (-1)) → lv_has ls 4 [(1, .int (nI i)), (0, .ref k0)] → va_P (dC, dI) vwCl [(k0, .inr (9, [.ref kN, .ref kA, .ref kO, .ref kK, .ref kV, .ref kG, .ref kP, .ref kC, .ref kD, .ref kE, .ref kF, .ref kX, .ref kY, .int 0, .ref kT, .ref kU, .int 0, .int 0, .int 0])), (kN, .inl (cI, 2, .inl (fun _ => 0))), (kA, .inl (cI, 2, .inl (fun _ => 0))), (kC, .inl (cI, 20, .inl g_kC)), (kD, .inl (cI, 20, .inl g_kD)), (kE, .inl (cI, 20, .inl g3)), (kF, .inl (cI, 20, .inl g4))] H → va_D A [(k0, .inr (9, [.ref kN, .ref kA, .ref kO, .ref kK, .ref kV, .ref kG, .ref kP, .ref kC, .ref kD, .ref kE, .ref kF, .ref kX, .ref kY, .int 0, .ref kT, .ref kU, .int 0, .int 0, .int 0])), (kN, .inl (cI, 2, .inl (fun _ => 0))), (kA, .inl (cI, 2, .inl (fun _ => 0))), (kC, .inl (cI, 20, .inl g_kC)), (kD, .inl (cI, 20, .inl g_kD)), (kE, .inl (cI, 20, .inl g3)), (kF, .inl (cI, 20, .inl g4))] → va_S A s.heap H locs → W p l e ({ frames := 4, cells := 2, slots := 40, locals := 93 } : Room) s m args below meth c H locs 0 0 Q (F0 m 2 ls []) := by
    intro n
    induction n with
    | zero => intro i _ h9; exact absurd h9 (Nat.not_lt_zero _)
    | succ n ih =>
      intro i hi ni g_kC g_kD ls H locs hinv hl hP hD hS
      rcases Nat.lt_or_ge i 20 with hlt | hge
      · skip
        refine lv_iload_n hx hb dX6_colours_2 rfl (lv_at hl 0 rfl) ?_
        refine lv_bipush (v := 20) hx hb dX6_colours_3 (by decide) ?_
        refine lv_icmp_ge (tgt := 91) hx hb dX6_colours_5 (by decide) (fun h9 => absurd h9 (show ¬ nI 20 ≤ nI i from nI_ge hlt (by decide))) (fun _ => ?_)
        refine lv_aload_n hx hb dX6_colours_8 rfl (lv_at hl 1 rfl) ?_
        refine va_get (D := (dC, dI)) (ci := 9) (v := .ref kC) (C := RX6) (T := TX6) (N := 19) hx hb hts (fun w h => List.mem_cons_of_mem _ (List.mem_append_left _ (List.mem_append_right _ (h)))) hown hK hP 0 rfl rfl 7 (by decide) (hts (.fieldLink RX6 33 "NetcompareModel" "netColours" "[I") (List.mem_cons_of_mem _ (List.mem_append_left _ (List.mem_append_left _ (List.mem_append_left _ (List.mem_of_getElem? (i := 0) rfl)))))) (fun _ h9 => h9) rfl dX6_colours_9 ?_
        refine lv_iload_n hx hb dX6_colours_12 rfl (lv_at hl 0 rfl) ?_
        refine lv_aload_n hx hb dX6_colours_13 rfl (lv_at hl 1 rfl) ?_
        refine lv_iload_n hx hb dX6_colours_14 rfl (lv_at hl 0 rfl) ?_
        refine lv_iconst (v := 0) hx hb dX6_colours_15 (by decide) ?_
        have hPc := hP.sub (ws' := [(k0, .inr (9, [.ref kN, .ref kA, .ref kO, .ref kK, .ref kV, .ref kG, .ref kP, .ref kC, .ref kD, .ref kE, .ref kF, .ref kX, .ref kY, .int 0, .ref kT, .ref kU, .int 0, .int 0, .int 0])), (kN, .inl (cI, 2, .inl (fun _ => 0))), (kA, .inl (cI, 2, .inl (fun _ => 0)))]) [0, 1, 2] rfl
        have hDc := hD.sub (ws' := [(k0, .inr (9, [.ref kN, .ref kA, .ref kO, .ref kK, .ref kV, .ref kG, .ref kP, .ref kC, .ref kD, .ref kE, .ref kF, .ref kX, .ref kY, .int 0, .ref kT, .ref kU, .int 0, .int 0, .int 0])), (kN, .inl (cI, 2, .inl (fun _ => 0))), (kA, .inl (cI, 2, .inl (fun _ => 0)))]) [0, 1, 2] (by decide) rfl
        have hKc := hK.sub (tys' := [(cI, .int)]) [0] rfl
        have hFc := va_free (wc := [(k0, .inr (9, [.ref kN, .ref kA, .ref kO, .ref kK, .ref kV, .ref kG, .ref kP, .ref kC, .ref kD, .ref kE, .ref kF, .ref kX, .ref kY, .int 0, .ref kT, .ref kU, .int 0, .int 0, .int 0])), (kN, .inl (cI, 2, .inl (fun _ => 0))), (kA, .inl (cI, 2, .inl (fun _ => 0)))]) hD hS hA [0, 1, 2] rfl
        refine va_calli (va_runV (As := [.int (nI i), .int 0]) (rest := [.int (nI i), .ref kC]) ⟨hx, hb, hml, hown, hts⟩ (kX6_isThere0 l dC dI k0 kN kA kO kK kV kG kP kC kD kE kF kX kY kT kU cI i H.size (by omega)) (cwV 2 hts gX6_colours_X6_isThere rfl rfl rfl (by decide +kernel) ⟨Nat.le_of_ble_eq_true rfl, Nat.le_of_ble_eq_true rfl⟩) (fPreV hN hZ hS (fun q h => hFc q h) hPc hKc hDc (ci := 9) (q0 := 0) rfl rfl) rfl rfl hl.1 rfl (lv_room (Nat.le_of_ble_eq_true rfl)) dX6_colours_16 ⟨Nat.le_of_ble_eq_true rfl, Nat.le_of_ble_eq_true rfl⟩) hS (fun q _ h => hFc q h) hFc (fun r u t H1 locs ht hvm hw hB hz1 hk1 hS => ?_)
        obtain ⟨hP1, hK1, hD1⟩ := hB
        rw [ht] at hP1
        have hK1 := va_K.moved hvm.symm hK1
        obtain ⟨hP, hD⟩ := va_join (wr := [(kC, .inl (cI, 20, .inl g_kC)), (kD, .inl (cI, 20, .inl g_kD)), (kE, .inl (cI, 20, .inl g3)), (kF, .inl (cI, 20, .inl g4))]) (w1 := [(k0, .inr (9, [.ref kN, .ref kA, .ref kO, .ref kK, .ref kV, .ref kG, .ref kP, .ref kC, .ref kD, .ref kE, .ref kF, .ref kX, .ref kY, .int 0, .ref kT, .ref kU, .int 0, .int 0, .int 0])), (kN, .inl (cI, 2, .inl (fun _ => 0))), (kA, .inl (cI, 2, .inl (fun _ => 0)))]) hP hD [0, 1, 2] [3, 4, 5, 6] rfl rfl (by decide) (by decide) hk1 hFc hP1 hD1
        generalize H1 = H at hP hS ⊢
        have hP : va_P (dC, dI) vwCl [(kC, .inl (cI, 20, .inl g_kC)), (kD, .inl (cI, 20, .inl g_kD)), (kE, .inl (cI, 20, .inl g3)), (kF, .inl (cI, 20, .inl g4)), (k0, .inr (9, [.ref kN, .ref kA, .ref kO, .ref kK, .ref kV, .ref kG, .ref kP, .ref kC, .ref kD, .ref kE, .ref kF, .ref kX, .ref kY, .int 0, .ref kT, .ref kU, .int 0, .int 0, .int 0])), (kN, .inl (cI, 2, .inl (fun _ => 0))), (kA, .inl (cI, 2, .inl (fun _ => 0)))] _ := hP
        have hD : va_D A [(kC, .inl (cI, 20, .inl g_kC)), (kD, .inl (cI, 20, .inl g_kD)), (kE, .inl (cI, 20, .inl g3)), (kF, .inl (cI, 20, .inl g4)), (k0, .inr (9, [.ref kN, .ref kA, .ref kO, .ref kK, .ref kV, .ref kG, .ref kP, .ref kC, .ref kD, .ref kE, .ref kF, .ref kX, .ref kY, .int 0, .ref kT, .ref kU, .int 0, .int 0, .int 0])), (kN, .inl (cI, 2, .inl (fun _ => 0))), (kA, .inl (cI, 2, .inl (fun _ => 0)))] := hD
        subst hw
        refine lv_if_eq (tgt := 47) hx hb dX6_colours_19 (by decide) (fun _ => ?_) (fun h9 => absurd (by decide) h9)
        refine lv_iconst (v := (-1)) hx hb dX6_colours_47 (by decide) ?_
        refine va_iast hx hb hK hP hD hS 0 0 rfl rfl (vp_in_nI (Nat.lt_of_lt_of_le hlt (by decide)) (by decide)) dX6_colours_48 (fun H locs hP hD hS => ?_)
        rw [nI_clamp (show i < 2 ^ 31 by omega)] at hP hD
        have hP : va_P (dC, dI) vwCl [(kC, .inl (cI, 20, .inl (upd g_kC i (-1)))), (kD, .inl (cI, 20, .inl g_kD)), (kE, .inl (cI, 20, .inl g3)), (kF, .inl (cI, 20, .inl g4)), (k0, .inr (9, [.ref kN, .ref kA, .ref kO, .ref kK, .ref kV, .ref kG, .ref kP, .ref kC, .ref kD, .ref kE, .ref kF, .ref kX, .ref kY, .int 0, .ref kT, .ref kU, .int 0, .int 0, .int 0])), (kN, .inl (cI, 2, .inl (fun _ => 0))), (kA, .inl (cI, 2, .inl (fun _ => 0)))] _ := hP
        have hD : va_D A [(kC, .inl (cI, 20, .inl (upd g_kC i (-1)))), (kD, .inl (cI, 20, .inl g_kD)), (kE, .inl (cI, 20, .inl g3)), (kF, .inl (cI, 20, .inl g4)), (k0, .inr (9, [.ref kN, .ref kA, .ref kO, .ref kK, .ref kV, .ref kG, .ref kP, .ref kC, .ref kD, .ref kE, .ref kF, .ref kX, .ref kY, .int 0, .ref kT, .ref kU, .int 0, .int 0, .int 0])), (kN, .inl (cI, 2, .inl (fun _ => 0))), (kA, .inl (cI, 2, .inl (fun _ => 0)))] := hD
        refine lv_aload_n hx hb dX6_colours_49 rfl (lv_at hl 1 rfl) ?_
        refine va_get (D := (dC, dI)) (ci := 9) (v := .ref kD) (C := RX6) (T := TX6) (N := 19) hx hb hts (fun w h => List.mem_cons_of_mem _ (List.mem_append_left _ (List.mem_append_right _ (h)))) hown hK hP 4 rfl rfl 8 (by decide) (hts (.fieldLink RX6 36 "NetcompareModel" "partColours" "[I") (List.mem_cons_of_mem _ (List.mem_append_left _ (List.mem_append_left _ (List.mem_append_left _ (List.mem_of_getElem? (i := 2) rfl)))))) (fun _ h9 => h9) rfl dX6_colours_50 ?_
        refine lv_iload_n hx hb dX6_colours_53 rfl (lv_at hl 0 rfl) ?_
        refine lv_aload_n hx hb dX6_colours_54 rfl (lv_at hl 1 rfl) ?_
        refine lv_iload_n hx hb dX6_colours_55 rfl (lv_at hl 0 rfl) ?_
        refine lv_iconst (v := 1) hx hb dX6_colours_56 (by decide) ?_
        have hPc := hP.sub (ws' := [(k0, .inr (9, [.ref kN, .ref kA, .ref kO, .ref kK, .ref kV, .ref kG, .ref kP, .ref kC, .ref kD, .ref kE, .ref kF, .ref kX, .ref kY, .int 0, .ref kT, .ref kU, .int 0, .int 0, .int 0])), (kN, .inl (cI, 2, .inl (fun _ => 0))), (kA, .inl (cI, 2, .inl (fun _ => 0)))]) [4, 5, 6] rfl
        have hDc := hD.sub (ws' := [(k0, .inr (9, [.ref kN, .ref kA, .ref kO, .ref kK, .ref kV, .ref kG, .ref kP, .ref kC, .ref kD, .ref kE, .ref kF, .ref kX, .ref kY, .int 0, .ref kT, .ref kU, .int 0, .int 0, .int 0])), (kN, .inl (cI, 2, .inl (fun _ => 0))), (kA, .inl (cI, 2, .inl (fun _ => 0)))]) [4, 5, 6] (by decide) rfl
        have hKc := hK.sub (tys' := [(cI, .int)]) [0] rfl
        have hFc := va_free (wc := [(k0, .inr (9, [.ref kN, .ref kA, .ref kO, .ref kK, .ref kV, .ref kG, .ref kP, .ref kC, .ref kD, .ref kE, .ref kF, .ref kX, .ref kY, .int 0, .ref kT, .ref kU, .int 0, .int 0, .int 0])), (kN, .inl (cI, 2, .inl (fun _ => 0))), (kA, .inl (cI, 2, .inl (fun _ => 0)))]) hD hS hA [4, 5, 6] rfl
        refine va_calli (va_runV (As := [.int (nI i), .int 1]) (rest := [.int (nI i), .ref kD]) ⟨hx, hb, hml, hown, hts⟩ (kX6_isThere1 l dC dI k0 kN kA kO kK kV kG kP kC kD kE kF kX kY kT kU cI i H.size (by omega)) (cwV 2 hts gX6_colours_X6_isThere rfl rfl rfl (by decide +kernel) ⟨Nat.le_of_ble_eq_true rfl, Nat.le_of_ble_eq_true rfl⟩) (fPreV hN hZ hS (fun q h => hFc q h) hPc hKc hDc (ci := 9) (q0 := 0) rfl rfl) rfl rfl hl.1 rfl (lv_room (Nat.le_of_ble_eq_true rfl)) dX6_colours_57 ⟨Nat.le_of_ble_eq_true rfl, Nat.le_of_ble_eq_true rfl⟩) hS (fun q _ h => hFc q h) hFc (fun r u t H1 locs ht hvm hw hB hz1 hk1 hS => ?_)
        obtain ⟨hP1, hK1, hD1⟩ := hB
        rw [ht] at hP1
        have hK1 := va_K.moved hvm.symm hK1
        obtain ⟨hP, hD⟩ := va_join (wr := [(kC, .inl (cI, 20, .inl (upd g_kC i (-1)))), (kD, .inl (cI, 20, .inl g_kD)), (kE, .inl (cI, 20, .inl g3)), (kF, .inl (cI, 20, .inl g4))]) (w1 := [(k0, .inr (9, [.ref kN, .ref kA, .ref kO, .ref kK, .ref kV, .ref kG, .ref kP, .ref kC, .ref kD, .ref kE, .ref kF, .ref kX, .ref kY, .int 0, .ref kT, .ref kU, .int 0, .int 0, .int 0])), (kN, .inl (cI, 2, .inl (fun _ => 0))), (kA, .inl (cI, 2, .inl (fun _ => 0)))]) hP hD [4, 5, 6] [0, 1, 2, 3] rfl rfl (by decide) (by decide) hk1 hFc hP1 hD1
        generalize H1 = H at hP hS ⊢
        have hP : va_P (dC, dI) vwCl [(kC, .inl (cI, 20, .inl (upd g_kC i (-1)))), (kD, .inl (cI, 20, .inl g_kD)), (kE, .inl (cI, 20, .inl g3)), (kF, .inl (cI, 20, .inl g4)), (k0, .inr (9, [.ref kN, .ref kA, .ref kO, .ref kK, .ref kV, .ref kG, .ref kP, .ref kC, .ref kD, .ref kE, .ref kF, .ref kX, .ref kY, .int 0, .ref kT, .ref kU, .int 0, .int 0, .int 0])), (kN, .inl (cI, 2, .inl (fun _ => 0))), (kA, .inl (cI, 2, .inl (fun _ => 0)))] _ := hP
        have hD : va_D A [(kC, .inl (cI, 20, .inl (upd g_kC i (-1)))), (kD, .inl (cI, 20, .inl g_kD)), (kE, .inl (cI, 20, .inl g3)), (kF, .inl (cI, 20, .inl g4)), (k0, .inr (9, [.ref kN, .ref kA, .ref kO, .ref kK, .ref kV, .ref kG, .ref kP, .ref kC, .ref kD, .ref kE, .ref kF, .ref kX, .ref kY, .int 0, .ref kT, .ref kU, .int 0, .int 0, .int 0])), (kN, .inl (cI, 2, .inl (fun _ => 0))), (kA, .inl (cI, 2, .inl (fun _ => 0)))] := hD
        subst hw
        refine lv_if_eq (tgt := 83) hx hb dX6_colours_60 (by decide) (fun _ => ?_) (fun h9 => absurd (by decide) h9)
        refine lv_iconst (v := (-1)) hx hb dX6_colours_83 (by decide) ?_
        refine va_iast hx hb hK hP hD hS 1 0 rfl rfl (vp_in_nI (Nat.lt_of_lt_of_le hlt (by decide)) (by decide)) dX6_colours_84 (fun H locs hP hD hS => ?_)
        rw [nI_clamp (show i < 2 ^ 31 by omega)] at hP hD
        have hP : va_P (dC, dI) vwCl [(kC, .inl (cI, 20, .inl (upd g_kC i (-1)))), (kD, .inl (cI, 20, .inl (upd g_kD i (-1)))), (kE, .inl (cI, 20, .inl g3)), (kF, .inl (cI, 20, .inl g4)), (k0, .inr (9, [.ref kN, .ref kA, .ref kO, .ref kK, .ref kV, .ref kG, .ref kP, .ref kC, .ref kD, .ref kE, .ref kF, .ref kX, .ref kY, .int 0, .ref kT, .ref kU, .int 0, .int 0, .int 0])), (kN, .inl (cI, 2, .inl (fun _ => 0))), (kA, .inl (cI, 2, .inl (fun _ => 0)))] _ := hP
        have hD : va_D A [(kC, .inl (cI, 20, .inl (upd g_kC i (-1)))), (kD, .inl (cI, 20, .inl (upd g_kD i (-1)))), (kE, .inl (cI, 20, .inl g3)), (kF, .inl (cI, 20, .inl g4)), (k0, .inr (9, [.ref kN, .ref kA, .ref kO, .ref kK, .ref kV, .ref kG, .ref kP, .ref kC, .ref kD, .ref kE, .ref kF, .ref kX, .ref kY, .int 0, .ref kT, .ref kU, .int 0, .int 0, .int 0])), (kN, .inl (cI, 2, .inl (fun _ => 0))), (kA, .inl (cI, 2, .inl (fun _ => 0)))] := hD
        refine lv_iinc (v := (nI (i + 1))) (lv' := [(1, .int (nI (i + 1))), (0, .ref k0)]) hx hb dX6_colours_85 hl (k := 0) rfl (nI_1 _) (Nat.le_of_ble_eq_true rfl) rfl (fun ls hl => ?_)
        refine lv_goto (tgt := 2) hx hb dX6_colours_88 (by decide) ?_
        exact ih (i + 1) hlt (by omega) (upd g_kC i (-1)) (upd g_kD i (-1)) _ _ _ (⟨fInv hinv.1, fInv hinv.2⟩) (lv_sub hl [0, 1] rfl) (hP.sub [4, 5, 6, 0, 1, 2, 3] rfl) (hD.sub [4, 5, 6, 0, 1, 2, 3] (by decide) rfl) hS
      have hA1 : ∀ j, j < 20 → g_kC j = (-1) := fun j hj => hinv.1 j (by omega)
      have hA2 : ∀ j, j < 20 → g_kD j = (-1) := fun j hj => hinv.2 j (by omega)
      · skip
        refine lv_iload_n hx hb dX6_colours_2 rfl (lv_at hl 0 rfl) ?_
        refine lv_bipush (v := 20) hx hb dX6_colours_3 (by decide) ?_
        refine lv_icmp_ge (tgt := 91) hx hb dX6_colours_5 (by decide) (fun _ => ?_) (fun h9 => absurd (show nI 20 ≤ nI i from nI_le hge (Nat.lt_of_le_of_lt hi (by decide))) h9)
        refine lv_aload_n hx hb dX6_colours_91 rfl (lv_at hl 1 rfl) ?_
        refine va_get (D := (dC, dI)) (ci := 9) (v := .ref kC) (C := RX6) (T := TX6) (N := 19) hx hb hts (fun w h => List.mem_cons_of_mem _ (List.mem_append_left _ (List.mem_append_right _ (h)))) hown hK hP 0 rfl rfl 7 (by decide) (hts (.fieldLink RX6 33 "NetcompareModel" "netColours" "[I") (List.mem_cons_of_mem _ (List.mem_append_left _ (List.mem_append_left _ (List.mem_append_left _ (List.mem_of_getElem? (i := 0) rfl)))))) (fun _ h9 => h9) rfl dX6_colours_92 ?_
        have hPc := hP.sub (ws' := [(kC, .inl (cI, 20, .inl g_kC))]) [3] rfl
        have hDc := hD.sub (ws' := [(kC, .inl (cI, 20, .inl g_kC))]) [3] (by decide) rfl
        have hKc := hK.sub (tys' := [(cI, .int)]) [0] rfl
        have hFc := va_free (wc := [(kC, .inl (cI, 20, .inl g_kC))]) hD hS hA [3] rfl
        refine va_callv (va_runS (As := [.ref kC]) (rest := []) ⟨hx, hb, hml, hown, hts⟩ (kX6_firstNumbers l dC dI kC cI g_kC H.size hA1) (va_cwS 1 hts gX6_colours_X6_firstNumbers rfl rfl rfl (by decide +kernel) ⟨Nat.le_of_ble_eq_true rfl, Nat.le_of_ble_eq_true rfl⟩) (fPreS hN hZ hS (fun q h => hFc q h) hPc hKc hDc) rfl rfl hl.1 rfl (lv_room (Nat.le_of_ble_eq_true rfl)) dX6_colours_95 ⟨Nat.le_of_ble_eq_true rfl, Nat.le_of_ble_eq_true rfl⟩) hS (fun q _ h => hFc q h) hFc (fun u t H1 locs ht hvm hw hB hz1 hk1 hS => ?_)
        obtain ⟨hP1, hK1, hD1⟩ := hB
        rw [ht] at hP1
        have hK1 := va_K.moved hvm.symm hK1
        obtain ⟨u3, rfl⟩ : ∃ z, z = u := ⟨_, rfl⟩
        obtain ⟨hP, hD⟩ := va_join (wr := [(k0, .inr (9, [.ref kN, .ref kA, .ref kO, .ref kK, .ref kV, .ref kG, .ref kP, .ref kC, .ref kD, .ref kE, .ref kF, .ref kX, .ref kY, .int 0, .ref kT, .ref kU, .int 0, .int 0, .int 0])), (kN, .inl (cI, 2, .inl (fun _ => 0))), (kA, .inl (cI, 2, .inl (fun _ => 0))), (kD, .inl (cI, 20, .inl g_kD)), (kE, .inl (cI, 20, .inl g3)), (kF, .inl (cI, 20, .inl g4))]) (w1 := [(kC, .inl (cI, 20, .inl u3))]) hP hD [3] [0, 1, 2, 4, 5, 6] rfl rfl (by decide) (by decide) hk1 hFc hP1 hD1
        generalize H1 = H at hP hS ⊢
        have hP : va_P (dC, dI) vwCl [(k0, .inr (9, [.ref kN, .ref kA, .ref kO, .ref kK, .ref kV, .ref kG, .ref kP, .ref kC, .ref kD, .ref kE, .ref kF, .ref kX, .ref kY, .int 0, .ref kT, .ref kU, .int 0, .int 0, .int 0])), (kN, .inl (cI, 2, .inl (fun _ => 0))), (kA, .inl (cI, 2, .inl (fun _ => 0))), (kD, .inl (cI, 20, .inl g_kD)), (kE, .inl (cI, 20, .inl g3)), (kF, .inl (cI, 20, .inl g4)), (kC, .inl (cI, 20, .inl u3))] _ := hP
        have hD : va_D A [(k0, .inr (9, [.ref kN, .ref kA, .ref kO, .ref kK, .ref kV, .ref kG, .ref kP, .ref kC, .ref kD, .ref kE, .ref kF, .ref kX, .ref kY, .int 0, .ref kT, .ref kU, .int 0, .int 0, .int 0])), (kN, .inl (cI, 2, .inl (fun _ => 0))), (kA, .inl (cI, 2, .inl (fun _ => 0))), (kD, .inl (cI, 20, .inl g_kD)), (kE, .inl (cI, 20, .inl g3)), (kF, .inl (cI, 20, .inl g4)), (kC, .inl (cI, 20, .inl u3))] := hD
        refine W.widen (k := 1) (n := 20) (Nat.le_of_ble_eq_true rfl) (Nat.le_of_ble_eq_true rfl) ?_
        have hu4 := hw
        refine lv_aload_n hx hb dX6_colours_98 rfl (lv_at hl 1 rfl) ?_
        refine va_get (D := (dC, dI)) (ci := 9) (v := .ref kD) (C := RX6) (T := TX6) (N := 19) hx hb hts (fun w h => List.mem_cons_of_mem _ (List.mem_append_left _ (List.mem_append_right _ (h)))) hown hK hP 0 rfl rfl 8 (by decide) (hts (.fieldLink RX6 36 "NetcompareModel" "partColours" "[I") (List.mem_cons_of_mem _ (List.mem_append_left _ (List.mem_append_left _ (List.mem_append_left _ (List.mem_of_getElem? (i := 2) rfl)))))) (fun _ h9 => h9) rfl dX6_colours_99 ?_
        have hPc := hP.sub (ws' := [(kD, .inl (cI, 20, .inl g_kD))]) [3] rfl
        have hDc := hD.sub (ws' := [(kD, .inl (cI, 20, .inl g_kD))]) [3] (by decide) rfl
        have hKc := hK.sub (tys' := [(cI, .int)]) [0] rfl
        have hFc := va_free (wc := [(kD, .inl (cI, 20, .inl g_kD))]) hD hS hA [3] rfl
        refine va_callv (va_runS (As := [.ref kD]) (rest := []) ⟨hx, hb, hml, hown, hts⟩ (kX6_firstNumbers l dC dI kD cI g_kD H.size hA2) (va_cwS 1 hts gX6_colours_X6_firstNumbers rfl rfl rfl (by decide +kernel) ⟨Nat.le_of_ble_eq_true rfl, Nat.le_of_ble_eq_true rfl⟩) (fPreS hN hZ hS (fun q h => hFc q h) hPc hKc hDc) rfl rfl hl.1 rfl (lv_room (Nat.le_of_ble_eq_true rfl)) dX6_colours_102 ⟨Nat.le_of_ble_eq_true rfl, Nat.le_of_ble_eq_true rfl⟩) hS (fun q _ h => hFc q h) hFc (fun u t H1 locs ht hvm hw hB hz1 hk1 hS => ?_)
        obtain ⟨hP1, hK1, hD1⟩ := hB
        rw [ht] at hP1
        have hK1 := va_K.moved hvm.symm hK1
        obtain ⟨u5, rfl⟩ : ∃ z, z = u := ⟨_, rfl⟩
        obtain ⟨hP, hD⟩ := va_join (wr := [(k0, .inr (9, [.ref kN, .ref kA, .ref kO, .ref kK, .ref kV, .ref kG, .ref kP, .ref kC, .ref kD, .ref kE, .ref kF, .ref kX, .ref kY, .int 0, .ref kT, .ref kU, .int 0, .int 0, .int 0])), (kN, .inl (cI, 2, .inl (fun _ => 0))), (kA, .inl (cI, 2, .inl (fun _ => 0))), (kE, .inl (cI, 20, .inl g3)), (kF, .inl (cI, 20, .inl g4)), (kC, .inl (cI, 20, .inl u3))]) (w1 := [(kD, .inl (cI, 20, .inl u5))]) hP hD [3] [0, 1, 2, 4, 5, 6] rfl rfl (by decide) (by decide) hk1 hFc hP1 hD1
        generalize H1 = H at hP hS ⊢
        have hP : va_P (dC, dI) vwCl [(k0, .inr (9, [.ref kN, .ref kA, .ref kO, .ref kK, .ref kV, .ref kG, .ref kP, .ref kC, .ref kD, .ref kE, .ref kF, .ref kX, .ref kY, .int 0, .ref kT, .ref kU, .int 0, .int 0, .int 0])), (kN, .inl (cI, 2, .inl (fun _ => 0))), (kA, .inl (cI, 2, .inl (fun _ => 0))), (kE, .inl (cI, 20, .inl g3)), (kF, .inl (cI, 20, .inl g4)), (kC, .inl (cI, 20, .inl u3)), (kD, .inl (cI, 20, .inl u5))] _ := hP
        have hD : va_D A [(k0, .inr (9, [.ref kN, .ref kA, .ref kO, .ref kK, .ref kV, .ref kG, .ref kP, .ref kC, .ref kD, .ref kE, .ref kF, .ref kX, .ref kY, .int 0, .ref kT, .ref kU, .int 0, .int 0, .int 0])), (kN, .inl (cI, 2, .inl (fun _ => 0))), (kA, .inl (cI, 2, .inl (fun _ => 0))), (kE, .inl (cI, 20, .inl g3)), (kF, .inl (cI, 20, .inl g4)), (kC, .inl (cI, 20, .inl u3)), (kD, .inl (cI, 20, .inl u5))] := hD
        refine W.widen (k := 2) (n := 40) (Nat.le_of_ble_eq_true rfl) (Nat.le_of_ble_eq_true rfl) ?_
        have hu6 := hw
        refine lv_aload_n hx hb dX6_colours_105 rfl (lv_at hl 1 rfl) ?_
        refine lv_iconst (v := 0) hx hb dX6_colours_106 (by decide) ?_
        refine va_put (D := (dC, dI)) (ci := 9) (v := .int 0) (ty := .int) (C := RX6) (T := TX6) (N := 19) hx hb hts (fun w h => List.mem_cons_of_mem _ (List.mem_append_left _ (List.mem_append_right _ (h)))) tyX6 tyX6_ok nmX6 hown hK hP hD hS 0 rfl rfl 13 (by decide) (hts (.fieldLink RX6 218 "NetcompareModel" "roundMany" "I") (List.mem_cons_of_mem _ (List.mem_append_left _ (List.mem_append_left _ (List.mem_append_left _ (List.mem_of_getElem? (i := 5) rfl)))))) (fun _ h9 => h9) rfl (by decide +kernel) rfl rfl (Nat.le_of_ble_eq_true rfl) dX6_colours_107 (fun H locs hP hD hS => ?_)
        have hP : va_P (dC, dI) vwCl [(k0, .inr (9, [.ref kN, .ref kA, .ref kO, .ref kK, .ref kV, .ref kG, .ref kP, .ref kC, .ref kD, .ref kE, .ref kF, .ref kX, .ref kY, .int 0, .ref kT, .ref kU, .int 0, .int 0, .int 0])), (kN, .inl (cI, 2, .inl (fun _ => 0))), (kA, .inl (cI, 2, .inl (fun _ => 0))), (kE, .inl (cI, 20, .inl g3)), (kF, .inl (cI, 20, .inl g4)), (kC, .inl (cI, 20, .inl u3)), (kD, .inl (cI, 20, .inl u5))] _ := hP
        have hD : va_D A [(k0, .inr (9, [.ref kN, .ref kA, .ref kO, .ref kK, .ref kV, .ref kG, .ref kP, .ref kC, .ref kD, .ref kE, .ref kF, .ref kX, .ref kY, .int 0, .ref kT, .ref kU, .int 0, .int 0, .int 0])), (kN, .inl (cI, 2, .inl (fun _ => 0))), (kA, .inl (cI, 2, .inl (fun _ => 0))), (kE, .inl (cI, 20, .inl g3)), (kF, .inl (cI, 20, .inl g4)), (kC, .inl (cI, 20, .inl u3)), (kD, .inl (cI, 20, .inl u5))] := hD
        refine lv_iconst (v := 1) hx hb dX6_colours_110 (by decide) ?_
        refine lv_istore_n (lv' := [(1, .int 1), (0, .ref k0)]) hx hb dX6_colours_111 rfl hl (Nat.le_of_ble_eq_true rfl) rfl (fun ls hl => ?_)
        refine lv_iload_n hx hb dX6_colours_112 rfl (lv_at hl 0 rfl) ?_
        refine lv_if_eq (tgt := 234) hx hb dX6_colours_113 (by decide) (fun h9 => absurd h9 (by decide)) (fun _ => ?_)
        refine lv_aload_n hx hb dX6_colours_116 rfl (lv_at hl 1 rfl) ?_
        refine va_get (D := (dC, dI)) (ci := 9) (v := .ref kC) (C := RX6) (T := TX6) (N := 19) hx hb hts (fun w h => List.mem_cons_of_mem _ (List.mem_append_left _ (List.mem_append_right _ (h)))) hown hK hP 0 rfl rfl 7 (by decide) (hts (.fieldLink RX6 33 "NetcompareModel" "netColours" "[I") (List.mem_cons_of_mem _ (List.mem_append_left _ (List.mem_append_left _ (List.mem_append_left _ (List.mem_of_getElem? (i := 0) rfl)))))) (fun _ h9 => h9) rfl dX6_colours_117 ?_
        have hPc := hP.sub (ws' := [(kC, .inl (cI, 20, .inl u3))]) [5] rfl
        have hDc := hD.sub (ws' := [(kC, .inl (cI, 20, .inl u3))]) [5] (by decide) rfl
        have hKc := hK.sub (tys' := [(cI, .int)]) [0] rfl
        have hFc := va_free (wc := [(kC, .inl (cI, 20, .inl u3))]) hD hS hA [5] rfl
        refine va_calli (va_runS (As := [.ref kC]) (rest := []) ⟨hx, hb, hml, hown, hts⟩ (kX6_classes l dC dI kC cI u3 H.size hu4) (va_cwS 1 hts gX6_colours_X6_classes rfl rfl rfl (by decide +kernel) ⟨Nat.le_of_ble_eq_true rfl, Nat.le_of_ble_eq_true rfl⟩) (fPreS hN hZ hS (fun q h => hFc q h) hPc hKc hDc) rfl rfl hl.1 rfl (lv_room (Nat.le_of_ble_eq_true rfl)) dX6_colours_120 ⟨Nat.le_of_ble_eq_true rfl, Nat.le_of_ble_eq_true rfl⟩) hS (fun q _ h => hFc q h) hFc (fun r u t H1 locs ht hvm hw hB hz1 hk1 hS => ?_)
        obtain ⟨hP1, hK1, hD1⟩ := hB
        rw [ht] at hP1
        have hK1 := va_K.moved hvm.symm hK1
        obtain ⟨hP, hD⟩ := va_join (wr := [(k0, .inr (9, [.ref kN, .ref kA, .ref kO, .ref kK, .ref kV, .ref kG, .ref kP, .ref kC, .ref kD, .ref kE, .ref kF, .ref kX, .ref kY, .int 0, .ref kT, .ref kU, .int 0, .int 0, .int 0])), (kN, .inl (cI, 2, .inl (fun _ => 0))), (kA, .inl (cI, 2, .inl (fun _ => 0))), (kE, .inl (cI, 20, .inl g3)), (kF, .inl (cI, 20, .inl g4)), (kD, .inl (cI, 20, .inl u5))]) (w1 := [(kC, .inl (cI, 20, .inl u3))]) hP hD [5] [0, 1, 2, 3, 4, 6] rfl rfl (by decide) (by decide) hk1 hFc hP1 hD1
        generalize H1 = H at hP hS ⊢
        have hP : va_P (dC, dI) vwCl [(k0, .inr (9, [.ref kN, .ref kA, .ref kO, .ref kK, .ref kV, .ref kG, .ref kP, .ref kC, .ref kD, .ref kE, .ref kF, .ref kX, .ref kY, .int 0, .ref kT, .ref kU, .int 0, .int 0, .int 0])), (kN, .inl (cI, 2, .inl (fun _ => 0))), (kA, .inl (cI, 2, .inl (fun _ => 0))), (kE, .inl (cI, 20, .inl g3)), (kF, .inl (cI, 20, .inl g4)), (kD, .inl (cI, 20, .inl u5)), (kC, .inl (cI, 20, .inl u3))] _ := hP
        have hD : va_D A [(k0, .inr (9, [.ref kN, .ref kA, .ref kO, .ref kK, .ref kV, .ref kG, .ref kP, .ref kC, .ref kD, .ref kE, .ref kF, .ref kX, .ref kY, .int 0, .ref kT, .ref kU, .int 0, .int 0, .int 0])), (kN, .inl (cI, 2, .inl (fun _ => 0))), (kA, .inl (cI, 2, .inl (fun _ => 0))), (kE, .inl (cI, 20, .inl g3)), (kF, .inl (cI, 20, .inl g4)), (kD, .inl (cI, 20, .inl u5)), (kC, .inl (cI, 20, .inl u3))] := hD
        subst hw
        refine lv_aload_n hx hb dX6_colours_123 rfl (lv_at hl 1 rfl) ?_
        refine va_get (D := (dC, dI)) (ci := 9) (v := .ref kD) (C := RX6) (T := TX6) (N := 19) hx hb hts (fun w h => List.mem_cons_of_mem _ (List.mem_append_left _ (List.mem_append_right _ (h)))) hown hK hP 0 rfl rfl 8 (by decide) (hts (.fieldLink RX6 36 "NetcompareModel" "partColours" "[I") (List.mem_cons_of_mem _ (List.mem_append_left _ (List.mem_append_left _ (List.mem_append_left _ (List.mem_of_getElem? (i := 2) rfl)))))) (fun _ h9 => h9) rfl dX6_colours_124 ?_
        have hPc := hP.sub (ws' := [(kD, .inl (cI, 20, .inl u5))]) [5] rfl
        have hDc := hD.sub (ws' := [(kD, .inl (cI, 20, .inl u5))]) [5] (by decide) rfl
        have hKc := hK.sub (tys' := [(cI, .int)]) [0] rfl
        have hFc := va_free (wc := [(kD, .inl (cI, 20, .inl u5))]) hD hS hA [5] rfl
        refine va_calli (va_runS (As := [.ref kD]) (rest := [.int 0]) ⟨hx, hb, hml, hown, hts⟩ (kX6_classes l dC dI kD cI u5 H.size hu6) (va_cwS 1 hts gX6_colours_X6_classes rfl rfl rfl (by decide +kernel) ⟨Nat.le_of_ble_eq_true rfl, Nat.le_of_ble_eq_true rfl⟩) (fPreS hN hZ hS (fun q h => hFc q h) hPc hKc hDc) rfl rfl hl.1 rfl (lv_room (Nat.le_of_ble_eq_true rfl)) dX6_colours_127 ⟨Nat.le_of_ble_eq_true rfl, Nat.le_of_ble_eq_true rfl⟩) hS (fun q _ h => hFc q h) hFc (fun r u t H1 locs ht hvm hw hB hz1 hk1 hS => ?_)
        obtain ⟨hP1, hK1, hD1⟩ := hB
        rw [ht] at hP1
        have hK1 := va_K.moved hvm.symm hK1
        obtain ⟨hP, hD⟩ := va_join (wr := [(k0, .inr (9, [.ref kN, .ref kA, .ref kO, .ref kK, .ref kV, .ref kG, .ref kP, .ref kC, .ref kD, .ref kE, .ref kF, .ref kX, .ref kY, .int 0, .ref kT, .ref kU, .int 0, .int 0, .int 0])), (kN, .inl (cI, 2, .inl (fun _ => 0))), (kA, .inl (cI, 2, .inl (fun _ => 0))), (kE, .inl (cI, 20, .inl g3)), (kF, .inl (cI, 20, .inl g4)), (kC, .inl (cI, 20, .inl u3))]) (w1 := [(kD, .inl (cI, 20, .inl u5))]) hP hD [5] [0, 1, 2, 3, 4, 6] rfl rfl (by decide) (by decide) hk1 hFc hP1 hD1
        generalize H1 = H at hP hS ⊢
        have hP : va_P (dC, dI) vwCl [(k0, .inr (9, [.ref kN, .ref kA, .ref kO, .ref kK, .ref kV, .ref kG, .ref kP, .ref kC, .ref kD, .ref kE, .ref kF, .ref kX, .ref kY, .int 0, .ref kT, .ref kU, .int 0, .int 0, .int 0])), (kN, .inl (cI, 2, .inl (fun _ => 0))), (kA, .inl (cI, 2, .inl (fun _ => 0))), (kE, .inl (cI, 20, .inl g3)), (kF, .inl (cI, 20, .inl g4)), (kC, .inl (cI, 20, .inl u3)), (kD, .inl (cI, 20, .inl u5))] _ := hP
        have hD : va_D A [(k0, .inr (9, [.ref kN, .ref kA, .ref kO, .ref kK, .ref kV, .ref kG, .ref kP, .ref kC, .ref kD, .ref kE, .ref kF, .ref kX, .ref kY, .int 0, .ref kT, .ref kU, .int 0, .int 0, .int 0])), (kN, .inl (cI, 2, .inl (fun _ => 0))), (kA, .inl (cI, 2, .inl (fun _ => 0))), (kE, .inl (cI, 20, .inl g3)), (kF, .inl (cI, 20, .inl g4)), (kC, .inl (cI, 20, .inl u3)), (kD, .inl (cI, 20, .inl u5))] := hD
        subst hw
        refine lv_iadd hx hb dX6_colours_130 ?_
        refine lv_topi (fun y7 ey7 => ?_)
        obtain rfl : y7 = 0 := ey7.trans (by decide)
        refine lv_istore_n (lv' := [(2, .int 0), (1, .int 1), (0, .ref k0)]) hx hb dX6_colours_131 rfl hl (Nat.le_of_ble_eq_true rfl) rfl (fun ls hl => ?_)
        refine lv_aload_n hx hb dX6_colours_132 rfl (lv_at hl 2 rfl) ?_
        refine lv_iconst (v := 0) hx hb dX6_colours_133 (by decide) ?_
        refine lv_aload_n hx hb dX6_colours_134 rfl (lv_at hl 2 rfl) ?_
        refine va_get (D := (dC, dI)) (ci := 9) (v := .ref kE) (C := RX6) (T := TX6) (N := 19) hx hb hts (fun w h => List.mem_cons_of_mem _ (List.mem_append_left _ (List.mem_append_right _ (h)))) hown hK hP 0 rfl rfl 9 (by decide) (hts (.fieldLink RX6 39 "NetcompareModel" "netAfter" "[I") (List.mem_cons_of_mem _ (List.mem_append_left _ (List.mem_append_left _ (List.mem_append_left _ (List.mem_of_getElem? (i := 6) rfl)))))) (fun _ h9 => h9) rfl dX6_colours_135 ?_
        have hPc := hP.sub (ws' := [(k0, .inr (9, [.ref kN, .ref kA, .ref kO, .ref kK, .ref kV, .ref kG, .ref kP, .ref kC, .ref kD, .ref kE, .ref kF, .ref kX, .ref kY, .int 0, .ref kT, .ref kU, .int 0, .int 0, .int 0])), (kN, .inl (cI, 2, .inl (fun _ => 0))), (kA, .inl (cI, 2, .inl (fun _ => 0))), (kE, .inl (cI, 20, .inl g3))]) [0, 1, 2, 3] rfl
        have hDc := hD.sub (ws' := [(k0, .inr (9, [.ref kN, .ref kA, .ref kO, .ref kK, .ref kV, .ref kG, .ref kP, .ref kC, .ref kD, .ref kE, .ref kF, .ref kX, .ref kY, .int 0, .ref kT, .ref kU, .int 0, .int 0, .int 0])), (kN, .inl (cI, 2, .inl (fun _ => 0))), (kA, .inl (cI, 2, .inl (fun _ => 0))), (kE, .inl (cI, 20, .inl g3))]) [0, 1, 2, 3] (by decide) rfl
        have hKc := hK.sub (tys' := [(cI, .int)]) [0] rfl
        have hFc := va_free (wc := [(k0, .inr (9, [.ref kN, .ref kA, .ref kO, .ref kK, .ref kV, .ref kG, .ref kP, .ref kC, .ref kD, .ref kE, .ref kF, .ref kX, .ref kY, .int 0, .ref kT, .ref kU, .int 0, .int 0, .int 0])), (kN, .inl (cI, 2, .inl (fun _ => 0))), (kA, .inl (cI, 2, .inl (fun _ => 0))), (kE, .inl (cI, 20, .inl g3))]) hD hS hA [0, 1, 2, 3] rfl
        refine va_callv (va_runV (As := [.int 0, .ref kE]) (rest := []) ⟨hx, hb, hml, hown, hts⟩ (kX6_numbers0 l dC dI k0 kN kA kO kK kV kG kP kC kD kE kF kX kY kT kU cI kE g3 H.size) (cwV 2 hts gX6_colours_X6_numbers rfl rfl rfl (by decide +kernel) ⟨Nat.le_of_ble_eq_true rfl, Nat.le_of_ble_eq_true rfl⟩) (fPreV hN hZ hS (fun q h => hFc q h) hPc hKc hDc (ci := 9) (q0 := 0) rfl rfl) rfl rfl hl.1 rfl (lv_room (Nat.le_of_ble_eq_true rfl)) dX6_colours_138 ⟨Nat.le_of_ble_eq_true rfl, Nat.le_of_ble_eq_true rfl⟩) hS (fun q _ h => hFc q h) hFc (fun u t H1 locs ht hvm hw hB hz1 hk1 hS => ?_)
        obtain ⟨hP1, hK1, hD1⟩ := hB
        rw [ht] at hP1
        have hK1 := va_K.moved hvm.symm hK1
        obtain ⟨u8, rfl⟩ : ∃ z, z = u := ⟨_, rfl⟩
        obtain ⟨hP, hD⟩ := va_join (wr := [(kF, .inl (cI, 20, .inl g4)), (kC, .inl (cI, 20, .inl u3)), (kD, .inl (cI, 20, .inl u5))]) (w1 := [(k0, .inr (9, [.ref kN, .ref kA, .ref kO, .ref kK, .ref kV, .ref kG, .ref kP, .ref kC, .ref kD, .ref kE, .ref kF, .ref kX, .ref kY, .int 0, .ref kT, .ref kU, .int 0, .int 0, .int 0])), (kN, .inl (cI, 2, .inl (fun _ => 0))), (kA, .inl (cI, 2, .inl (fun _ => 0))), (kE, .inl (cI, 20, .inl u8))]) hP hD [0, 1, 2, 3] [4, 5, 6] rfl rfl (by decide) (by decide) hk1 hFc hP1 hD1
        generalize H1 = H at hP hS ⊢
        have hP : va_P (dC, dI) vwCl [(kF, .inl (cI, 20, .inl g4)), (kC, .inl (cI, 20, .inl u3)), (kD, .inl (cI, 20, .inl u5)), (k0, .inr (9, [.ref kN, .ref kA, .ref kO, .ref kK, .ref kV, .ref kG, .ref kP, .ref kC, .ref kD, .ref kE, .ref kF, .ref kX, .ref kY, .int 0, .ref kT, .ref kU, .int 0, .int 0, .int 0])), (kN, .inl (cI, 2, .inl (fun _ => 0))), (kA, .inl (cI, 2, .inl (fun _ => 0))), (kE, .inl (cI, 20, .inl u8))] _ := hP
        have hD : va_D A [(kF, .inl (cI, 20, .inl g4)), (kC, .inl (cI, 20, .inl u3)), (kD, .inl (cI, 20, .inl u5)), (k0, .inr (9, [.ref kN, .ref kA, .ref kO, .ref kK, .ref kV, .ref kG, .ref kP, .ref kC, .ref kD, .ref kE, .ref kF, .ref kX, .ref kY, .int 0, .ref kT, .ref kU, .int 0, .int 0, .int 0])), (kN, .inl (cI, 2, .inl (fun _ => 0))), (kA, .inl (cI, 2, .inl (fun _ => 0))), (kE, .inl (cI, 20, .inl u8))] := hD
        have hu10 := hw
        refine lv_aload_n hx hb dX6_colours_141 rfl (lv_at hl 2 rfl) ?_
        refine lv_iconst (v := 1) hx hb dX6_colours_142 (by decide) ?_
        refine lv_aload_n hx hb dX6_colours_143 rfl (lv_at hl 2 rfl) ?_
        refine va_get (D := (dC, dI)) (ci := 9) (v := .ref kF) (C := RX6) (T := TX6) (N := 19) hx hb hts (fun w h => List.mem_cons_of_mem _ (List.mem_append_left _ (List.mem_append_right _ (h)))) hown hK hP 3 rfl rfl 10 (by decide) (hts (.fieldLink RX6 42 "NetcompareModel" "partAfter" "[I") (List.mem_cons_of_mem _ (List.mem_append_left _ (List.mem_append_left _ (List.mem_append_left _ (List.mem_of_getElem? (i := 7) rfl)))))) (fun _ h9 => h9) rfl dX6_colours_144 ?_
        have hPc := hP.sub (ws' := [(k0, .inr (9, [.ref kN, .ref kA, .ref kO, .ref kK, .ref kV, .ref kG, .ref kP, .ref kC, .ref kD, .ref kE, .ref kF, .ref kX, .ref kY, .int 0, .ref kT, .ref kU, .int 0, .int 0, .int 0])), (kN, .inl (cI, 2, .inl (fun _ => 0))), (kA, .inl (cI, 2, .inl (fun _ => 0))), (kF, .inl (cI, 20, .inl g4))]) [3, 4, 5, 0] rfl
        have hDc := hD.sub (ws' := [(k0, .inr (9, [.ref kN, .ref kA, .ref kO, .ref kK, .ref kV, .ref kG, .ref kP, .ref kC, .ref kD, .ref kE, .ref kF, .ref kX, .ref kY, .int 0, .ref kT, .ref kU, .int 0, .int 0, .int 0])), (kN, .inl (cI, 2, .inl (fun _ => 0))), (kA, .inl (cI, 2, .inl (fun _ => 0))), (kF, .inl (cI, 20, .inl g4))]) [3, 4, 5, 0] (by decide) rfl
        have hKc := hK.sub (tys' := [(cI, .int)]) [0] rfl
        have hFc := va_free (wc := [(k0, .inr (9, [.ref kN, .ref kA, .ref kO, .ref kK, .ref kV, .ref kG, .ref kP, .ref kC, .ref kD, .ref kE, .ref kF, .ref kX, .ref kY, .int 0, .ref kT, .ref kU, .int 0, .int 0, .int 0])), (kN, .inl (cI, 2, .inl (fun _ => 0))), (kA, .inl (cI, 2, .inl (fun _ => 0))), (kF, .inl (cI, 20, .inl g4))]) hD hS hA [3, 4, 5, 0] rfl
        refine va_callv (va_runV (As := [.int 1, .ref kF]) (rest := []) ⟨hx, hb, hml, hown, hts⟩ (kX6_numbers1 l dC dI k0 kN kA kO kK kV kG kP kC kD kE kF kX kY kT kU cI kF g4 H.size) (cwV 2 hts gX6_colours_X6_numbers rfl rfl rfl (by decide +kernel) ⟨Nat.le_of_ble_eq_true rfl, Nat.le_of_ble_eq_true rfl⟩) (fPreV hN hZ hS (fun q h => hFc q h) hPc hKc hDc (ci := 9) (q0 := 0) rfl rfl) rfl rfl hl.1 rfl (lv_room (Nat.le_of_ble_eq_true rfl)) dX6_colours_147 ⟨Nat.le_of_ble_eq_true rfl, Nat.le_of_ble_eq_true rfl⟩) hS (fun q _ h => hFc q h) hFc (fun u t H1 locs ht hvm hw hB hz1 hk1 hS => ?_)
        obtain ⟨hP1, hK1, hD1⟩ := hB
        rw [ht] at hP1
        have hK1 := va_K.moved hvm.symm hK1
        obtain ⟨u11, rfl⟩ : ∃ z, z = u := ⟨_, rfl⟩
        obtain ⟨hP, hD⟩ := va_join (wr := [(kC, .inl (cI, 20, .inl u3)), (kD, .inl (cI, 20, .inl u5)), (kE, .inl (cI, 20, .inl u8))]) (w1 := [(k0, .inr (9, [.ref kN, .ref kA, .ref kO, .ref kK, .ref kV, .ref kG, .ref kP, .ref kC, .ref kD, .ref kE, .ref kF, .ref kX, .ref kY, .int 0, .ref kT, .ref kU, .int 0, .int 0, .int 0])), (kN, .inl (cI, 2, .inl (fun _ => 0))), (kA, .inl (cI, 2, .inl (fun _ => 0))), (kF, .inl (cI, 20, .inl u11))]) hP hD [3, 4, 5, 0] [1, 2, 6] rfl rfl (by decide) (by decide) hk1 hFc hP1 hD1
        generalize H1 = H at hP hS ⊢
        have hP : va_P (dC, dI) vwCl [(kC, .inl (cI, 20, .inl u3)), (kD, .inl (cI, 20, .inl u5)), (kE, .inl (cI, 20, .inl u8)), (k0, .inr (9, [.ref kN, .ref kA, .ref kO, .ref kK, .ref kV, .ref kG, .ref kP, .ref kC, .ref kD, .ref kE, .ref kF, .ref kX, .ref kY, .int 0, .ref kT, .ref kU, .int 0, .int 0, .int 0])), (kN, .inl (cI, 2, .inl (fun _ => 0))), (kA, .inl (cI, 2, .inl (fun _ => 0))), (kF, .inl (cI, 20, .inl u11))] _ := hP
        have hD : va_D A [(kC, .inl (cI, 20, .inl u3)), (kD, .inl (cI, 20, .inl u5)), (kE, .inl (cI, 20, .inl u8)), (k0, .inr (9, [.ref kN, .ref kA, .ref kO, .ref kK, .ref kV, .ref kG, .ref kP, .ref kC, .ref kD, .ref kE, .ref kF, .ref kX, .ref kY, .int 0, .ref kT, .ref kU, .int 0, .int 0, .int 0])), (kN, .inl (cI, 2, .inl (fun _ => 0))), (kA, .inl (cI, 2, .inl (fun _ => 0))), (kF, .inl (cI, 20, .inl u11))] := hD
        have hu12 := hw
        refine lv_iconst (v := 0) hx hb dX6_colours_150 (by decide) ?_
        refine lv_istore_n (lv' := [(3, .int 0), (2, .int 0), (1, .int 1), (0, .ref k0)]) hx hb dX6_colours_151 rfl hl (Nat.le_of_ble_eq_true rfl) rfl (fun ls hl => ?_)
        have lp152 : ∀ (n i : Nat), i ≤ 20 → 20 - i < n → ∀ (g_kC : Nat → Int32) (g_kD : Nat → Int32) (ls : Array Slot) (H : Heap) (locs : List Loc), ((∀ j, j < i → g_kC j = (-1)) ∧ ∀ j, j < i → g_kD j = (-1)) → lv_has ls 4 [(3, .int (nI i)), (2, .int 0), (1, .int 1), (0, .ref k0)] → va_P (dC, dI) vwCl [(kC, .inl (cI, 20, .inl g_kC)), (kD, .inl (cI, 20, .inl g_kD)), (kE, .inl (cI, 20, .inl u8)), (k0, .inr (9, [.ref kN, .ref kA, .ref kO, .ref kK, .ref kV, .ref kG, .ref kP, .ref kC, .ref kD, .ref kE, .ref kF, .ref kX, .ref kY, .int 0, .ref kT, .ref kU, .int 0, .int 0, .int 0])), (kN, .inl (cI, 2, .inl (fun _ => 0))), (kA, .inl (cI, 2, .inl (fun _ => 0))), (kF, .inl (cI, 20, .inl u11))] H → va_D A [(kC, .inl (cI, 20, .inl g_kC)), (kD, .inl (cI, 20, .inl g_kD)), (kE, .inl (cI, 20, .inl u8)), (k0, .inr (9, [.ref kN, .ref kA, .ref kO, .ref kK, .ref kV, .ref kG, .ref kP, .ref kC, .ref kD, .ref kE, .ref kF, .ref kX, .ref kY, .int 0, .ref kT, .ref kU, .int 0, .int 0, .int 0])), (kN, .inl (cI, 2, .inl (fun _ => 0))), (kA, .inl (cI, 2, .inl (fun _ => 0))), (kF, .inl (cI, 20, .inl u11))] → va_S A s.heap H locs → W p l e ({ frames := 4, cells := 2, slots := 40, locals := 93 } : Room) s m args below meth c H locs 2 40 Q (F0 m 152 ls []) := by
          intro n
          induction n with
          | zero => intro i _ h9; exact absurd h9 (Nat.not_lt_zero _)
          | succ n ih =>
            intro i hi ni g_kC g_kD ls H locs hinv hl hP hD hS
            rcases Nat.lt_or_ge i 20 with hlt | hge
            · skip
              refine lv_iload_n hx hb dX6_colours_152 rfl (lv_at hl 0 rfl) ?_
              refine lv_bipush (v := 20) hx hb dX6_colours_153 (by decide) ?_
              refine lv_icmp_ge (tgt := 188) hx hb dX6_colours_155 (by decide) (fun h9 => absurd h9 (show ¬ nI 20 ≤ nI i from nI_ge hlt (by decide))) (fun _ => ?_)
              refine lv_aload_n hx hb dX6_colours_158 rfl (lv_at hl 3 rfl) ?_
              refine va_get (D := (dC, dI)) (ci := 9) (v := .ref kC) (C := RX6) (T := TX6) (N := 19) hx hb hts (fun w h => List.mem_cons_of_mem _ (List.mem_append_left _ (List.mem_append_right _ (h)))) hown hK hP 3 rfl rfl 7 (by decide) (hts (.fieldLink RX6 33 "NetcompareModel" "netColours" "[I") (List.mem_cons_of_mem _ (List.mem_append_left _ (List.mem_append_left _ (List.mem_append_left _ (List.mem_of_getElem? (i := 0) rfl)))))) (fun _ h9 => h9) rfl dX6_colours_159 ?_
              refine lv_iload_n hx hb dX6_colours_162 rfl (lv_at hl 0 rfl) ?_
              refine lv_aload_n hx hb dX6_colours_163 rfl (lv_at hl 3 rfl) ?_
              refine va_get (D := (dC, dI)) (ci := 9) (v := .ref kE) (C := RX6) (T := TX6) (N := 19) hx hb hts (fun w h => List.mem_cons_of_mem _ (List.mem_append_left _ (List.mem_append_right _ (h)))) hown hK hP 3 rfl rfl 9 (by decide) (hts (.fieldLink RX6 39 "NetcompareModel" "netAfter" "[I") (List.mem_cons_of_mem _ (List.mem_append_left _ (List.mem_append_left _ (List.mem_append_left _ (List.mem_of_getElem? (i := 6) rfl)))))) (fun _ h9 => h9) rfl dX6_colours_164 ?_
              refine lv_iload_n hx hb dX6_colours_167 rfl (lv_at hl 0 rfl) ?_
              refine va_iald hx hb hK hP 2 0 rfl rfl (vp_in_nI (Nat.lt_of_lt_of_le hlt (by decide)) (by decide)) dX6_colours_168 ?_
              refine lv_topi (fun y13 ey13 => ?_)
              obtain rfl : y13 = (-1) := ey13.trans (fEl (i := i) hu10 (by omega) (by decide))
              refine va_iast hx hb hK hP hD hS 0 0 rfl rfl (vp_in_nI (Nat.lt_of_lt_of_le hlt (by decide)) (by decide)) dX6_colours_169 (fun H locs hP hD hS => ?_)
              rw [nI_clamp (show i < 2 ^ 31 by omega)] at hP hD
              have hP : va_P (dC, dI) vwCl [(kC, .inl (cI, 20, .inl (upd g_kC i (-1)))), (kD, .inl (cI, 20, .inl g_kD)), (kE, .inl (cI, 20, .inl u8)), (k0, .inr (9, [.ref kN, .ref kA, .ref kO, .ref kK, .ref kV, .ref kG, .ref kP, .ref kC, .ref kD, .ref kE, .ref kF, .ref kX, .ref kY, .int 0, .ref kT, .ref kU, .int 0, .int 0, .int 0])), (kN, .inl (cI, 2, .inl (fun _ => 0))), (kA, .inl (cI, 2, .inl (fun _ => 0))), (kF, .inl (cI, 20, .inl u11))] _ := hP
              have hD : va_D A [(kC, .inl (cI, 20, .inl (upd g_kC i (-1)))), (kD, .inl (cI, 20, .inl g_kD)), (kE, .inl (cI, 20, .inl u8)), (k0, .inr (9, [.ref kN, .ref kA, .ref kO, .ref kK, .ref kV, .ref kG, .ref kP, .ref kC, .ref kD, .ref kE, .ref kF, .ref kX, .ref kY, .int 0, .ref kT, .ref kU, .int 0, .int 0, .int 0])), (kN, .inl (cI, 2, .inl (fun _ => 0))), (kA, .inl (cI, 2, .inl (fun _ => 0))), (kF, .inl (cI, 20, .inl u11))] := hD
              refine lv_aload_n hx hb dX6_colours_170 rfl (lv_at hl 3 rfl) ?_
              refine va_get (D := (dC, dI)) (ci := 9) (v := .ref kD) (C := RX6) (T := TX6) (N := 19) hx hb hts (fun w h => List.mem_cons_of_mem _ (List.mem_append_left _ (List.mem_append_right _ (h)))) hown hK hP 3 rfl rfl 8 (by decide) (hts (.fieldLink RX6 36 "NetcompareModel" "partColours" "[I") (List.mem_cons_of_mem _ (List.mem_append_left _ (List.mem_append_left _ (List.mem_append_left _ (List.mem_of_getElem? (i := 2) rfl)))))) (fun _ h9 => h9) rfl dX6_colours_171 ?_
              refine lv_iload_n hx hb dX6_colours_174 rfl (lv_at hl 0 rfl) ?_
              refine lv_aload_n hx hb dX6_colours_175 rfl (lv_at hl 3 rfl) ?_
              refine va_get (D := (dC, dI)) (ci := 9) (v := .ref kF) (C := RX6) (T := TX6) (N := 19) hx hb hts (fun w h => List.mem_cons_of_mem _ (List.mem_append_left _ (List.mem_append_right _ (h)))) hown hK hP 3 rfl rfl 10 (by decide) (hts (.fieldLink RX6 42 "NetcompareModel" "partAfter" "[I") (List.mem_cons_of_mem _ (List.mem_append_left _ (List.mem_append_left _ (List.mem_append_left _ (List.mem_of_getElem? (i := 7) rfl)))))) (fun _ h9 => h9) rfl dX6_colours_176 ?_
              refine lv_iload_n hx hb dX6_colours_179 rfl (lv_at hl 0 rfl) ?_
              refine va_iald hx hb hK hP 6 0 rfl rfl (vp_in_nI (Nat.lt_of_lt_of_le hlt (by decide)) (by decide)) dX6_colours_180 ?_
              refine lv_topi (fun y14 ey14 => ?_)
              obtain rfl : y14 = (-1) := ey14.trans (fEl (i := i) hu12 (by omega) (by decide))
              refine va_iast hx hb hK hP hD hS 1 0 rfl rfl (vp_in_nI (Nat.lt_of_lt_of_le hlt (by decide)) (by decide)) dX6_colours_181 (fun H locs hP hD hS => ?_)
              rw [nI_clamp (show i < 2 ^ 31 by omega)] at hP hD
              have hP : va_P (dC, dI) vwCl [(kC, .inl (cI, 20, .inl (upd g_kC i (-1)))), (kD, .inl (cI, 20, .inl (upd g_kD i (-1)))), (kE, .inl (cI, 20, .inl u8)), (k0, .inr (9, [.ref kN, .ref kA, .ref kO, .ref kK, .ref kV, .ref kG, .ref kP, .ref kC, .ref kD, .ref kE, .ref kF, .ref kX, .ref kY, .int 0, .ref kT, .ref kU, .int 0, .int 0, .int 0])), (kN, .inl (cI, 2, .inl (fun _ => 0))), (kA, .inl (cI, 2, .inl (fun _ => 0))), (kF, .inl (cI, 20, .inl u11))] _ := hP
              have hD : va_D A [(kC, .inl (cI, 20, .inl (upd g_kC i (-1)))), (kD, .inl (cI, 20, .inl (upd g_kD i (-1)))), (kE, .inl (cI, 20, .inl u8)), (k0, .inr (9, [.ref kN, .ref kA, .ref kO, .ref kK, .ref kV, .ref kG, .ref kP, .ref kC, .ref kD, .ref kE, .ref kF, .ref kX, .ref kY, .int 0, .ref kT, .ref kU, .int 0, .int 0, .int 0])), (kN, .inl (cI, 2, .inl (fun _ => 0))), (kA, .inl (cI, 2, .inl (fun _ => 0))), (kF, .inl (cI, 20, .inl u11))] := hD
              refine lv_iinc (v := (nI (i + 1))) (lv' := [(3, .int (nI (i + 1))), (2, .int 0), (1, .int 1), (0, .ref k0)]) hx hb dX6_colours_182 hl (k := 0) rfl (nI_1 _) (Nat.le_of_ble_eq_true rfl) rfl (fun ls hl => ?_)
              refine lv_goto (tgt := 152) hx hb dX6_colours_185 (by decide) ?_
              exact ih (i + 1) hlt (by omega) (upd g_kC i (-1)) (upd g_kD i (-1)) _ _ _ (⟨fInv hinv.1, fInv hinv.2⟩) (lv_sub hl [0, 1, 2, 3] rfl) (hP.sub [0, 1, 2, 3, 4, 5, 6] rfl) (hD.sub [0, 1, 2, 3, 4, 5, 6] (by decide) rfl) hS
            have hA15 : ∀ j, j < 20 → g_kC j = (-1) := fun j hj => hinv.1 j (by omega)
            have hA16 : ∀ j, j < 20 → g_kD j = (-1) := fun j hj => hinv.2 j (by omega)
            · skip
              refine lv_iload_n hx hb dX6_colours_152 rfl (lv_at hl 0 rfl) ?_
              refine lv_bipush (v := 20) hx hb dX6_colours_153 (by decide) ?_
              refine lv_icmp_ge (tgt := 188) hx hb dX6_colours_155 (by decide) (fun _ => ?_) (fun h9 => absurd (show nI 20 ≤ nI i from nI_le hge (Nat.lt_of_le_of_lt hi (by decide))) h9)
              refine lv_aload_n hx hb dX6_colours_188 rfl (lv_at hl 3 rfl) ?_
              refine va_get (D := (dC, dI)) (ci := 9) (v := .ref kC) (C := RX6) (T := TX6) (N := 19) hx hb hts (fun w h => List.mem_cons_of_mem _ (List.mem_append_left _ (List.mem_append_right _ (h)))) hown hK hP 3 rfl rfl 7 (by decide) (hts (.fieldLink RX6 33 "NetcompareModel" "netColours" "[I") (List.mem_cons_of_mem _ (List.mem_append_left _ (List.mem_append_left _ (List.mem_append_left _ (List.mem_of_getElem? (i := 0) rfl)))))) (fun _ h9 => h9) rfl dX6_colours_189 ?_
              have hPc := hP.sub (ws' := [(kC, .inl (cI, 20, .inl g_kC))]) [0] rfl
              have hDc := hD.sub (ws' := [(kC, .inl (cI, 20, .inl g_kC))]) [0] (by decide) rfl
              have hKc := hK.sub (tys' := [(cI, .int)]) [0] rfl
              have hFc := va_free (wc := [(kC, .inl (cI, 20, .inl g_kC))]) hD hS hA [0] rfl
              refine va_calli (va_runS (As := [.ref kC]) (rest := []) ⟨hx, hb, hml, hown, hts⟩ (kX6_classes l dC dI kC cI g_kC H.size hA15) (va_cwS 1 hts gX6_colours_X6_classes rfl rfl rfl (by decide +kernel) ⟨Nat.le_of_ble_eq_true rfl, Nat.le_of_ble_eq_true rfl⟩) (fPreS hN hZ hS (fun q h => hFc q h) hPc hKc hDc) rfl rfl hl.1 rfl (lv_room (Nat.le_of_ble_eq_true rfl)) dX6_colours_192 ⟨Nat.le_of_ble_eq_true rfl, Nat.le_of_ble_eq_true rfl⟩) hS (fun q _ h => hFc q h) hFc (fun r u t H1 locs ht hvm hw hB hz1 hk1 hS => ?_)
              obtain ⟨hP1, hK1, hD1⟩ := hB
              rw [ht] at hP1
              have hK1 := va_K.moved hvm.symm hK1
              obtain ⟨hP, hD⟩ := va_join (wr := [(kD, .inl (cI, 20, .inl g_kD)), (kE, .inl (cI, 20, .inl u8)), (k0, .inr (9, [.ref kN, .ref kA, .ref kO, .ref kK, .ref kV, .ref kG, .ref kP, .ref kC, .ref kD, .ref kE, .ref kF, .ref kX, .ref kY, .int 0, .ref kT, .ref kU, .int 0, .int 0, .int 0])), (kN, .inl (cI, 2, .inl (fun _ => 0))), (kA, .inl (cI, 2, .inl (fun _ => 0))), (kF, .inl (cI, 20, .inl u11))]) (w1 := [(kC, .inl (cI, 20, .inl g_kC))]) hP hD [0] [1, 2, 3, 4, 5, 6] rfl rfl (by decide) (by decide) hk1 hFc hP1 hD1
              generalize H1 = H at hP hS ⊢
              have hP : va_P (dC, dI) vwCl [(kD, .inl (cI, 20, .inl g_kD)), (kE, .inl (cI, 20, .inl u8)), (k0, .inr (9, [.ref kN, .ref kA, .ref kO, .ref kK, .ref kV, .ref kG, .ref kP, .ref kC, .ref kD, .ref kE, .ref kF, .ref kX, .ref kY, .int 0, .ref kT, .ref kU, .int 0, .int 0, .int 0])), (kN, .inl (cI, 2, .inl (fun _ => 0))), (kA, .inl (cI, 2, .inl (fun _ => 0))), (kF, .inl (cI, 20, .inl u11)), (kC, .inl (cI, 20, .inl g_kC))] _ := hP
              have hD : va_D A [(kD, .inl (cI, 20, .inl g_kD)), (kE, .inl (cI, 20, .inl u8)), (k0, .inr (9, [.ref kN, .ref kA, .ref kO, .ref kK, .ref kV, .ref kG, .ref kP, .ref kC, .ref kD, .ref kE, .ref kF, .ref kX, .ref kY, .int 0, .ref kT, .ref kU, .int 0, .int 0, .int 0])), (kN, .inl (cI, 2, .inl (fun _ => 0))), (kA, .inl (cI, 2, .inl (fun _ => 0))), (kF, .inl (cI, 20, .inl u11)), (kC, .inl (cI, 20, .inl g_kC))] := hD
              subst hw
              refine lv_aload_n hx hb dX6_colours_195 rfl (lv_at hl 3 rfl) ?_
              refine va_get (D := (dC, dI)) (ci := 9) (v := .ref kD) (C := RX6) (T := TX6) (N := 19) hx hb hts (fun w h => List.mem_cons_of_mem _ (List.mem_append_left _ (List.mem_append_right _ (h)))) hown hK hP 2 rfl rfl 8 (by decide) (hts (.fieldLink RX6 36 "NetcompareModel" "partColours" "[I") (List.mem_cons_of_mem _ (List.mem_append_left _ (List.mem_append_left _ (List.mem_append_left _ (List.mem_of_getElem? (i := 2) rfl)))))) (fun _ h9 => h9) rfl dX6_colours_196 ?_
              have hPc := hP.sub (ws' := [(kD, .inl (cI, 20, .inl g_kD))]) [0] rfl
              have hDc := hD.sub (ws' := [(kD, .inl (cI, 20, .inl g_kD))]) [0] (by decide) rfl
              have hKc := hK.sub (tys' := [(cI, .int)]) [0] rfl
              have hFc := va_free (wc := [(kD, .inl (cI, 20, .inl g_kD))]) hD hS hA [0] rfl
              refine va_calli (va_runS (As := [.ref kD]) (rest := [.int 0]) ⟨hx, hb, hml, hown, hts⟩ (kX6_classes l dC dI kD cI g_kD H.size hA16) (va_cwS 1 hts gX6_colours_X6_classes rfl rfl rfl (by decide +kernel) ⟨Nat.le_of_ble_eq_true rfl, Nat.le_of_ble_eq_true rfl⟩) (fPreS hN hZ hS (fun q h => hFc q h) hPc hKc hDc) rfl rfl hl.1 rfl (lv_room (Nat.le_of_ble_eq_true rfl)) dX6_colours_199 ⟨Nat.le_of_ble_eq_true rfl, Nat.le_of_ble_eq_true rfl⟩) hS (fun q _ h => hFc q h) hFc (fun r u t H1 locs ht hvm hw hB hz1 hk1 hS => ?_)
              obtain ⟨hP1, hK1, hD1⟩ := hB
              rw [ht] at hP1
              have hK1 := va_K.moved hvm.symm hK1
              obtain ⟨hP, hD⟩ := va_join (wr := [(kE, .inl (cI, 20, .inl u8)), (k0, .inr (9, [.ref kN, .ref kA, .ref kO, .ref kK, .ref kV, .ref kG, .ref kP, .ref kC, .ref kD, .ref kE, .ref kF, .ref kX, .ref kY, .int 0, .ref kT, .ref kU, .int 0, .int 0, .int 0])), (kN, .inl (cI, 2, .inl (fun _ => 0))), (kA, .inl (cI, 2, .inl (fun _ => 0))), (kF, .inl (cI, 20, .inl u11)), (kC, .inl (cI, 20, .inl g_kC))]) (w1 := [(kD, .inl (cI, 20, .inl g_kD))]) hP hD [0] [1, 2, 3, 4, 5, 6] rfl rfl (by decide) (by decide) hk1 hFc hP1 hD1
              generalize H1 = H at hP hS ⊢
              have hP : va_P (dC, dI) vwCl [(kE, .inl (cI, 20, .inl u8)), (k0, .inr (9, [.ref kN, .ref kA, .ref kO, .ref kK, .ref kV, .ref kG, .ref kP, .ref kC, .ref kD, .ref kE, .ref kF, .ref kX, .ref kY, .int 0, .ref kT, .ref kU, .int 0, .int 0, .int 0])), (kN, .inl (cI, 2, .inl (fun _ => 0))), (kA, .inl (cI, 2, .inl (fun _ => 0))), (kF, .inl (cI, 20, .inl u11)), (kC, .inl (cI, 20, .inl g_kC)), (kD, .inl (cI, 20, .inl g_kD))] _ := hP
              have hD : va_D A [(kE, .inl (cI, 20, .inl u8)), (k0, .inr (9, [.ref kN, .ref kA, .ref kO, .ref kK, .ref kV, .ref kG, .ref kP, .ref kC, .ref kD, .ref kE, .ref kF, .ref kX, .ref kY, .int 0, .ref kT, .ref kU, .int 0, .int 0, .int 0])), (kN, .inl (cI, 2, .inl (fun _ => 0))), (kA, .inl (cI, 2, .inl (fun _ => 0))), (kF, .inl (cI, 20, .inl u11)), (kC, .inl (cI, 20, .inl g_kC)), (kD, .inl (cI, 20, .inl g_kD))] := hD
              subst hw
              refine lv_iadd hx hb dX6_colours_202 ?_
              refine lv_topi (fun y17 ey17 => ?_)
              obtain rfl : y17 = 0 := ey17.trans (by decide)
              refine lv_iload_n hx hb dX6_colours_203 rfl (lv_at hl 1 rfl) ?_
              refine lv_icmp_le (tgt := 211) hx hb dX6_colours_204 (by decide) (fun _ => ?_) (fun h9 => absurd (by decide) h9)
              refine lv_iconst (v := 0) hx hb dX6_colours_211 (by decide) ?_
              refine lv_istore_n (lv' := [(1, .int 0), (3, .int (nI i)), (2, .int 0), (0, .ref k0)]) hx hb dX6_colours_212 rfl hl (Nat.le_of_ble_eq_true rfl) rfl (fun ls hl => ?_)
              refine lv_aload_n hx hb dX6_colours_213 rfl (lv_at hl 3 rfl) ?_
              refine lv_dup hx hb dX6_colours_214 rfl ?_
              refine va_get (D := (dC, dI)) (ci := 9) (v := .int 0) (C := RX6) (T := TX6) (N := 19) hx hb hts (fun w h => List.mem_cons_of_mem _ (List.mem_append_left _ (List.mem_append_right _ (h)))) hown hK hP 1 rfl rfl 13 (by decide) (hts (.fieldLink RX6 218 "NetcompareModel" "roundMany" "I") (List.mem_cons_of_mem _ (List.mem_append_left _ (List.mem_append_left _ (List.mem_append_left _ (List.mem_of_getElem? (i := 5) rfl)))))) (fun _ h9 => h9) rfl dX6_colours_215 ?_
              refine lv_iload_n hx hb dX6_colours_218 rfl (lv_at hl 0 rfl) ?_
              refine lv_if_eq (tgt := 226) hx hb dX6_colours_219 (by decide) (fun _ => ?_) (fun h9 => absurd (by decide) h9)
              refine lv_iconst (v := 0) hx hb dX6_colours_226 (by decide) ?_
              refine lv_iadd hx hb dX6_colours_227 ?_
              refine lv_topi (fun y18 ey18 => ?_)
              obtain rfl : y18 = 0 := ey18.trans (by decide)
              refine va_put (D := (dC, dI)) (ci := 9) (v := .int 0) (ty := .int) (C := RX6) (T := TX6) (N := 19) hx hb hts (fun w h => List.mem_cons_of_mem _ (List.mem_append_left _ (List.mem_append_right _ (h)))) tyX6 tyX6_ok nmX6 hown hK hP hD hS 1 rfl rfl 13 (by decide) (hts (.fieldLink RX6 218 "NetcompareModel" "roundMany" "I") (List.mem_cons_of_mem _ (List.mem_append_left _ (List.mem_append_left _ (List.mem_append_left _ (List.mem_of_getElem? (i := 5) rfl)))))) (fun _ h9 => h9) rfl (by decide +kernel) rfl rfl (Nat.le_of_ble_eq_true rfl) dX6_colours_228 (fun H locs hP hD hS => ?_)
              have hP : va_P (dC, dI) vwCl [(kE, .inl (cI, 20, .inl u8)), (k0, .inr (9, [.ref kN, .ref kA, .ref kO, .ref kK, .ref kV, .ref kG, .ref kP, .ref kC, .ref kD, .ref kE, .ref kF, .ref kX, .ref kY, .int 0, .ref kT, .ref kU, .int 0, .int 0, .int 0])), (kN, .inl (cI, 2, .inl (fun _ => 0))), (kA, .inl (cI, 2, .inl (fun _ => 0))), (kF, .inl (cI, 20, .inl u11)), (kC, .inl (cI, 20, .inl g_kC)), (kD, .inl (cI, 20, .inl g_kD))] _ := hP
              have hD : va_D A [(kE, .inl (cI, 20, .inl u8)), (k0, .inr (9, [.ref kN, .ref kA, .ref kO, .ref kK, .ref kV, .ref kG, .ref kP, .ref kC, .ref kD, .ref kE, .ref kF, .ref kX, .ref kY, .int 0, .ref kT, .ref kU, .int 0, .int 0, .int 0])), (kN, .inl (cI, 2, .inl (fun _ => 0))), (kA, .inl (cI, 2, .inl (fun _ => 0))), (kF, .inl (cI, 20, .inl u11)), (kC, .inl (cI, 20, .inl g_kC)), (kD, .inl (cI, 20, .inl g_kD))] := hD
              refine lv_goto (tgt := 112) hx hb dX6_colours_231 (by decide) ?_
              refine lv_iload_n hx hb dX6_colours_112 rfl (lv_at hl 0 rfl) ?_
              refine lv_if_eq (tgt := 234) hx hb dX6_colours_113 (by decide) (fun _ => ?_) (fun h9 => absurd (by decide) h9)
              exact ret (g_kC, g_kD) _ _ _ _ _ _ (⟨hA15, hA16⟩) (hP.sub [1, 2, 3, 5, 6] rfl) (hK.sub [0] rfl) (hD.sub [1, 2, 3, 5, 6] (by decide) rfl) hS (Nat.le_of_ble_eq_true rfl) (Nat.le_of_ble_eq_true rfl) dX6_colours_234
        exact lp152 (20 + 1) 0 (Nat.le_of_ble_eq_true rfl) (by decide) u3 u5 _ _ _ (⟨fun j hj => absurd hj (Nat.not_lt_zero _), fun j hj => absurd hj (Nat.not_lt_zero _)⟩) (lv_sub hl [0, 1, 2, 3] rfl) (hP.sub [0, 1, 2, 3, 4, 5, 6] rfl) (hD.sub [0, 1, 2, 3, 4, 5, 6] (by decide) rfl) hS
  exact lp2 (20 + 1) 0 (Nat.le_of_ble_eq_true rfl) (by decide) g1 g2 _ _ _ (⟨fun j hj => absurd hj (Nat.not_lt_zero _), fun j hj => absurd hj (Nat.not_lt_zero _)⟩) (lv_sub hl [0, 1] rfl) (hP.sub [0, 1, 2, 3, 4, 5, 6] rfl) (hD.sub [0, 1, 2, 3, 4, 5, 6] (by decide) rfl) hS

set_option maxHeartbeats 4000000 in
set_option maxRecDepth 100000 in
/-- matches: nothing with nothing -/
theorem kX6_matches (l : Launch) (dC : Nat → ClassId) (dI : Nat → Nat → Nat) (k0 kN kA kO kK kV kG kP kC kD kE kF kX kY kT kU : Nat) (cI : ClassId) (g1 g2 g3 g4 : Nat → Int32) (sz : Nat) : fMi l yX6_matches wsX6_matches ({ frames := 5, cells := 3, slots := 50, locals := 116 } : Room) dC dI [.ref k0] [(k0, .inr (9, [.ref kN, .ref kA, .ref kO, .ref kK, .ref kV, .ref kG, .ref kP, .ref kC, .ref kD, .ref kE, .ref kF, .ref kX, .ref kY, .int 0, .ref kT, .ref kU, .int 0, .int 0, .int 0])), (kN, .inl (cI, 2, .inl (fun _ => 0))), (kA, .inl (cI, 2, .inl (fun _ => 0))), (kC, .inl (cI, 20, .inl g1)), (kD, .inl (cI, 20, .inl g2)), (kE, .inl (cI, 20, .inl g3)), (kF, .inl (cI, 20, .inl g4))] [(cI, .int)] sz (fun (r : Int32) (u : Unit) => r = 1) (fun u => [(k0, .inr (9, [.ref kN, .ref kA, .ref kO, .ref kK, .ref kV, .ref kG, .ref kP, .ref kC, .ref kD, .ref kE, .ref kF, .ref kX, .ref kY, .int 0, .ref kT, .ref kU, .int 0, .int 0, .int 0]))]) (fun u => []) := by
  refine oP_z (y := yX6_matches) (cc := cX6_matches) (maxL := 2) (by decide) rfl (Nat.le_of_ble_eq_true rfl) ?_
  intro p e s m args below meth c ls A Q hx hb hr hml hown hts hN hZ hA hin hlk hP hK hD hl ret
  have hS : va_S A s.heap s.heap [] := va_S.rf
  have hl : lv_has ls 2 [(0, .ref k0)] := hl
  have hP : va_P (dC, dI) vwCl [(k0, .inr (9, [.ref kN, .ref kA, .ref kO, .ref kK, .ref kV, .ref kG, .ref kP, .ref kC, .ref kD, .ref kE, .ref kF, .ref kX, .ref kY, .int 0, .ref kT, .ref kU, .int 0, .int 0, .int 0])), (kN, .inl (cI, 2, .inl (fun _ => 0))), (kA, .inl (cI, 2, .inl (fun _ => 0))), (kC, .inl (cI, 20, .inl g1)), (kD, .inl (cI, 20, .inl g2)), (kE, .inl (cI, 20, .inl g3)), (kF, .inl (cI, 20, .inl g4))] _ := hP
  have hD : va_D A [(k0, .inr (9, [.ref kN, .ref kA, .ref kO, .ref kK, .ref kV, .ref kG, .ref kP, .ref kC, .ref kD, .ref kE, .ref kF, .ref kX, .ref kY, .int 0, .ref kT, .ref kU, .int 0, .int 0, .int 0])), (kN, .inl (cI, 2, .inl (fun _ => 0))), (kA, .inl (cI, 2, .inl (fun _ => 0))), (kC, .inl (cI, 20, .inl g1)), (kD, .inl (cI, 20, .inl g2)), (kE, .inl (cI, 20, .inl g3)), (kF, .inl (cI, 20, .inl g4))] := hD
  refine lv_aload_n hx hb dX6_matches_0 rfl (lv_at hl 0 rfl) ?_
  have hPc := hP.sub (ws' := [(k0, .inr (9, [.ref kN, .ref kA, .ref kO, .ref kK, .ref kV, .ref kG, .ref kP, .ref kC, .ref kD, .ref kE, .ref kF, .ref kX, .ref kY, .int 0, .ref kT, .ref kU, .int 0, .int 0, .int 0])), (kN, .inl (cI, 2, .inl (fun _ => 0))), (kA, .inl (cI, 2, .inl (fun _ => 0))), (kC, .inl (cI, 20, .inl g1)), (kD, .inl (cI, 20, .inl g2)), (kE, .inl (cI, 20, .inl g3)), (kF, .inl (cI, 20, .inl g4))]) [0, 1, 2, 3, 4, 5, 6] rfl
  have hDc := hD.sub (ws' := [(k0, .inr (9, [.ref kN, .ref kA, .ref kO, .ref kK, .ref kV, .ref kG, .ref kP, .ref kC, .ref kD, .ref kE, .ref kF, .ref kX, .ref kY, .int 0, .ref kT, .ref kU, .int 0, .int 0, .int 0])), (kN, .inl (cI, 2, .inl (fun _ => 0))), (kA, .inl (cI, 2, .inl (fun _ => 0))), (kC, .inl (cI, 20, .inl g1)), (kD, .inl (cI, 20, .inl g2)), (kE, .inl (cI, 20, .inl g3)), (kF, .inl (cI, 20, .inl g4))]) [0, 1, 2, 3, 4, 5, 6] (by decide) rfl
  have hKc := hK.sub (tys' := [(cI, .int)]) [0] rfl
  have hFc := va_free (wc := [(k0, .inr (9, [.ref kN, .ref kA, .ref kO, .ref kK, .ref kV, .ref kG, .ref kP, .ref kC, .ref kD, .ref kE, .ref kF, .ref kX, .ref kY, .int 0, .ref kT, .ref kU, .int 0, .int 0, .int 0])), (kN, .inl (cI, 2, .inl (fun _ => 0))), (kA, .inl (cI, 2, .inl (fun _ => 0))), (kC, .inl (cI, 20, .inl g1)), (kD, .inl (cI, 20, .inl g2)), (kE, .inl (cI, 20, .inl g3)), (kF, .inl (cI, 20, .inl g4))]) hD hS hA [0, 1, 2, 3, 4, 5, 6] rfl
  refine va_callv (va_runV (As := []) (rest := []) ⟨hx, hb, hml, hown, hts⟩ (kX6_colours l dC dI k0 kN kA kO kK kV kG kP kC kD kE kF kX kY kT kU cI g1 g2 g3 g4 s.heap.size) (cwV 0 hts gX6_matches_X6_colours rfl rfl rfl (by decide +kernel) ⟨Nat.le_of_ble_eq_true rfl, Nat.le_of_ble_eq_true rfl⟩) (fPreV hN hZ hS (fun q h => hFc q h) hPc hKc hDc (ci := 9) (q0 := 0) rfl rfl) rfl rfl hl.1 rfl (lv_room (Nat.le_of_ble_eq_true rfl)) dX6_matches_1 ⟨Nat.le_of_ble_eq_true rfl, Nat.le_of_ble_eq_true rfl⟩) hS (fun q _ h => hFc q h) hFc (fun u t H1 locs ht hvm hw hB hz1 hk1 hS => ?_)
  obtain ⟨hP1, hK1, hD1⟩ := hB
  rw [ht] at hP1
  have hK1 := va_K.moved hvm.symm hK1
  obtain ⟨u1, u2⟩ := u
  obtain ⟨hP, hD⟩ := va_join (wr := []) (w1 := [(k0, .inr (9, [.ref kN, .ref kA, .ref kO, .ref kK, .ref kV, .ref kG, .ref kP, .ref kC, .ref kD, .ref kE, .ref kF, .ref kX, .ref kY, .int 0, .ref kT, .ref kU, .int 0, .int 0, .int 0])), (kN, .inl (cI, 2, .inl (fun _ => 0))), (kA, .inl (cI, 2, .inl (fun _ => 0))), (kC, .inl (cI, 20, .inl u1)), (kD, .inl (cI, 20, .inl u2))]) hP hD [0, 1, 2, 3, 4, 5, 6] [] rfl rfl (by decide) (by decide) hk1 hFc hP1 hD1
  generalize H1 = H at hP hS ⊢
  have hP : va_P (dC, dI) vwCl [(k0, .inr (9, [.ref kN, .ref kA, .ref kO, .ref kK, .ref kV, .ref kG, .ref kP, .ref kC, .ref kD, .ref kE, .ref kF, .ref kX, .ref kY, .int 0, .ref kT, .ref kU, .int 0, .int 0, .int 0])), (kN, .inl (cI, 2, .inl (fun _ => 0))), (kA, .inl (cI, 2, .inl (fun _ => 0))), (kC, .inl (cI, 20, .inl u1)), (kD, .inl (cI, 20, .inl u2))] _ := hP
  have hD : va_D A [(k0, .inr (9, [.ref kN, .ref kA, .ref kO, .ref kK, .ref kV, .ref kG, .ref kP, .ref kC, .ref kD, .ref kE, .ref kF, .ref kX, .ref kY, .int 0, .ref kT, .ref kU, .int 0, .int 0, .int 0])), (kN, .inl (cI, 2, .inl (fun _ => 0))), (kA, .inl (cI, 2, .inl (fun _ => 0))), (kC, .inl (cI, 20, .inl u1)), (kD, .inl (cI, 20, .inl u2))] := hD
  refine W.widen (k := 2) (n := 40) (Nat.le_of_ble_eq_true rfl) (Nat.le_of_ble_eq_true rfl) ?_
  have hu3 := hw
  refine lv_aload_n hx hb dX6_matches_4 rfl (lv_at hl 0 rfl) ?_
  refine va_get (D := (dC, dI)) (ci := 9) (v := .ref kN) (C := RX6) (T := TX6) (N := 19) hx hb hts (fun w h => List.mem_cons_of_mem _ (List.mem_append_left _ (List.mem_append_right _ (h)))) hown hK hP 0 rfl rfl 0 (by decide) (hts (.fieldLink RX6 7 "NetcompareModel" "nets" "[I") (List.mem_cons_of_mem _ (List.mem_append_left _ (List.mem_append_left _ (List.mem_append_left _ (List.mem_of_getElem? (i := 0) rfl)))))) (fun _ h9 => h9) rfl dX6_matches_5 ?_
  refine lv_iconst (v := 0) hx hb dX6_matches_8 (by decide) ?_
  refine va_iald hx hb hK hP 1 0 rfl rfl (show ¬ (_ ∨ _) by decide) dX6_matches_9 ?_
  refine W.eq (g2 := F0 m 10 ls [.int 0]) rfl ?_
  refine lv_aload_n hx hb dX6_matches_10 rfl (lv_at hl 0 rfl) ?_
  refine va_get (D := (dC, dI)) (ci := 9) (v := .ref kN) (C := RX6) (T := TX6) (N := 19) hx hb hts (fun w h => List.mem_cons_of_mem _ (List.mem_append_left _ (List.mem_append_right _ (h)))) hown hK hP 0 rfl rfl 0 (by decide) (hts (.fieldLink RX6 7 "NetcompareModel" "nets" "[I") (List.mem_cons_of_mem _ (List.mem_append_left _ (List.mem_append_left _ (List.mem_append_left _ (List.mem_of_getElem? (i := 0) rfl)))))) (fun _ h9 => h9) rfl dX6_matches_11 ?_
  refine lv_iconst (v := 1) hx hb dX6_matches_14 (by decide) ?_
  refine va_iald hx hb hK hP 1 0 rfl rfl (show ¬ (_ ∨ _) by decide) dX6_matches_15 ?_
  refine W.eq (g2 := F0 m 16 ls [.int 0, .int 0]) rfl ?_
  refine lv_icmp_ne (tgt := 36) hx hb dX6_matches_16 (by decide) (fun h9 => absurd (by decide) h9) (fun _ => ?_)
  refine lv_aload_n hx hb dX6_matches_19 rfl (lv_at hl 0 rfl) ?_
  refine lv_iconst (v := 0) hx hb dX6_matches_20 (by decide) ?_
  have hPc := hP.sub (ws' := [(k0, .inr (9, [.ref kN, .ref kA, .ref kO, .ref kK, .ref kV, .ref kG, .ref kP, .ref kC, .ref kD, .ref kE, .ref kF, .ref kX, .ref kY, .int 0, .ref kT, .ref kU, .int 0, .int 0, .int 0])), (kA, .inl (cI, 2, .inl (fun _ => 0)))]) [0, 2] rfl
  have hDc := hD.sub (ws' := [(k0, .inr (9, [.ref kN, .ref kA, .ref kO, .ref kK, .ref kV, .ref kG, .ref kP, .ref kC, .ref kD, .ref kE, .ref kF, .ref kX, .ref kY, .int 0, .ref kT, .ref kU, .int 0, .int 0, .int 0])), (kA, .inl (cI, 2, .inl (fun _ => 0)))]) [0, 2] (by decide) rfl
  have hKc := hK.sub (tys' := [(cI, .int)]) [0] rfl
  have hFc := va_free (wc := [(k0, .inr (9, [.ref kN, .ref kA, .ref kO, .ref kK, .ref kV, .ref kG, .ref kP, .ref kC, .ref kD, .ref kE, .ref kF, .ref kX, .ref kY, .int 0, .ref kT, .ref kU, .int 0, .int 0, .int 0])), (kA, .inl (cI, 2, .inl (fun _ => 0)))]) hD hS hA [0, 2] rfl
  refine va_calli (va_runV (As := [.int 0]) (rest := []) ⟨hx, hb, hml, hown, hts⟩ (kX6_partMany0 l dC dI k0 kN kA kO kK kV kG kP kC kD kE kF kX kY kT kU cI H.size) (cwV 1 hts gX6_matches_X6_partMany rfl rfl rfl (by decide +kernel) ⟨Nat.le_of_ble_eq_true rfl, Nat.le_of_ble_eq_true rfl⟩) (fPreV hN hZ hS (fun q h => hFc q h) hPc hKc hDc (ci := 9) (q0 := 0) rfl rfl) rfl rfl hl.1 rfl (lv_room (Nat.le_of_ble_eq_true rfl)) dX6_matches_21 ⟨Nat.le_of_ble_eq_true rfl, Nat.le_of_ble_eq_true rfl⟩) hS (fun q _ h => hFc q h) hFc (fun r u t H1 locs ht hvm hw hB hz1 hk1 hS => ?_)
  obtain ⟨hP1, hK1, hD1⟩ := hB
  rw [ht] at hP1
  have hK1 := va_K.moved hvm.symm hK1
  obtain ⟨hP, hD⟩ := va_join (wr := [(kN, .inl (cI, 2, .inl (fun _ => 0))), (kC, .inl (cI, 20, .inl u1)), (kD, .inl (cI, 20, .inl u2))]) (w1 := [(k0, .inr (9, [.ref kN, .ref kA, .ref kO, .ref kK, .ref kV, .ref kG, .ref kP, .ref kC, .ref kD, .ref kE, .ref kF, .ref kX, .ref kY, .int 0, .ref kT, .ref kU, .int 0, .int 0, .int 0])), (kA, .inl (cI, 2, .inl (fun _ => 0)))]) hP hD [0, 2] [1, 3, 4] rfl rfl (by decide) (by decide) hk1 hFc hP1 hD1
  generalize H1 = H at hP hS ⊢
  have hP : va_P (dC, dI) vwCl [(kN, .inl (cI, 2, .inl (fun _ => 0))), (kC, .inl (cI, 20, .inl u1)), (kD, .inl (cI, 20, .inl u2)), (k0, .inr (9, [.ref kN, .ref kA, .ref kO, .ref kK, .ref kV, .ref kG, .ref kP, .ref kC, .ref kD, .ref kE, .ref kF, .ref kX, .ref kY, .int 0, .ref kT, .ref kU, .int 0, .int 0, .int 0])), (kA, .inl (cI, 2, .inl (fun _ => 0)))] _ := hP
  have hD : va_D A [(kN, .inl (cI, 2, .inl (fun _ => 0))), (kC, .inl (cI, 20, .inl u1)), (kD, .inl (cI, 20, .inl u2)), (k0, .inr (9, [.ref kN, .ref kA, .ref kO, .ref kK, .ref kV, .ref kG, .ref kP, .ref kC, .ref kD, .ref kE, .ref kF, .ref kX, .ref kY, .int 0, .ref kT, .ref kU, .int 0, .int 0, .int 0])), (kA, .inl (cI, 2, .inl (fun _ => 0)))] := hD
  subst hw
  refine lv_aload_n hx hb dX6_matches_24 rfl (lv_at hl 0 rfl) ?_
  refine lv_iconst (v := 1) hx hb dX6_matches_25 (by decide) ?_
  have hPc := hP.sub (ws' := [(k0, .inr (9, [.ref kN, .ref kA, .ref kO, .ref kK, .ref kV, .ref kG, .ref kP, .ref kC, .ref kD, .ref kE, .ref kF, .ref kX, .ref kY, .int 0, .ref kT, .ref kU, .int 0, .int 0, .int 0])), (kA, .inl (cI, 2, .inl (fun _ => 0)))]) [3, 4] rfl
  have hDc := hD.sub (ws' := [(k0, .inr (9, [.ref kN, .ref kA, .ref kO, .ref kK, .ref kV, .ref kG, .ref kP, .ref kC, .ref kD, .ref kE, .ref kF, .ref kX, .ref kY, .int 0, .ref kT, .ref kU, .int 0, .int 0, .int 0])), (kA, .inl (cI, 2, .inl (fun _ => 0)))]) [3, 4] (by decide) rfl
  have hKc := hK.sub (tys' := [(cI, .int)]) [0] rfl
  have hFc := va_free (wc := [(k0, .inr (9, [.ref kN, .ref kA, .ref kO, .ref kK, .ref kV, .ref kG, .ref kP, .ref kC, .ref kD, .ref kE, .ref kF, .ref kX, .ref kY, .int 0, .ref kT, .ref kU, .int 0, .int 0, .int 0])), (kA, .inl (cI, 2, .inl (fun _ => 0)))]) hD hS hA [3, 4] rfl
  refine va_calli (va_runV (As := [.int 1]) (rest := [.int 0]) ⟨hx, hb, hml, hown, hts⟩ (kX6_partMany1 l dC dI k0 kN kA kO kK kV kG kP kC kD kE kF kX kY kT kU cI H.size) (cwV 1 hts gX6_matches_X6_partMany rfl rfl rfl (by decide +kernel) ⟨Nat.le_of_ble_eq_true rfl, Nat.le_of_ble_eq_true rfl⟩) (fPreV hN hZ hS (fun q h => hFc q h) hPc hKc hDc (ci := 9) (q0 := 0) rfl rfl) rfl rfl hl.1 rfl (lv_room (Nat.le_of_ble_eq_true rfl)) dX6_matches_26 ⟨Nat.le_of_ble_eq_true rfl, Nat.le_of_ble_eq_true rfl⟩) hS (fun q _ h => hFc q h) hFc (fun r u t H1 locs ht hvm hw hB hz1 hk1 hS => ?_)
  obtain ⟨hP1, hK1, hD1⟩ := hB
  rw [ht] at hP1
  have hK1 := va_K.moved hvm.symm hK1
  obtain ⟨hP, hD⟩ := va_join (wr := [(kN, .inl (cI, 2, .inl (fun _ => 0))), (kC, .inl (cI, 20, .inl u1)), (kD, .inl (cI, 20, .inl u2))]) (w1 := [(k0, .inr (9, [.ref kN, .ref kA, .ref kO, .ref kK, .ref kV, .ref kG, .ref kP, .ref kC, .ref kD, .ref kE, .ref kF, .ref kX, .ref kY, .int 0, .ref kT, .ref kU, .int 0, .int 0, .int 0])), (kA, .inl (cI, 2, .inl (fun _ => 0)))]) hP hD [3, 4] [0, 1, 2] rfl rfl (by decide) (by decide) hk1 hFc hP1 hD1
  generalize H1 = H at hP hS ⊢
  have hP : va_P (dC, dI) vwCl [(kN, .inl (cI, 2, .inl (fun _ => 0))), (kC, .inl (cI, 20, .inl u1)), (kD, .inl (cI, 20, .inl u2)), (k0, .inr (9, [.ref kN, .ref kA, .ref kO, .ref kK, .ref kV, .ref kG, .ref kP, .ref kC, .ref kD, .ref kE, .ref kF, .ref kX, .ref kY, .int 0, .ref kT, .ref kU, .int 0, .int 0, .int 0])), (kA, .inl (cI, 2, .inl (fun _ => 0)))] _ := hP
  have hD : va_D A [(kN, .inl (cI, 2, .inl (fun _ => 0))), (kC, .inl (cI, 20, .inl u1)), (kD, .inl (cI, 20, .inl u2)), (k0, .inr (9, [.ref kN, .ref kA, .ref kO, .ref kK, .ref kV, .ref kG, .ref kP, .ref kC, .ref kD, .ref kE, .ref kF, .ref kX, .ref kY, .int 0, .ref kT, .ref kU, .int 0, .int 0, .int 0])), (kA, .inl (cI, 2, .inl (fun _ => 0)))] := hD
  subst hw
  refine lv_icmp_ne (tgt := 36) hx hb dX6_matches_29 (by decide) (fun h9 => absurd (by decide) h9) (fun _ => ?_)
  refine lv_iconst (v := 1) hx hb dX6_matches_32 (by decide) ?_
  refine lv_goto (tgt := 37) hx hb dX6_matches_33 (by decide) ?_
  refine lv_istore_n (lv' := [(1, .int 1), (0, .ref k0)]) hx hb dX6_matches_37 rfl hl (Nat.le_of_ble_eq_true rfl) rfl (fun ls hl => ?_)
  refine lv_iload_n hx hb dX6_matches_38 rfl (lv_at hl 0 rfl) ?_
  refine lv_if_eq (tgt := 67) hx hb dX6_matches_39 (by decide) (fun h9 => absurd h9 (by decide)) (fun _ => ?_)
  refine lv_aload_n hx hb dX6_matches_42 rfl (lv_at hl 1 rfl) ?_
  refine lv_iconst (v := 0) hx hb dX6_matches_43 (by decide) ?_
  have hPc := hP.sub (ws' := [(k0, .inr (9, [.ref kN, .ref kA, .ref kO, .ref kK, .ref kV, .ref kG, .ref kP, .ref kC, .ref kD, .ref kE, .ref kF, .ref kX, .ref kY, .int 0, .ref kT, .ref kU, .int 0, .int 0, .int 0])), (kN, .inl (cI, 2, .inl (fun _ => 0)))]) [3, 0] rfl
  have hDc := hD.sub (ws' := [(k0, .inr (9, [.ref kN, .ref kA, .ref kO, .ref kK, .ref kV, .ref kG, .ref kP, .ref kC, .ref kD, .ref kE, .ref kF, .ref kX, .ref kY, .int 0, .ref kT, .ref kU, .int 0, .int 0, .int 0])), (kN, .inl (cI, 2, .inl (fun _ => 0)))]) [3, 0] (by decide) rfl
  have hKc := hK.sub (tys' := [(cI, .int)]) [0] rfl
  have hFc := va_free (wc := [(k0, .inr (9, [.ref kN, .ref kA, .ref kO, .ref kK, .ref kV, .ref kG, .ref kP, .ref kC, .ref kD, .ref kE, .ref kF, .ref kX, .ref kY, .int 0, .ref kT, .ref kU, .int 0, .int 0, .int 0])), (kN, .inl (cI, 2, .inl (fun _ => 0)))]) hD hS hA [3, 0] rfl
  refine va_calli (va_runV (As := [.int 0]) (rest := []) ⟨hx, hb, hml, hown, hts⟩ (kX6_maps l dC dI k0 kN kA kO kK kV kG kP kC kD kE kF kX kY kT kU cI H.size) (cwV 1 hts gX6_matches_X6_maps rfl rfl rfl (by decide +kernel) ⟨Nat.le_of_ble_eq_true rfl, Nat.le_of_ble_eq_true rfl⟩) (fPreV hN hZ hS (fun q h => hFc q h) hPc hKc hDc (ci := 9) (q0 := 0) rfl rfl) rfl rfl hl.1 rfl (lv_room (Nat.le_of_ble_eq_true rfl)) dX6_matches_44 ⟨Nat.le_of_ble_eq_true rfl, Nat.le_of_ble_eq_true rfl⟩) hS (fun q _ h => hFc q h) hFc (fun r u t H1 locs ht hvm hw hB hz1 hk1 hS => ?_)
  obtain ⟨hP1, hK1, hD1⟩ := hB
  rw [ht] at hP1
  have hK1 := va_K.moved hvm.symm hK1
  obtain ⟨hP, hD⟩ := va_join (wr := [(kC, .inl (cI, 20, .inl u1)), (kD, .inl (cI, 20, .inl u2)), (kA, .inl (cI, 2, .inl (fun _ => 0)))]) (w1 := [(k0, .inr (9, [.ref kN, .ref kA, .ref kO, .ref kK, .ref kV, .ref kG, .ref kP, .ref kC, .ref kD, .ref kE, .ref kF, .ref kX, .ref kY, .int 0, .ref kT, .ref kU, .int 0, .int 0, .int 0])), (kN, .inl (cI, 2, .inl (fun _ => 0)))]) hP hD [3, 0] [1, 2, 4] rfl rfl (by decide) (by decide) hk1 hFc hP1 hD1
  generalize H1 = H at hP hS ⊢
  have hP : va_P (dC, dI) vwCl [(kC, .inl (cI, 20, .inl u1)), (kD, .inl (cI, 20, .inl u2)), (kA, .inl (cI, 2, .inl (fun _ => 0))), (k0, .inr (9, [.ref kN, .ref kA, .ref kO, .ref kK, .ref kV, .ref kG, .ref kP, .ref kC, .ref kD, .ref kE, .ref kF, .ref kX, .ref kY, .int 0, .ref kT, .ref kU, .int 0, .int 0, .int 0])), (kN, .inl (cI, 2, .inl (fun _ => 0)))] _ := hP
  have hD : va_D A [(kC, .inl (cI, 20, .inl u1)), (kD, .inl (cI, 20, .inl u2)), (kA, .inl (cI, 2, .inl (fun _ => 0))), (k0, .inr (9, [.ref kN, .ref kA, .ref kO, .ref kK, .ref kV, .ref kG, .ref kP, .ref kC, .ref kD, .ref kE, .ref kF, .ref kX, .ref kY, .int 0, .ref kT, .ref kU, .int 0, .int 0, .int 0])), (kN, .inl (cI, 2, .inl (fun _ => 0)))] := hD
  subst hw
  refine lv_if_eq (tgt := 67) hx hb dX6_matches_47 (by decide) (fun h9 => absurd h9 (by decide)) (fun _ => ?_)
  refine lv_aload_n hx hb dX6_matches_50 rfl (lv_at hl 1 rfl) ?_
  refine lv_aload_n hx hb dX6_matches_51 rfl (lv_at hl 1 rfl) ?_
  refine va_get (D := (dC, dI)) (ci := 9) (v := .ref kN) (C := RX6) (T := TX6) (N := 19) hx hb hts (fun w h => List.mem_cons_of_mem _ (List.mem_append_left _ (List.mem_append_right _ (h)))) hown hK hP 3 rfl rfl 0 (by decide) (hts (.fieldLink RX6 7 "NetcompareModel" "nets" "[I") (List.mem_cons_of_mem _ (List.mem_append_left _ (List.mem_append_left _ (List.mem_append_left _ (List.mem_of_getElem? (i := 0) rfl)))))) (fun _ h9 => h9) rfl dX6_matches_52 ?_
  refine lv_iconst (v := 0) hx hb dX6_matches_55 (by decide) ?_
  refine va_iald hx hb hK hP 4 0 rfl rfl (show ¬ (_ ∨ _) by decide) dX6_matches_56 ?_
  refine W.eq (g2 := F0 m 57 ls [.int 0, .ref k0]) rfl ?_
  have hPc := hP.sub (ws' := [(k0, .inr (9, [.ref kN, .ref kA, .ref kO, .ref kK, .ref kV, .ref kG, .ref kP, .ref kC, .ref kD, .ref kE, .ref kF, .ref kX, .ref kY, .int 0, .ref kT, .ref kU, .int 0, .int 0, .int 0])), (kA, .inl (cI, 2, .inl (fun _ => 0)))]) [3, 2] rfl
  have hDc := hD.sub (ws' := [(k0, .inr (9, [.ref kN, .ref kA, .ref kO, .ref kK, .ref kV, .ref kG, .ref kP, .ref kC, .ref kD, .ref kE, .ref kF, .ref kX, .ref kY, .int 0, .ref kT, .ref kU, .int 0, .int 0, .int 0])), (kA, .inl (cI, 2, .inl (fun _ => 0)))]) [3, 2] (by decide) rfl
  have hKc := hK.sub (tys' := [(cI, .int)]) [0] rfl
  have hFc := va_free (wc := [(k0, .inr (9, [.ref kN, .ref kA, .ref kO, .ref kK, .ref kV, .ref kG, .ref kP, .ref kC, .ref kD, .ref kE, .ref kF, .ref kX, .ref kY, .int 0, .ref kT, .ref kU, .int 0, .int 0, .int 0])), (kA, .inl (cI, 2, .inl (fun _ => 0)))]) hD hS hA [3, 2] rfl
  refine va_calli (va_runV (As := [.int 0]) (rest := []) ⟨hx, hb, hml, hown, hts⟩ (kX6_mapsParts l dC dI k0 kN kA kO kK kV kG kP kC kD kE kF kX kY kT kU cI H.size) (cwV 1 hts gX6_matches_X6_mapsParts rfl rfl rfl (by decide +kernel) ⟨Nat.le_of_ble_eq_true rfl, Nat.le_of_ble_eq_true rfl⟩) (fPreV hN hZ hS (fun q h => hFc q h) hPc hKc hDc (ci := 9) (q0 := 0) rfl rfl) rfl rfl hl.1 rfl (lv_room (Nat.le_of_ble_eq_true rfl)) dX6_matches_57 ⟨Nat.le_of_ble_eq_true rfl, Nat.le_of_ble_eq_true rfl⟩) hS (fun q _ h => hFc q h) hFc (fun r u t H1 locs ht hvm hw hB hz1 hk1 hS => ?_)
  obtain ⟨hP1, hK1, hD1⟩ := hB
  rw [ht] at hP1
  have hK1 := va_K.moved hvm.symm hK1
  obtain ⟨hP, hD⟩ := va_join (wr := [(kC, .inl (cI, 20, .inl u1)), (kD, .inl (cI, 20, .inl u2)), (kN, .inl (cI, 2, .inl (fun _ => 0)))]) (w1 := [(k0, .inr (9, [.ref kN, .ref kA, .ref kO, .ref kK, .ref kV, .ref kG, .ref kP, .ref kC, .ref kD, .ref kE, .ref kF, .ref kX, .ref kY, .int 0, .ref kT, .ref kU, .int 0, .int 0, .int 0])), (kA, .inl (cI, 2, .inl (fun _ => 0)))]) hP hD [3, 2] [0, 1, 4] rfl rfl (by decide) (by decide) hk1 hFc hP1 hD1
  generalize H1 = H at hP hS ⊢
  have hP : va_P (dC, dI) vwCl [(kC, .inl (cI, 20, .inl u1)), (kD, .inl (cI, 20, .inl u2)), (kN, .inl (cI, 2, .inl (fun _ => 0))), (k0, .inr (9, [.ref kN, .ref kA, .ref kO, .ref kK, .ref kV, .ref kG, .ref kP, .ref kC, .ref kD, .ref kE, .ref kF, .ref kX, .ref kY, .int 0, .ref kT, .ref kU, .int 0, .int 0, .int 0])), (kA, .inl (cI, 2, .inl (fun _ => 0)))] _ := hP
  have hD : va_D A [(kC, .inl (cI, 20, .inl u1)), (kD, .inl (cI, 20, .inl u2)), (kN, .inl (cI, 2, .inl (fun _ => 0))), (k0, .inr (9, [.ref kN, .ref kA, .ref kO, .ref kK, .ref kV, .ref kG, .ref kP, .ref kC, .ref kD, .ref kE, .ref kF, .ref kX, .ref kY, .int 0, .ref kT, .ref kU, .int 0, .int 0, .int 0])), (kA, .inl (cI, 2, .inl (fun _ => 0)))] := hD
  refine W.widen (k := 3) (n := 50) (Nat.le_of_ble_eq_true rfl) (Nat.le_of_ble_eq_true rfl) ?_
  subst hw
  refine lv_if_eq (tgt := 67) hx hb dX6_matches_60 (by decide) (fun h9 => absurd h9 (by decide)) (fun _ => ?_)
  refine lv_iconst (v := 1) hx hb dX6_matches_63 (by decide) ?_
  refine lv_goto (tgt := 68) hx hb dX6_matches_64 (by decide) ?_
  exact ret _ () _ _ _ _ _ _ (rfl) (rfl) (hP.sub [3] rfl) (hK.sub [] rfl) (hD.sub [3] (by decide) rfl) hS (Nat.le_of_ble_eq_true rfl) (Nat.le_of_ble_eq_true rfl) dX6_matches_68

set_option maxHeartbeats 4000000 in
set_option maxRecDepth 100000 in
/-- unequal: none -/
theorem kX6_unequal (l : Launch) (dC : Nat → ClassId) (dI : Nat → Nat → Nat) (k0 kN kA kO kK kV kG kP kC kD kE kF kX kY kT kU : Nat) (cI : ClassId) (g1 g2 : Nat → Int32) (sz : Nat) (h1 : ∀ j, j < 20 → g1 j = (-1)) (h2 : ∀ j, j < 20 → g2 j = (-1)) : fMi l yX6_unequal wsX6_unequal ({ frames := 3, cells := 0, slots := 0, locals := 56 } : Room) dC dI [.ref k0] [(k0, .inr (9, [.ref kN, .ref kA, .ref kO, .ref kK, .ref kV, .ref kG, .ref kP, .ref kC, .ref kD, .ref kE, .ref kF, .ref kX, .ref kY, .int 0, .ref kT, .ref kU, .int 0, .int 0, .int 0])), (kC, .inl (cI, 20, .inl g1)), (kD, .inl (cI, 20, .inl g2))] [(cI, .int)] sz (fun (r : Int32) (u : Unit) => r = 0) (fun u => [(k0, .inr (9, [.ref kN, .ref kA, .ref kO, .ref kK, .ref kV, .ref kG, .ref kP, .ref kC, .ref kD, .ref kE, .ref kF, .ref kX, .ref kY, .int 0, .ref kT, .ref kU, .int 0, .int 0, .int 0])), (kC, .inl (cI, 20, .inl g1)), (kD, .inl (cI, 20, .inl g2))]) (fun u => [(cI, .int)]) := by
  refine oP_i (y := yX6_unequal) (cc := cX6_unequal) (maxL := 3) (by decide) rfl (Nat.le_of_ble_eq_true rfl) ?_
  intro p e s m args below meth c ls A Q hx hb hr hml hown hts hN hZ hA hin hlk hP hK hD hl ret
  have hS : va_S A s.heap s.heap [] := va_S.rf
  have hl : lv_has ls 3 [(0, .ref k0)] := hl
  have hP : va_P (dC, dI) vwCl [(k0, .inr (9, [.ref kN, .ref kA, .ref kO, .ref kK, .ref kV, .ref kG, .ref kP, .ref kC, .ref kD, .ref kE, .ref kF, .ref kX, .ref kY, .int 0, .ref kT, .ref kU, .int 0, .int 0, .int 0])), (kC, .inl (cI, 20, .inl g1)), (kD, .inl (cI, 20, .inl g2))] _ := hP
  have hD : va_D A [(k0, .inr (9, [.ref kN, .ref kA, .ref kO, .ref kK, .ref kV, .ref kG, .ref kP, .ref kC, .ref kD, .ref kE, .ref kF, .ref kX, .ref kY, .int 0, .ref kT, .ref kU, .int 0, .int 0, .int 0])), (kC, .inl (cI, 20, .inl g1)), (kD, .inl (cI, 20, .inl g2))] := hD
  refine lv_iconst (v := 0) hx hb dX6_unequal_0 (by decide) ?_
  refine lv_istore_n (lv' := [(1, .int 0), (0, .ref k0)]) hx hb dX6_unequal_1 rfl hl (Nat.le_of_ble_eq_true rfl) rfl (fun ls hl => ?_)
  refine lv_iconst (v := 0) hx hb dX6_unequal_2 (by decide) ?_
  refine lv_istore_n (lv' := [(2, .int 0), (1, .int 0), (0, .ref k0)]) hx hb dX6_unequal_3 rfl hl (Nat.le_of_ble_eq_true rfl) rfl (fun ls hl => ?_)
  refine lv_iload_n hx hb dX6_unequal_4 rfl (lv_at hl 0 rfl) ?_
  refine lv_aload_n hx hb dX6_unequal_5 rfl (lv_at hl 2 rfl) ?_
  refine va_get (D := (dC, dI)) (ci := 9) (v := .ref kC) (C := RX6) (T := TX6) (N := 19) hx hb hts (fun w h => List.mem_cons_of_mem _ (List.mem_append_left _ (List.mem_append_right _ (h)))) hown hK hP 0 rfl rfl 7 (by decide) (hts (.fieldLink RX6 33 "NetcompareModel" "netColours" "[I") (List.mem_cons_of_mem _ (List.mem_append_left _ (List.mem_append_left _ (List.mem_append_left _ (List.mem_of_getElem? (i := 0) rfl)))))) (fun _ h9 => h9) rfl dX6_unequal_6 ?_
  have hPc := hP.sub (ws' := [(kC, .inl (cI, 20, .inl g1))]) [1] rfl
  have hDc := hD.sub (ws' := [(kC, .inl (cI, 20, .inl g1))]) [1] (by decide) rfl
  have hKc := hK.sub (tys' := [(cI, .int)]) [0] rfl
  have hFc := va_free (wc := [(kC, .inl (cI, 20, .inl g1))]) hD hS hA [1] rfl
  refine va_calli (va_runS (As := [.ref kC]) (rest := [.int 0]) ⟨hx, hb, hml, hown, hts⟩ (kX6_classes l dC dI kC cI g1 s.heap.size h1) (va_cwS 1 hts gX6_unequal_X6_classes rfl rfl rfl (by decide +kernel) ⟨Nat.le_of_ble_eq_true rfl, Nat.le_of_ble_eq_true rfl⟩) (fPreS hN hZ hS (fun q h => hFc q h) hPc hKc hDc) rfl rfl hl.1 rfl (lv_room (Nat.le_of_ble_eq_true rfl)) dX6_unequal_9 ⟨Nat.le_of_ble_eq_true rfl, Nat.le_of_ble_eq_true rfl⟩) hS (fun q _ h => hFc q h) hFc (fun r u t H1 locs ht hvm hw hB hz1 hk1 hS => ?_)
  obtain ⟨hP1, hK1, hD1⟩ := hB
  rw [ht] at hP1
  have hK1 := va_K.moved hvm.symm hK1
  obtain ⟨hP, hD⟩ := va_join (wr := [(k0, .inr (9, [.ref kN, .ref kA, .ref kO, .ref kK, .ref kV, .ref kG, .ref kP, .ref kC, .ref kD, .ref kE, .ref kF, .ref kX, .ref kY, .int 0, .ref kT, .ref kU, .int 0, .int 0, .int 0])), (kD, .inl (cI, 20, .inl g2))]) (w1 := [(kC, .inl (cI, 20, .inl g1))]) hP hD [1] [0, 2] rfl rfl (by decide) (by decide) hk1 hFc hP1 hD1
  generalize H1 = H at hP hS ⊢
  have hP : va_P (dC, dI) vwCl [(k0, .inr (9, [.ref kN, .ref kA, .ref kO, .ref kK, .ref kV, .ref kG, .ref kP, .ref kC, .ref kD, .ref kE, .ref kF, .ref kX, .ref kY, .int 0, .ref kT, .ref kU, .int 0, .int 0, .int 0])), (kD, .inl (cI, 20, .inl g2)), (kC, .inl (cI, 20, .inl g1))] _ := hP
  have hD : va_D A [(k0, .inr (9, [.ref kN, .ref kA, .ref kO, .ref kK, .ref kV, .ref kG, .ref kP, .ref kC, .ref kD, .ref kE, .ref kF, .ref kX, .ref kY, .int 0, .ref kT, .ref kU, .int 0, .int 0, .int 0])), (kD, .inl (cI, 20, .inl g2)), (kC, .inl (cI, 20, .inl g1))] := hD
  subst hw
  refine lv_icmp_ge (tgt := 39) hx hb dX6_unequal_12 (by decide) (fun _ => ?_) (fun h9 => absurd (by decide) h9)
  refine lv_iconst (v := 0) hx hb dX6_unequal_39 (by decide) ?_
  refine lv_istore_n (lv' := [(2, .int 0), (1, .int 0), (0, .ref k0)]) hx hb dX6_unequal_40 rfl hl (Nat.le_of_ble_eq_true rfl) rfl (fun ls hl => ?_)
  refine lv_iload_n hx hb dX6_unequal_41 rfl (lv_at hl 0 rfl) ?_
  refine lv_aload_n hx hb dX6_unequal_42 rfl (lv_at hl 2 rfl) ?_
  refine va_get (D := (dC, dI)) (ci := 9) (v := .ref kD) (C := RX6) (T := TX6) (N := 19) hx hb hts (fun w h => List.mem_cons_of_mem _ (List.mem_append_left _ (List.mem_append_right _ (h)))) hown hK hP 0 rfl rfl 8 (by decide) (hts (.fieldLink RX6 36 "NetcompareModel" "partColours" "[I") (List.mem_cons_of_mem _ (List.mem_append_left _ (List.mem_append_left _ (List.mem_append_left _ (List.mem_of_getElem? (i := 1) rfl)))))) (fun _ h9 => h9) rfl dX6_unequal_43 ?_
  have hPc := hP.sub (ws' := [(kD, .inl (cI, 20, .inl g2))]) [1] rfl
  have hDc := hD.sub (ws' := [(kD, .inl (cI, 20, .inl g2))]) [1] (by decide) rfl
  have hKc := hK.sub (tys' := [(cI, .int)]) [0] rfl
  have hFc := va_free (wc := [(kD, .inl (cI, 20, .inl g2))]) hD hS hA [1] rfl
  refine va_calli (va_runS (As := [.ref kD]) (rest := [.int 0]) ⟨hx, hb, hml, hown, hts⟩ (kX6_classes l dC dI kD cI g2 H.size h2) (va_cwS 1 hts gX6_unequal_X6_classes rfl rfl rfl (by decide +kernel) ⟨Nat.le_of_ble_eq_true rfl, Nat.le_of_ble_eq_true rfl⟩) (fPreS hN hZ hS (fun q h => hFc q h) hPc hKc hDc) rfl rfl hl.1 rfl (lv_room (Nat.le_of_ble_eq_true rfl)) dX6_unequal_46 ⟨Nat.le_of_ble_eq_true rfl, Nat.le_of_ble_eq_true rfl⟩) hS (fun q _ h => hFc q h) hFc (fun r u t H1 locs ht hvm hw hB hz1 hk1 hS => ?_)
  obtain ⟨hP1, hK1, hD1⟩ := hB
  rw [ht] at hP1
  have hK1 := va_K.moved hvm.symm hK1
  obtain ⟨hP, hD⟩ := va_join (wr := [(k0, .inr (9, [.ref kN, .ref kA, .ref kO, .ref kK, .ref kV, .ref kG, .ref kP, .ref kC, .ref kD, .ref kE, .ref kF, .ref kX, .ref kY, .int 0, .ref kT, .ref kU, .int 0, .int 0, .int 0])), (kC, .inl (cI, 20, .inl g1))]) (w1 := [(kD, .inl (cI, 20, .inl g2))]) hP hD [1] [0, 2] rfl rfl (by decide) (by decide) hk1 hFc hP1 hD1
  generalize H1 = H at hP hS ⊢
  have hP : va_P (dC, dI) vwCl [(k0, .inr (9, [.ref kN, .ref kA, .ref kO, .ref kK, .ref kV, .ref kG, .ref kP, .ref kC, .ref kD, .ref kE, .ref kF, .ref kX, .ref kY, .int 0, .ref kT, .ref kU, .int 0, .int 0, .int 0])), (kC, .inl (cI, 20, .inl g1)), (kD, .inl (cI, 20, .inl g2))] _ := hP
  have hD : va_D A [(k0, .inr (9, [.ref kN, .ref kA, .ref kO, .ref kK, .ref kV, .ref kG, .ref kP, .ref kC, .ref kD, .ref kE, .ref kF, .ref kX, .ref kY, .int 0, .ref kT, .ref kU, .int 0, .int 0, .int 0])), (kC, .inl (cI, 20, .inl g1)), (kD, .inl (cI, 20, .inl g2))] := hD
  subst hw
  refine lv_icmp_ge (tgt := 76) hx hb dX6_unequal_49 (by decide) (fun _ => ?_) (fun h9 => absurd (by decide) h9)
  refine lv_iload_n hx hb dX6_unequal_76 rfl (lv_at hl 1 rfl) ?_
  exact ret _ () _ _ _ _ _ _ (rfl) (hP.sub [0, 1, 2] rfl) (hK.sub [0] rfl) (hD.sub [0, 1, 2] (by decide) rfl) hS (Nat.le_of_ble_eq_true rfl) (Nat.le_of_ble_eq_true rfl) dX6_unequal_77

set_option maxHeartbeats 4000000 in
set_option maxRecDepth 100000 in
/-- finds: none -/
theorem kX6_finds (l : Launch) (dC : Nat → ClassId) (dI : Nat → Nat → Nat) (k0 kN kA kO kK kV kG kP kC kD kE kF kX kY kT kU : Nat) (cI : ClassId) (g1 g2 g3 g4 : Nat → Int32) (p0 : Int32) (sz : Nat) : fMi l yX6_finds wsX6_finds ({ frames := 5, cells := 2, slots := 40, locals := 116 } : Room) dC dI [.ref k0, .int p0] [(k0, .inr (9, [.ref kN, .ref kA, .ref kO, .ref kK, .ref kV, .ref kG, .ref kP, .ref kC, .ref kD, .ref kE, .ref kF, .ref kX, .ref kY, .int 0, .ref kT, .ref kU, .int 0, .int 0, .int 0])), (kN, .inl (cI, 2, .inl (fun _ => 0))), (kA, .inl (cI, 2, .inl (fun _ => 0))), (kC, .inl (cI, 20, .inl g1)), (kD, .inl (cI, 20, .inl g2)), (kE, .inl (cI, 20, .inl g3)), (kF, .inl (cI, 20, .inl g4))] [(cI, .int)] sz (fun (r : Int32) (u : Unit) => r = 0) (fun u => [(k0, .inr (9, [.ref kN, .ref kA, .ref kO, .ref kK, .ref kV, .ref kG, .ref kP, .ref kC, .ref kD, .ref kE, .ref kF, .ref kX, .ref kY, .int 0, .ref kT, .ref kU, .int 1, .int 0, .int 0]))]) (fun u => []) := by
  refine oP_z (y := yX6_finds) (cc := cX6_finds) (maxL := 9) (by decide) rfl (Nat.le_of_ble_eq_true rfl) ?_
  intro p e s m args below meth c ls A Q hx hb hr hml hown hts hN hZ hA hin hlk hP hK hD hl ret
  have hS : va_S A s.heap s.heap [] := va_S.rf
  have hl : lv_has ls 9 [(0, .ref k0), (1, .int p0)] := hl
  have hP : va_P (dC, dI) vwCl [(k0, .inr (9, [.ref kN, .ref kA, .ref kO, .ref kK, .ref kV, .ref kG, .ref kP, .ref kC, .ref kD, .ref kE, .ref kF, .ref kX, .ref kY, .int 0, .ref kT, .ref kU, .int 0, .int 0, .int 0])), (kN, .inl (cI, 2, .inl (fun _ => 0))), (kA, .inl (cI, 2, .inl (fun _ => 0))), (kC, .inl (cI, 20, .inl g1)), (kD, .inl (cI, 20, .inl g2)), (kE, .inl (cI, 20, .inl g3)), (kF, .inl (cI, 20, .inl g4))] _ := hP
  have hD : va_D A [(k0, .inr (9, [.ref kN, .ref kA, .ref kO, .ref kK, .ref kV, .ref kG, .ref kP, .ref kC, .ref kD, .ref kE, .ref kF, .ref kX, .ref kY, .int 0, .ref kT, .ref kU, .int 0, .int 0, .int 0])), (kN, .inl (cI, 2, .inl (fun _ => 0))), (kA, .inl (cI, 2, .inl (fun _ => 0))), (kC, .inl (cI, 20, .inl g1)), (kD, .inl (cI, 20, .inl g2)), (kE, .inl (cI, 20, .inl g3)), (kF, .inl (cI, 20, .inl g4))] := hD
  refine lv_aload_n hx hb dX6_finds_0 rfl (lv_at hl 0 rfl) ?_
  have hPc := hP.sub (ws' := [(k0, .inr (9, [.ref kN, .ref kA, .ref kO, .ref kK, .ref kV, .ref kG, .ref kP, .ref kC, .ref kD, .ref kE, .ref kF, .ref kX, .ref kY, .int 0, .ref kT, .ref kU, .int 0, .int 0, .int 0])), (kN, .inl (cI, 2, .inl (fun _ => 0))), (kA, .inl (cI, 2, .inl (fun _ => 0))), (kC, .inl (cI, 20, .inl g1)), (kD, .inl (cI, 20, .inl g2)), (kE, .inl (cI, 20, .inl g3)), (kF, .inl (cI, 20, .inl g4))]) [0, 1, 2, 3, 4, 5, 6] rfl
  have hDc := hD.sub (ws' := [(k0, .inr (9, [.ref kN, .ref kA, .ref kO, .ref kK, .ref kV, .ref kG, .ref kP, .ref kC, .ref kD, .ref kE, .ref kF, .ref kX, .ref kY, .int 0, .ref kT, .ref kU, .int 0, .int 0, .int 0])), (kN, .inl (cI, 2, .inl (fun _ => 0))), (kA, .inl (cI, 2, .inl (fun _ => 0))), (kC, .inl (cI, 20, .inl g1)), (kD, .inl (cI, 20, .inl g2)), (kE, .inl (cI, 20, .inl g3)), (kF, .inl (cI, 20, .inl g4))]) [0, 1, 2, 3, 4, 5, 6] (by decide) rfl
  have hKc := hK.sub (tys' := [(cI, .int)]) [0] rfl
  have hFc := va_free (wc := [(k0, .inr (9, [.ref kN, .ref kA, .ref kO, .ref kK, .ref kV, .ref kG, .ref kP, .ref kC, .ref kD, .ref kE, .ref kF, .ref kX, .ref kY, .int 0, .ref kT, .ref kU, .int 0, .int 0, .int 0])), (kN, .inl (cI, 2, .inl (fun _ => 0))), (kA, .inl (cI, 2, .inl (fun _ => 0))), (kC, .inl (cI, 20, .inl g1)), (kD, .inl (cI, 20, .inl g2)), (kE, .inl (cI, 20, .inl g3)), (kF, .inl (cI, 20, .inl g4))]) hD hS hA [0, 1, 2, 3, 4, 5, 6] rfl
  refine va_callv (va_runV (As := []) (rest := []) ⟨hx, hb, hml, hown, hts⟩ (kX6_colours l dC dI k0 kN kA kO kK kV kG kP kC kD kE kF kX kY kT kU cI g1 g2 g3 g4 s.heap.size) (cwV 0 hts gX6_finds_X6_colours rfl rfl rfl (by decide +kernel) ⟨Nat.le_of_ble_eq_true rfl, Nat.le_of_ble_eq_true rfl⟩) (fPreV hN hZ hS (fun q h => hFc q h) hPc hKc hDc (ci := 9) (q0 := 0) rfl rfl) rfl rfl hl.1 rfl (lv_room (Nat.le_of_ble_eq_true rfl)) dX6_finds_1 ⟨Nat.le_of_ble_eq_true rfl, Nat.le_of_ble_eq_true rfl⟩) hS (fun q _ h => hFc q h) hFc (fun u t H1 locs ht hvm hw hB hz1 hk1 hS => ?_)
  obtain ⟨hP1, hK1, hD1⟩ := hB
  rw [ht] at hP1
  have hK1 := va_K.moved hvm.symm hK1
  obtain ⟨u1, u2⟩ := u
  obtain ⟨hP, hD⟩ := va_join (wr := []) (w1 := [(k0, .inr (9, [.ref kN, .ref kA, .ref kO, .ref kK, .ref kV, .ref kG, .ref kP, .ref kC, .ref kD, .ref kE, .ref kF, .ref kX, .ref kY, .int 0, .ref kT, .ref kU, .int 0, .int 0, .int 0])), (kN, .inl (cI, 2, .inl (fun _ => 0))), (kA, .inl (cI, 2, .inl (fun _ => 0))), (kC, .inl (cI, 20, .inl u1)), (kD, .inl (cI, 20, .inl u2))]) hP hD [0, 1, 2, 3, 4, 5, 6] [] rfl rfl (by decide) (by decide) hk1 hFc hP1 hD1
  generalize H1 = H at hP hS ⊢
  have hP : va_P (dC, dI) vwCl [(k0, .inr (9, [.ref kN, .ref kA, .ref kO, .ref kK, .ref kV, .ref kG, .ref kP, .ref kC, .ref kD, .ref kE, .ref kF, .ref kX, .ref kY, .int 0, .ref kT, .ref kU, .int 0, .int 0, .int 0])), (kN, .inl (cI, 2, .inl (fun _ => 0))), (kA, .inl (cI, 2, .inl (fun _ => 0))), (kC, .inl (cI, 20, .inl u1)), (kD, .inl (cI, 20, .inl u2))] _ := hP
  have hD : va_D A [(k0, .inr (9, [.ref kN, .ref kA, .ref kO, .ref kK, .ref kV, .ref kG, .ref kP, .ref kC, .ref kD, .ref kE, .ref kF, .ref kX, .ref kY, .int 0, .ref kT, .ref kU, .int 0, .int 0, .int 0])), (kN, .inl (cI, 2, .inl (fun _ => 0))), (kA, .inl (cI, 2, .inl (fun _ => 0))), (kC, .inl (cI, 20, .inl u1)), (kD, .inl (cI, 20, .inl u2))] := hD
  refine W.widen (k := 2) (n := 40) (Nat.le_of_ble_eq_true rfl) (Nat.le_of_ble_eq_true rfl) ?_
  have hu3 := hw
  refine lv_aload_n hx hb dX6_finds_4 rfl (lv_at hl 0 rfl) ?_
  refine lv_iload_n hx hb dX6_finds_5 rfl (lv_at hl 1 rfl) ?_
  refine lv_i2l (v := p0.toInt64) hx hb dX6_finds_6 rfl ?_
  refine lv_lconst (v := 0) hx hb dX6_finds_7 (by decide) ?_
  refine lv_aload_n hx hb dX6_finds_8 rfl (lv_at hl 0 rfl) ?_
  have hPc := hP.sub (ws' := [(k0, .inr (9, [.ref kN, .ref kA, .ref kO, .ref kK, .ref kV, .ref kG, .ref kP, .ref kC, .ref kD, .ref kE, .ref kF, .ref kX, .ref kY, .int 0, .ref kT, .ref kU, .int 0, .int 0, .int 0])), (kC, .inl (cI, 20, .inl u1)), (kD, .inl (cI, 20, .inl u2))]) [0, 3, 4] rfl
  have hDc := hD.sub (ws' := [(k0, .inr (9, [.ref kN, .ref kA, .ref kO, .ref kK, .ref kV, .ref kG, .ref kP, .ref kC, .ref kD, .ref kE, .ref kF, .ref kX, .ref kY, .int 0, .ref kT, .ref kU, .int 0, .int 0, .int 0])), (kC, .inl (cI, 20, .inl u1)), (kD, .inl (cI, 20, .inl u2))]) [0, 3, 4] (by decide) rfl
  have hKc := hK.sub (tys' := [(cI, .int)]) [0] rfl
  have hFc := va_free (wc := [(k0, .inr (9, [.ref kN, .ref kA, .ref kO, .ref kK, .ref kV, .ref kG, .ref kP, .ref kC, .ref kD, .ref kE, .ref kF, .ref kX, .ref kY, .int 0, .ref kT, .ref kU, .int 0, .int 0, .int 0])), (kC, .inl (cI, 20, .inl u1)), (kD, .inl (cI, 20, .inl u2))]) hD hS hA [0, 3, 4] rfl
  refine va_calli (va_runV (As := []) (rest := [.long 0, .long p0.toInt64, .ref k0]) ⟨hx, hb, hml, hown, hts⟩ (kX6_unequal l dC dI k0 kN kA kO kK kV kG kP kC kD kE kF kX kY kT kU cI u1 u2 H.size hu3.1 hu3.2) (cwV 0 hts gX6_finds_X6_unequal rfl rfl rfl (by decide +kernel) ⟨Nat.le_of_ble_eq_true rfl, Nat.le_of_ble_eq_true rfl⟩) (fPreV hN hZ hS (fun q h => hFc q h) hPc hKc hDc (ci := 9) (q0 := 0) rfl rfl) rfl rfl hl.1 rfl (lv_room (Nat.le_of_ble_eq_true rfl)) dX6_finds_9 ⟨Nat.le_of_ble_eq_true rfl, Nat.le_of_ble_eq_true rfl⟩) hS (fun q _ h => hFc q h) hFc (fun r u t H1 locs ht hvm hw hB hz1 hk1 hS => ?_)
  obtain ⟨hP1, hK1, hD1⟩ := hB
  rw [ht] at hP1
  have hK1 := va_K.moved hvm.symm hK1
  obtain ⟨hP, hD⟩ := va_join (wr := [(kN, .inl (cI, 2, .inl (fun _ => 0))), (kA, .inl (cI, 2, .inl (fun _ => 0)))]) (w1 := [(k0, .inr (9, [.ref kN, .ref kA, .ref kO, .ref kK, .ref kV, .ref kG, .ref kP, .ref kC, .ref kD, .ref kE, .ref kF, .ref kX, .ref kY, .int 0, .ref kT, .ref kU, .int 0, .int 0, .int 0])), (kC, .inl (cI, 20, .inl u1)), (kD, .inl (cI, 20, .inl u2))]) hP hD [0, 3, 4] [1, 2] rfl rfl (by decide) (by decide) hk1 hFc hP1 hD1
  generalize H1 = H at hP hS ⊢
  have hP : va_P (dC, dI) vwCl [(kN, .inl (cI, 2, .inl (fun _ => 0))), (kA, .inl (cI, 2, .inl (fun _ => 0))), (k0, .inr (9, [.ref kN, .ref kA, .ref kO, .ref kK, .ref kV, .ref kG, .ref kP, .ref kC, .ref kD, .ref kE, .ref kF, .ref kX, .ref kY, .int 0, .ref kT, .ref kU, .int 0, .int 0, .int 0])), (kC, .inl (cI, 20, .inl u1)), (kD, .inl (cI, 20, .inl u2))] _ := hP
  have hD : va_D A [(kN, .inl (cI, 2, .inl (fun _ => 0))), (kA, .inl (cI, 2, .inl (fun _ => 0))), (k0, .inr (9, [.ref kN, .ref kA, .ref kO, .ref kK, .ref kV, .ref kG, .ref kP, .ref kC, .ref kD, .ref kE, .ref kF, .ref kX, .ref kY, .int 0, .ref kT, .ref kU, .int 0, .int 0, .int 0])), (kC, .inl (cI, 20, .inl u1)), (kD, .inl (cI, 20, .inl u2))] := hD
  subst hw
  refine lv_iconst (v := 1) hx hb dX6_finds_12 (by decide) ?_
  refine lv_isub hx hb dX6_finds_13 ?_
  refine lv_topi (fun y4 ey4 => ?_)
  obtain rfl : y4 = (-1) := ey4.trans (by decide)
  refine lv_i2l (v := (-1)) hx hb dX6_finds_14 (by decide) ?_
  have hPc := hP.sub (ws' := []) [] rfl
  have hDc := hD.sub (ws' := []) [] (by decide) rfl
  have hKc := hK.sub (tys' := []) [] rfl
  have hFc := va_free (wc := []) hD hS hA [] rfl
  refine va_calli (va_runS (As := [.long p0.toInt64, .long 0, .long (-1)]) (rest := [.ref k0]) ⟨hx, hb, hml, hown, hts⟩ (kX6_inE l dC dI p0.toInt64 H.size) (va_cwS 3 hts gX6_finds_X6_in rfl rfl rfl (by decide +kernel) ⟨Nat.le_of_ble_eq_true rfl, Nat.le_of_ble_eq_true rfl⟩) (fPreS hN hZ hS (fun q h => hFc q h) hPc hKc hDc) rfl rfl hl.1 rfl (lv_room (Nat.le_of_ble_eq_true rfl)) dX6_finds_15 ⟨Nat.le_of_ble_eq_true rfl, Nat.le_of_ble_eq_true rfl⟩) hS (fun q _ h => hFc q h) hFc (fun r u t H1 locs ht hvm hw hB hz1 hk1 hS => ?_)
  obtain ⟨hP1, hK1, hD1⟩ := hB
  rw [ht] at hP1
  have hK1 := va_K.moved hvm.symm hK1
  obtain ⟨hP, hD⟩ := va_join (wr := [(kN, .inl (cI, 2, .inl (fun _ => 0))), (kA, .inl (cI, 2, .inl (fun _ => 0))), (k0, .inr (9, [.ref kN, .ref kA, .ref kO, .ref kK, .ref kV, .ref kG, .ref kP, .ref kC, .ref kD, .ref kE, .ref kF, .ref kX, .ref kY, .int 0, .ref kT, .ref kU, .int 0, .int 0, .int 0])), (kC, .inl (cI, 20, .inl u1)), (kD, .inl (cI, 20, .inl u2))]) (w1 := []) hP hD [] [0, 1, 2, 3, 4] rfl rfl (by decide) (by decide) hk1 hFc hP1 hD1
  generalize H1 = H at hP hS ⊢
  have hP : va_P (dC, dI) vwCl [(kN, .inl (cI, 2, .inl (fun _ => 0))), (kA, .inl (cI, 2, .inl (fun _ => 0))), (k0, .inr (9, [.ref kN, .ref kA, .ref kO, .ref kK, .ref kV, .ref kG, .ref kP, .ref kC, .ref kD, .ref kE, .ref kF, .ref kX, .ref kY, .int 0, .ref kT, .ref kU, .int 0, .int 0, .int 0])), (kC, .inl (cI, 20, .inl u1)), (kD, .inl (cI, 20, .inl u2))] _ := hP
  have hD : va_D A [(kN, .inl (cI, 2, .inl (fun _ => 0))), (kA, .inl (cI, 2, .inl (fun _ => 0))), (k0, .inr (9, [.ref kN, .ref kA, .ref kO, .ref kK, .ref kV, .ref kG, .ref kP, .ref kC, .ref kD, .ref kE, .ref kF, .ref kX, .ref kY, .int 0, .ref kT, .ref kU, .int 0, .int 0, .int 0])), (kC, .inl (cI, 20, .inl u1)), (kD, .inl (cI, 20, .inl u2))] := hD
  subst hw
  refine lv_if_eq (tgt := 25) hx hb dX6_finds_18 (by decide) (fun _ => ?_) (fun h9 => absurd (by decide) h9)
  refine lv_iconst (v := 1) hx hb dX6_finds_25 (by decide) ?_
  refine va_put (D := (dC, dI)) (ci := 9) (v := .int 1) (ty := .int) (C := RX6) (T := TX6) (N := 19) hx hb hts (fun w h => List.mem_cons_of_mem _ (List.mem_append_left _ (List.mem_append_right _ (h)))) tyX6 tyX6_ok nmX6 hown hK hP hD hS 2 rfl rfl 16 (by decide) (hts (.fieldLink RX6 57 "NetcompareModel" "thrown" "I") (List.mem_cons_of_mem _ (List.mem_append_left _ (List.mem_append_left _ (List.mem_append_left _ (List.mem_of_getElem? (i := 0) rfl)))))) (fun _ h9 => h9) rfl (by decide +kernel) rfl rfl (Nat.le_of_ble_eq_true rfl) dX6_finds_26 (fun H locs hP hD hS => ?_)
  have hP : va_P (dC, dI) vwCl [(kN, .inl (cI, 2, .inl (fun _ => 0))), (kA, .inl (cI, 2, .inl (fun _ => 0))), (k0, .inr (9, [.ref kN, .ref kA, .ref kO, .ref kK, .ref kV, .ref kG, .ref kP, .ref kC, .ref kD, .ref kE, .ref kF, .ref kX, .ref kY, .int 0, .ref kT, .ref kU, .int 1, .int 0, .int 0])), (kC, .inl (cI, 20, .inl u1)), (kD, .inl (cI, 20, .inl u2))] _ := hP
  have hD : va_D A [(kN, .inl (cI, 2, .inl (fun _ => 0))), (kA, .inl (cI, 2, .inl (fun _ => 0))), (k0, .inr (9, [.ref kN, .ref kA, .ref kO, .ref kK, .ref kV, .ref kG, .ref kP, .ref kC, .ref kD, .ref kE, .ref kF, .ref kX, .ref kY, .int 0, .ref kT, .ref kU, .int 1, .int 0, .int 0])), (kC, .inl (cI, 20, .inl u1)), (kD, .inl (cI, 20, .inl u2))] := hD
  refine lv_iconst (v := (-1)) hx hb dX6_finds_29 (by decide) ?_
  refine lv_istore_n (lv' := [(2, .int (-1)), (0, .ref k0), (1, .int p0)]) hx hb dX6_finds_30 rfl hl (Nat.le_of_ble_eq_true rfl) rfl (fun ls hl => ?_)
  refine lv_iconst (v := 0) hx hb dX6_finds_31 (by decide) ?_
  refine lv_istore_n (lv' := [(3, .int 0), (2, .int (-1)), (0, .ref k0), (1, .int p0)]) hx hb dX6_finds_32 rfl hl (Nat.le_of_ble_eq_true rfl) rfl (fun ls hl => ?_)
  refine lv_iload_n hx hb dX6_finds_33 rfl (lv_at hl 0 rfl) ?_
  refine lv_iload_n hx hb dX6_finds_34 rfl (lv_at hl 3 rfl) ?_
  refine lv_icmp_gt (tgt := 172) hx hb dX6_finds_35 (by decide) (fun h5 => ?_) (fun h5 => ?_)
  · skip
    refine lv_aload_n hx hb dX6_finds_172 rfl (lv_at hl 2 rfl) ?_
    refine va_get (D := (dC, dI)) (ci := 9) (v := .int 1) (C := RX6) (T := TX6) (N := 19) hx hb hts (fun w h => List.mem_cons_of_mem _ (List.mem_append_left _ (List.mem_append_right _ (h)))) hown hK hP 2 rfl rfl 16 (by decide) (hts (.fieldLink RX6 57 "NetcompareModel" "thrown" "I") (List.mem_cons_of_mem _ (List.mem_append_left _ (List.mem_append_left _ (List.mem_append_left _ (List.mem_of_getElem? (i := 0) rfl)))))) (fun _ h9 => h9) rfl dX6_finds_173 ?_
    refine lv_if_ne (tgt := 183) hx hb dX6_finds_176 (by decide) (fun _ => ?_) (fun h9 => absurd h9 (by decide))
    refine lv_iconst (v := 0) hx hb dX6_finds_183 (by decide) ?_
    exact ret _ () _ _ _ _ _ _ (rfl) (rfl) (hP.sub [2] rfl) (hK.sub [] rfl) (hD.sub [2] (by decide) rfl) hS (Nat.le_of_ble_eq_true rfl) (Nat.le_of_ble_eq_true rfl) dX6_finds_184
  · skip
    refine lv_aload_n hx hb dX6_finds_38 rfl (lv_at hl 2 rfl) ?_
    refine va_get (D := (dC, dI)) (ci := 9) (v := .int 1) (C := RX6) (T := TX6) (N := 19) hx hb hts (fun w h => List.mem_cons_of_mem _ (List.mem_append_left _ (List.mem_append_right _ (h)))) hown hK hP 2 rfl rfl 16 (by decide) (hts (.fieldLink RX6 57 "NetcompareModel" "thrown" "I") (List.mem_cons_of_mem _ (List.mem_append_left _ (List.mem_append_left _ (List.mem_append_left _ (List.mem_of_getElem? (i := 0) rfl)))))) (fun _ h9 => h9) rfl dX6_finds_39 ?_
    refine lv_if_ne (tgt := 172) hx hb dX6_finds_42 (by decide) (fun _ => ?_) (fun h9 => absurd h9 (by decide))
    refine lv_aload_n hx hb dX6_finds_172 rfl (lv_at hl 2 rfl) ?_
    refine va_get (D := (dC, dI)) (ci := 9) (v := .int 1) (C := RX6) (T := TX6) (N := 19) hx hb hts (fun w h => List.mem_cons_of_mem _ (List.mem_append_left _ (List.mem_append_right _ (h)))) hown hK hP 2 rfl rfl 16 (by decide) (hts (.fieldLink RX6 57 "NetcompareModel" "thrown" "I") (List.mem_cons_of_mem _ (List.mem_append_left _ (List.mem_append_left _ (List.mem_append_left _ (List.mem_of_getElem? (i := 0) rfl)))))) (fun _ h9 => h9) rfl dX6_finds_173 ?_
    refine lv_if_ne (tgt := 183) hx hb dX6_finds_176 (by decide) (fun _ => ?_) (fun h9 => absurd h9 (by decide))
    refine lv_iconst (v := 0) hx hb dX6_finds_183 (by decide) ?_
    exact ret _ () _ _ _ _ _ _ (rfl) (rfl) (hP.sub [2] rfl) (hK.sub [] rfl) (hD.sub [2] (by decide) rfl) hS (Nat.le_of_ble_eq_true rfl) (Nat.le_of_ble_eq_true rfl) dX6_finds_184
