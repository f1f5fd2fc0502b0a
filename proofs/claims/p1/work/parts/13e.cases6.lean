set_option maxRecDepth 20000 in
theorem gk_L_matchedPart_r1 : GoodIn wsL_law wsL_matchedPart_r1 := goodIn_r _ [147, 103, 1240, 1241, 1242, 2, 1243, 21, 221, 222, 223, 224, 156, 157, 110, 111, 112, 113, 17, 114, 115, 116, 117, 118] (by decide +kernel) (by decide +kernel)
set_option maxRecDepth 20000 in
theorem gk_L_matchedPart_r2 : GoodIn wsL_law wsL_matchedPart_r2 := goodIn_r _ [119, 120, 121, 16, 122, 30, 31, 225, 226, 227, 29, 228, 229, 230, 231, 232, 49, 1091, 1092, 1093, 20, 1094, 1095, 76] (by decide +kernel) (by decide +kernel)
set_option maxRecDepth 20000 in
theorem gk_L_matchedPart_r3 : GoodIn wsL_law wsL_matchedPart_r3 := goodIn_r _ [1096, 1097, 878, 879, 880, 881, 882, 40, 883, 572, 573, 574, 52, 166, 167, 168, 169, 127, 46, 575, 576, 577, 578, 429] (by decide +kernel) (by decide +kernel)
set_option maxRecDepth 20000 in
theorem gk_L_matchedPart_r4 : GoodIn wsL_law wsL_matchedPart_r4 := goodIn_r _ [430, 431, 432, 245, 246, 247, 248, 51, 579, 580, 581, 582, 583, 584, 585, 586, 884, 885, 886, 887, 35, 36, 888, 889] (by decide +kernel) (by decide +kernel)
set_option maxRecDepth 20000 in
theorem gk_L_matchedPart_r5 : GoodIn wsL_law wsL_matchedPart_r5 := goodIn_r _ [890, 34, 891, 60, 892, 893, 894, 895, 896, 897, 898, 899, 900, 901, 902, 903, 59, 904, 383, 384, 385, 905, 906, 907] (by decide +kernel) (by decide +kernel)
set_option maxRecDepth 20000 in
theorem gk_L_matchedPart_r6 : GoodIn wsL_law wsL_matchedPart_r6 := goodIn_r _ [908, 909, 62, 910, 911, 331, 332, 333, 47, 912, 913, 914, 915, 916, 917, 918, 61, 919, 920, 921, 922, 923, 924, 925] (by decide +kernel) (by decide +kernel)
set_option maxRecDepth 20000 in
theorem gk_L_matchedPart_r7 : GoodIn wsL_law wsL_matchedPart_r7 := goodIn_r _ [926, 927, 928, 929, 930, 931, 932, 933, 934, 935, 936, 937, 938, 939, 940, 941, 942, 943, 944, 945, 946, 947, 948, 327] (by decide +kernel) (by decide +kernel)
set_option maxRecDepth 20000 in
theorem gk_L_matchedPart_r8 : GoodIn wsL_law wsL_matchedPart_r8 := goodIn_r _ [328, 329, 330, 949, 950, 951, 952, 39, 953, 954, 955, 956, 957, 958, 959, 960, 961, 962, 963, 964, 965, 966, 967, 968] (by decide +kernel) (by decide +kernel)
set_option maxRecDepth 20000 in
theorem gk_L_matchedPart_r9 : GoodIn wsL_law wsL_matchedPart_r9 := goodIn_r _ [969, 970, 971, 972, 973, 974, 975, 67, 1098, 1099, 1100, 1101, 72, 73, 1102, 1103, 1104, 1105, 1106, 1107, 1108, 74, 1109, 1110] (by decide +kernel) (by decide +kernel)
set_option maxRecDepth 20000 in
theorem gk_L_matchedPart_r10 : GoodIn wsL_law wsL_matchedPart_r10 := goodIn_r _ [1111, 1112, 1113, 1114, 1115, 1116, 1117, 1118, 1119, 1120, 1121, 1122, 1123, 1124, 1125, 1126, 1127, 1128, 1129, 1130, 1131, 1132, 1133, 1134] (by decide +kernel) (by decide +kernel)
set_option maxRecDepth 20000 in
theorem gk_L_matchedPart_r11 : GoodIn wsL_law wsL_matchedPart_r11 := goodIn_r _ [1135, 1136, 1137, 1138, 1139, 1140, 1141, 1080, 1081, 1082, 1142, 1143, 1144, 1145, 1146, 1147, 1148, 1149, 1218, 1219, 1220, 108, 109, 1244] (by decide +kernel) (by decide +kernel)
set_option maxRecDepth 20000 in
theorem gk_L_matchedPart_r12 : GoodIn wsL_law wsL_matchedPart_r12 := goodIn_r _ [1245, 1246, 1247] (by decide +kernel) (by decide +kernel)
set_option maxRecDepth 20000 in
theorem ggL_law_L_matchedPart : GoodIn wsL_law wsL_matchedPart := goodIn_ca (goodIn_ca (goodIn_ca (goodIn_ca (goodIn_c1 (goodIn_r _ [1239] (by decide +kernel) (by decide +kernel)) (goodIn_app (goodIn_app (goodIn_app (goodIn_app (goodIn_app (goodIn_app (goodIn_app gk_L_matchedPart_r1 (goodIn_app gk_L_matchedPart_r2 (goodIn_app gk_L_matchedPart_r3 (goodIn_app gk_L_matchedPart_r4 (goodIn_app gk_L_matchedPart_r5 (goodIn_app gk_L_matchedPart_r6 (goodIn_app gk_L_matchedPart_r7 (goodIn_app gk_L_matchedPart_r8 (goodIn_app gk_L_matchedPart_r9 (goodIn_app gk_L_matchedPart_r10 (goodIn_app gk_L_matchedPart_r11 gk_L_matchedPart_r12))))))))))) (goodIn_sub inlX5 (by decide +kernel))) (goodIn_sub inlX2 (by decide +kernel))) (goodIn_sub inlX4 (by decide +kernel))) (goodIn_sub inlX0 (by decide +kernel))) (goodIn_sub inlX1 (by decide +kernel))) (goodIn_sub inlX3 (by decide +kernel)))) (goodIn_sub (fun _ h => List.mem_append_left _ (List.mem_append_left _ (List.mem_append_left _ (List.mem_append_left _ (List.mem_append_left _ (List.mem_append_left _ (List.mem_append_left _ (List.mem_append_right _ h)))))))) (by decide +kernel))) (goodIn_sub (fun _ h => List.mem_append_left _ (List.mem_append_left _ (List.mem_append_left _ (List.mem_append_left _ (List.mem_append_right _ h))))) (by decide +kernel))) (goodIn_sub (fun _ h => List.mem_append_left _ (List.mem_append_left _ (List.mem_append_left _ (List.mem_append_left _ (List.mem_append_left _ (List.mem_append_right _ h)))))) (by decide +kernel))) (goodIn_sub (fun _ h => List.mem_append_left _ (List.mem_append_left _ (List.mem_append_left _ (List.mem_append_left _ (List.mem_append_left _ (List.mem_append_left _ (List.mem_append_right _ h))))))) (by decide +kernel))
set_option maxRecDepth 20000 in
theorem gL_law_L_matchedPart : GoodIn wsL_law (va_wsS RL 255 yL_matchedPart wsL_matchedPart) := goodIn_app (goodIn_of _ (by decide +kernel)) ggL_law_L_matchedPart
set_option maxRecDepth 20000 in
theorem gk_X6_matchedPart_r1 : GoodIn wsL_law wsX6_matchedPart_r1 := goodIn_r _ [136, 97, 261, 262, 263, 5, 264, 83, 88, 180, 181, 182, 1154, 1155, 1156, 1157, 82, 981, 982, 983, 984, 90, 84, 91] (by decide +kernel) (by decide +kernel)
set_option maxRecDepth 20000 in
theorem gk_X6_matchedPart_r2 : GoodIn wsL_law wsX6_matchedPart_r2 := goodIn_r _ [85, 86, 980, 92, 93, 985, 986, 987, 988, 183, 184, 185, 186, 414, 415, 416, 417, 308, 309, 310, 311, 312, 313, 314] (by decide +kernel) (by decide +kernel)
set_option maxRecDepth 20000 in
theorem gk_X6_matchedPart_r3 : GoodIn wsL_law wsX6_matchedPart_r3 := goodIn_r _ [315, 316, 317, 318, 89, 989, 990, 991, 992, 993, 687, 688, 994, 995, 996, 997, 998, 450, 434, 431, 435, 999, 1000, 1001] (by decide +kernel) (by decide +kernel)
set_option maxRecDepth 20000 in
theorem gk_X6_matchedPart_r4 : GoodIn wsL_law wsX6_matchedPart_r4 := goodIn_r _ [1002, 1003, 1004, 1005, 1006, 1007, 1008, 1009, 94, 95, 1010, 1011, 1012, 1013, 1014, 1015, 1016, 1017, 1018, 1019, 1020, 1021, 1022, 1023] (by decide +kernel) (by decide +kernel)
set_option maxRecDepth 20000 in
theorem gk_X6_matchedPart_r5 : GoodIn wsL_law wsX6_matchedPart_r5 := goodIn_r _ [1024, 1025, 1026, 1027, 265, 266, 267, 268, 1158, 1159, 1160, 1161, 96, 1162, 1163, 1164, 1165, 87, 1166, 1167, 1168, 1169, 1170, 1171] (by decide +kernel) (by decide +kernel)
set_option maxRecDepth 20000 in
theorem gk_X6_matchedPart_r6 : GoodIn wsL_law wsX6_matchedPart_r6 := goodIn_r _ [1172, 1173, 281, 282, 283, 284] (by decide +kernel) (by decide +kernel)
set_option maxRecDepth 20000 in
theorem ggL_law_X6_matchedPart : GoodIn wsL_law wsX6_matchedPart := goodIn_ca (goodIn_c1 (goodIn_r _ [1251] (by decide +kernel) (by decide +kernel)) (goodIn_app (goodIn_app gk_X6_matchedPart_r1 (goodIn_app gk_X6_matchedPart_r2 (goodIn_app gk_X6_matchedPart_r3 (goodIn_app gk_X6_matchedPart_r4 (goodIn_app gk_X6_matchedPart_r5 gk_X6_matchedPart_r6))))) (goodIn_sub inlX6 (by decide +kernel)))) (goodIn_sub (fun _ h => List.mem_append_left _ (List.mem_append_left _ (List.mem_append_left _ (List.mem_append_left _ (List.mem_append_left _ (List.mem_append_left _ (List.mem_append_left _ (List.mem_append_right _ h)))))))) (by decide +kernel))
set_option maxRecDepth 20000 in
theorem gL_law_X6_matchedPart : GoodIn wsL_law (wsV RL 257 RX6 yX6_matchedPart wsX6_matchedPart) := goodIn_app (goodIn_of _ (by decide +kernel)) ggL_law_X6_matchedPart
set_option maxRecDepth 20000 in
theorem gk_L_matchedPin_r1 : GoodIn wsL_law wsL_matchedPin_r1 := goodIn_r _ [147, 288, 103, 1255, 1256, 1257, 2, 1258, 21, 221, 222, 223, 224, 156, 157, 110, 111, 112, 113, 17, 114, 115, 116, 117] (by decide +kernel) (by decide +kernel)
set_option maxRecDepth 20000 in
theorem gk_L_matchedPin_r2 : GoodIn wsL_law wsL_matchedPin_r2 := goodIn_r _ [118, 119, 120, 121, 16, 122, 30, 31, 225, 226, 227, 29, 228, 229, 230, 231, 232, 49, 296, 297, 298, 299, 300, 301] (by decide +kernel) (by decide +kernel)
set_option maxRecDepth 20000 in
theorem gk_L_matchedPin_r3 : GoodIn wsL_law wsL_matchedPin_r3 := goodIn_r _ [302, 246, 247, 248, 51, 1091, 1092, 1093, 20, 1094, 1095, 76, 1096, 1097, 878, 879, 880, 881, 882, 40, 883, 572, 573, 574] (by decide +kernel) (by decide +kernel)
set_option maxRecDepth 20000 in
theorem gk_L_matchedPin_r4 : GoodIn wsL_law wsL_matchedPin_r4 := goodIn_r _ [52, 166, 167, 168, 169, 127, 46, 575, 576, 577, 578, 429, 430, 431, 432, 245, 579, 580, 581, 582, 583, 584, 585, 586] (by decide +kernel) (by decide +kernel)
set_option maxRecDepth 20000 in
theorem gk_L_matchedPin_r5 : GoodIn wsL_law wsL_matchedPin_r5 := goodIn_r _ [884, 885, 886, 887, 35, 36, 888, 889, 890, 34, 891, 60, 892, 893, 894, 895, 896, 897, 898, 899, 900, 901, 902, 903] (by decide +kernel) (by decide +kernel)
set_option maxRecDepth 20000 in
theorem gk_L_matchedPin_r6 : GoodIn wsL_law wsL_matchedPin_r6 := goodIn_r _ [59, 904, 383, 384, 385, 905, 906, 907, 908, 909, 62, 910, 911, 331, 332, 333, 47, 912, 913, 914, 915, 916, 917, 918] (by decide +kernel) (by decide +kernel)
set_option maxRecDepth 20000 in
theorem gk_L_matchedPin_r7 : GoodIn wsL_law wsL_matchedPin_r7 := goodIn_r _ [61, 919, 920, 921, 922, 923, 924, 925, 926, 927, 928, 929, 930, 931, 932, 933, 934, 935, 936, 937, 938, 939, 940, 941] (by decide +kernel) (by decide +kernel)
set_option maxRecDepth 20000 in
theorem gk_L_matchedPin_r8 : GoodIn wsL_law wsL_matchedPin_r8 := goodIn_r _ [942, 943, 944, 945, 946, 947, 948, 327, 328, 329, 330, 949, 950, 951, 952, 39, 953, 954, 955, 956, 957, 958, 959, 960] (by decide +kernel) (by decide +kernel)
set_option maxRecDepth 20000 in
theorem gk_L_matchedPin_r9 : GoodIn wsL_law wsL_matchedPin_r9 := goodIn_r _ [961, 962, 963, 964, 965, 966, 967, 968, 969, 970, 971, 972, 973, 974, 975, 67, 1098, 1099, 1100, 1101, 72, 73, 1102, 1103] (by decide +kernel) (by decide +kernel)
set_option maxRecDepth 20000 in
theorem gk_L_matchedPin_r10 : GoodIn wsL_law wsL_matchedPin_r10 := goodIn_r _ [1104, 1105, 1106, 1107, 1108, 74, 1109, 1110, 1111, 1112, 1113, 1114, 1115, 1116, 1117, 1118, 1119, 1120, 1121, 1122, 1123, 1124, 1125, 1126] (by decide +kernel) (by decide +kernel)
set_option maxRecDepth 20000 in
theorem gk_L_matchedPin_r11 : GoodIn wsL_law wsL_matchedPin_r11 := goodIn_r _ [1127, 1128, 1129, 1130, 1131, 1132, 1133, 1134, 1135, 1136, 1137, 1138, 1139, 1140, 1141, 1080, 1081, 1082, 1142, 1143, 1144, 1145, 1146, 1147] (by decide +kernel) (by decide +kernel)
set_option maxRecDepth 20000 in
theorem gk_L_matchedPin_r12 : GoodIn wsL_law wsL_matchedPin_r12 := goodIn_r _ [1148, 1149, 1218, 1219, 1220, 108, 109, 1259, 1260, 1261, 1262, 1263, 1245, 1246, 1247] (by decide +kernel) (by decide +kernel)
set_option maxRecDepth 20000 in
theorem ggL_law_L_matchedPin : GoodIn wsL_law wsL_matchedPin := goodIn_ca (goodIn_ca (goodIn_ca (goodIn_ca (goodIn_ca (goodIn_c1 (goodIn_r _ [1254] (by decide +kernel) (by decide +kernel)) (goodIn_app (goodIn_app (goodIn_app (goodIn_app (goodIn_app (goodIn_app (goodIn_app gk_L_matchedPin_r1 (goodIn_app gk_L_matchedPin_r2 (goodIn_app gk_L_matchedPin_r3 (goodIn_app gk_L_matchedPin_r4 (goodIn_app gk_L_matchedPin_r5 (goodIn_app gk_L_matchedPin_r6 (goodIn_app gk_L_matchedPin_r7 (goodIn_app gk_L_matchedPin_r8 (goodIn_app gk_L_matchedPin_r9 (goodIn_app gk_L_matchedPin_r10 (goodIn_app gk_L_matchedPin_r11 gk_L_matchedPin_r12))))))))))) (goodIn_sub inlX5 (by decide +kernel))) (goodIn_sub inlX2 (by decide +kernel))) (goodIn_sub inlX4 (by decide +kernel))) (goodIn_sub inlX0 (by decide +kernel))) (goodIn_sub inlX1 (by decide +kernel))) (goodIn_sub inlX3 (by decide +kernel)))) (goodIn_sub (fun _ h => List.mem_append_left _ (List.mem_append_left _ (List.mem_append_left _ (List.mem_append_left _ (List.mem_append_left _ (List.mem_append_left _ (List.mem_append_left _ (List.mem_append_right _ h)))))))) (by decide +kernel))) (goodIn_sub (fun _ h => List.mem_append_left _ (List.mem_append_left _ (List.mem_append_left _ (List.mem_append_left _ (List.mem_append_right _ h))))) (by decide +kernel))) (goodIn_sub (fun _ h => List.mem_append_left _ (List.mem_append_left _ (List.mem_append_left _ (List.mem_append_left _ (List.mem_append_left _ (List.mem_append_right _ h)))))) (by decide +kernel))) (goodIn_sub (fun _ h => List.mem_append_left _ (List.mem_append_left _ (List.mem_append_right _ h))) (by decide +kernel))) (goodIn_sub (fun _ h => List.mem_append_left _ (List.mem_append_left _ (List.mem_append_left _ (List.mem_append_left _ (List.mem_append_left _ (List.mem_append_left _ (List.mem_append_right _ h))))))) (by decide +kernel))
set_option maxRecDepth 20000 in
theorem gL_law_L_matchedPin : GoodIn wsL_law (va_wsS RL 258 yL_matchedPin wsL_matchedPin) := goodIn_app (goodIn_of _ (by decide +kernel)) ggL_law_L_matchedPin
set_option maxRecDepth 20000 in
theorem gk_X6_matchedPin_r1 : GoodIn wsL_law wsX6_matchedPin_r1 := goodIn_r _ [136, 96, 97, 261, 262, 263, 5, 264, 83, 88, 180, 181, 182, 308, 309, 310, 311, 85, 312, 313, 314, 1154, 1155, 1156] (by decide +kernel) (by decide +kernel)
set_option maxRecDepth 20000 in
theorem gk_X6_matchedPin_r2 : GoodIn wsL_law wsX6_matchedPin_r2 := goodIn_r _ [1157, 82, 981, 982, 983, 984, 90, 84, 91, 86, 980, 92, 93, 985, 986, 987, 988, 183, 184, 185, 186, 414, 415, 416] (by decide +kernel) (by decide +kernel)
set_option maxRecDepth 20000 in
theorem gk_X6_matchedPin_r3 : GoodIn wsL_law wsX6_matchedPin_r3 := goodIn_r _ [417, 315, 316, 317, 318, 89, 989, 990, 991, 992, 993, 687, 688, 994, 995, 996, 997, 998, 450, 434, 431, 435, 999, 1000] (by decide +kernel) (by decide +kernel)
set_option maxRecDepth 20000 in
theorem gk_X6_matchedPin_r4 : GoodIn wsL_law wsX6_matchedPin_r4 := goodIn_r _ [1001, 1002, 1003, 1004, 1005, 1006, 1007, 1008, 1009, 94, 95, 1010, 1011, 1012, 1013, 1014, 1015, 1016, 1017, 1018, 1019, 1020, 1021, 1022] (by decide +kernel) (by decide +kernel)
set_option maxRecDepth 20000 in
theorem gk_X6_matchedPin_r5 : GoodIn wsL_law wsX6_matchedPin_r5 := goodIn_r _ [1023, 1024, 1025, 1026, 1027, 265, 266, 267, 268, 1158, 1159, 1160, 1161, 1162, 1163, 1164, 1165, 87, 1166, 1167, 1168, 1169, 1170, 1171] (by decide +kernel) (by decide +kernel)
set_option maxRecDepth 20000 in
theorem gk_X6_matchedPin_r6 : GoodIn wsL_law wsX6_matchedPin_r6 := goodIn_r _ [1172, 1173, 281, 282, 283, 284] (by decide +kernel) (by decide +kernel)
set_option maxRecDepth 20000 in
theorem ggL_law_X6_matchedPin : GoodIn wsL_law wsX6_matchedPin := goodIn_ca (goodIn_c1 (goodIn_r _ [1267] (by decide +kernel) (by decide +kernel)) (goodIn_app (goodIn_app gk_X6_matchedPin_r1 (goodIn_app gk_X6_matchedPin_r2 (goodIn_app gk_X6_matchedPin_r3 (goodIn_app gk_X6_matchedPin_r4 (goodIn_app gk_X6_matchedPin_r5 gk_X6_matchedPin_r6))))) (goodIn_sub inlX6 (by decide +kernel)))) (goodIn_sub (fun _ h => List.mem_append_left _ (List.mem_append_left _ (List.mem_append_left _ (List.mem_append_left _ (List.mem_append_left _ (List.mem_append_left _ (List.mem_append_left _ (List.mem_append_right _ h)))))))) (by decide +kernel))
set_option maxRecDepth 20000 in
theorem gL_law_X6_matchedPin : GoodIn wsL_law (wsV RL 260 RX6 yX6_matchedPin wsX6_matchedPin) := goodIn_app (goodIn_of _ (by decide +kernel)) ggL_law_X6_matchedPin
set_option maxRecDepth 20000 in
theorem gk_X5_differences_r1 : GoodIn wsL_law wsX5_differences_r1 := goodIn_r _ [17, 877, 878, 879, 16, 880, 881, 30, 31, 882, 40, 883, 572, 573, 29, 574, 52, 166, 167, 168, 169, 127, 46, 575] (by decide +kernel) (by decide +kernel)
set_option maxRecDepth 20000 in
theorem gk_X5_differences_r2 : GoodIn wsL_law wsX5_differences_r2 := goodIn_r _ [576, 577, 578, 429, 430, 431, 432, 245, 246, 247, 248, 51, 579, 580, 581, 582, 583, 584, 585, 586, 884, 885, 886, 887] (by decide +kernel) (by decide +kernel)
set_option maxRecDepth 20000 in
theorem gk_X5_differences_r3 : GoodIn wsL_law wsX5_differences_r3 := goodIn_r _ [35, 36, 888, 889, 890, 34, 891, 60, 892, 893, 894, 895, 896, 120, 121, 122, 897, 2, 898, 899, 900, 901, 902, 903] (by decide +kernel) (by decide +kernel)
set_option maxRecDepth 20000 in
theorem gk_X5_differences_r4 : GoodIn wsL_law wsX5_differences_r4 := goodIn_r _ [59, 904, 383, 384, 385, 905, 906, 907, 908, 909, 62, 910, 226, 227, 228, 229, 230, 231, 232, 49, 911, 331, 332, 333] (by decide +kernel) (by decide +kernel)
set_option maxRecDepth 20000 in
theorem gk_X5_differences_r5 : GoodIn wsL_law wsX5_differences_r5 := goodIn_r _ [47, 912, 913, 914, 915, 916, 917, 918, 61, 919, 920, 921, 922, 923, 924, 925, 926, 927, 928, 929, 930, 931, 932, 933] (by decide +kernel) (by decide +kernel)
set_option maxRecDepth 20000 in
theorem gk_X5_differences_r6 : GoodIn wsL_law wsX5_differences_r6 := goodIn_r _ [934, 935, 936, 937, 938, 939, 940, 941, 942, 943, 944, 945, 946, 947, 948, 327, 328, 329, 330, 949, 950, 951, 952, 39] (by decide +kernel) (by decide +kernel)
set_option maxRecDepth 20000 in
theorem gk_X5_differences_r7 : GoodIn wsL_law wsX5_differences_r7 := goodIn_r _ [953, 954, 955, 956, 957, 958, 959, 960, 961, 962, 963, 964, 965, 966, 967, 968, 969, 970, 971, 972, 973, 974, 975, 67] (by decide +kernel) (by decide +kernel)
set_option maxRecDepth 20000 in
theorem ggL_law_X5_differences : GoodIn wsL_law wsX5_differences := goodIn_ca (goodIn_c1 (goodIn_r _ [1271] (by decide +kernel) (by decide +kernel)) (goodIn_app (goodIn_app (goodIn_app (goodIn_app (goodIn_app (goodIn_app gk_X5_differences_r1 (goodIn_app gk_X5_differences_r2 (goodIn_app gk_X5_differences_r3 (goodIn_app gk_X5_differences_r4 (goodIn_app gk_X5_differences_r5 (goodIn_app gk_X5_differences_r6 gk_X5_differences_r7)))))) (goodIn_sub inlX5 (by decide +kernel))) (goodIn_sub inlX4 (by decide +kernel))) (goodIn_sub inlX1 (by decide +kernel))) (goodIn_sub inlX0 (by decide +kernel))) (goodIn_sub inlX3 (by decide +kernel)))) (goodIn_sub (fun _ h => List.mem_append_left _ (List.mem_append_left _ (List.mem_append_left _ (List.mem_append_left _ (List.mem_append_left _ (List.mem_append_left _ (List.mem_append_left _ (List.mem_append_right _ h)))))))) (by decide +kernel))
set_option maxRecDepth 20000 in
theorem gL_law_X5_differences : GoodIn wsL_law (wsV RL 261 RX5 yX5_differences wsX5_differences) := goodIn_app (goodIn_of _ (by decide +kernel)) ggL_law_X5_differences
set_option maxRecDepth 20000 in
theorem gk_X6_differences_r1 : GoodIn wsL_law wsX6_differences_r1 := goodIn_r _ [136, 981, 982, 983, 5, 984, 90, 84, 91, 85, 86, 980, 92, 93, 985, 986, 987, 988, 261, 262, 263, 264, 83, 88] (by decide +kernel) (by decide +kernel)
set_option maxRecDepth 20000 in
theorem gk_X6_differences_r2 : GoodIn wsL_law wsX6_differences_r2 := goodIn_r _ [180, 181, 182, 183, 184, 185, 186, 82, 414, 415, 416, 417, 308, 309, 310, 311, 312, 313, 314, 315, 316, 317, 318, 89] (by decide +kernel) (by decide +kernel)
set_option maxRecDepth 20000 in
theorem gk_X6_differences_r3 : GoodIn wsL_law wsX6_differences_r3 := goodIn_r _ [989, 990, 991, 992, 993, 687, 688, 994, 995, 996, 997, 998, 450, 434, 431, 435, 999, 1000, 1001, 1002, 1003, 1004, 1005, 1006] (by decide +kernel) (by decide +kernel)
set_option maxRecDepth 20000 in
theorem gk_X6_differences_r4 : GoodIn wsL_law wsX6_differences_r4 := goodIn_r _ [1007, 1008, 1009, 94, 95, 1010, 1011, 1012, 1013, 1014, 1015, 1016, 1017, 1018, 1019, 1020, 1021, 1022, 1023, 1024, 1025, 1026, 1027, 1276] (by decide +kernel) (by decide +kernel)
set_option maxRecDepth 20000 in
theorem gk_X6_differences_r5 : GoodIn wsL_law wsX6_differences_r5 := goodIn_r _ [1277, 1278, 1279, 1280, 1281, 1282, 1283, 1058, 1059, 1060, 1284, 1285, 1286, 1287, 449, 430, 432, 592, 593, 594, 595, 48, 596, 597] (by decide +kernel) (by decide +kernel)
set_option maxRecDepth 20000 in
theorem gk_X6_differences_r6 : GoodIn wsL_law wsX6_differences_r6 := goodIn_r _ [598, 599, 1288, 1289, 1290] (by decide +kernel) (by decide +kernel)
set_option maxRecDepth 20000 in
theorem ggL_law_X6_differences : GoodIn wsL_law wsX6_differences := goodIn_ca (goodIn_c1 (goodIn_r _ [1275] (by decide +kernel) (by decide +kernel)) (goodIn_app (goodIn_app gk_X6_differences_r1 (goodIn_app gk_X6_differences_r2 (goodIn_app gk_X6_differences_r3 (goodIn_app gk_X6_differences_r4 (goodIn_app gk_X6_differences_r5 gk_X6_differences_r6))))) (goodIn_sub inlX6 (by decide +kernel)))) (goodIn_sub (fun _ h => List.mem_append_left _ (List.mem_append_left _ (List.mem_append_left _ (List.mem_append_left _ (List.mem_append_left _ (List.mem_append_left _ (List.mem_append_left _ (List.mem_append_right _ h)))))))) (by decide +kernel))
set_option maxRecDepth 20000 in
theorem gL_law_X6_differences : GoodIn wsL_law (wsV RL 264 RX6 yX6_differences wsX6_differences) := goodIn_app (goodIn_of _ (by decide +kernel)) ggL_law_X6_differences
theorem dL_law_2149 : decode cL_law 2149 = .ok (.aload_n 1, 1) := by decide +kernel
theorem dL_law_2150 : decode cL_law 2150 = .ok (.aload_n 0, 1) := by decide +kernel
theorem dL_law_2151 : decode cL_law 2151 = .ok (.iload 5, 2) := by decide +kernel
theorem dL_law_2153 : decode cL_law 2153 = .ok (.iconst 1, 1) := by decide +kernel
theorem dL_law_2154 : decode cL_law 2154 = .ok (.iadd, 1) := by decide +kernel
theorem dL_law_2155 : decode cL_law 2155 = .ok (.iaload, 1) := by decide +kernel
theorem dL_law_2156 : decode cL_law 2156 = .ok (.aload_n 3, 1) := by decide +kernel
theorem dL_law_2157 : decode cL_law 2157 = .ok (.invokestatic 255, 3) := by decide +kernel
theorem dL_law_2160 : decode cL_law 2160 = .ok (.istore 6, 2) := by decide +kernel
theorem dL_law_2162 : decode cL_law 2162 = .ok (.aload_n 2, 1) := by decide +kernel
theorem dL_law_2163 : decode cL_law 2163 = .ok (.aload_n 0, 1) := by decide +kernel
theorem dL_law_2164 : decode cL_law 2164 = .ok (.iload 5, 2) := by decide +kernel
theorem dL_law_2166 : decode cL_law 2166 = .ok (.iconst 1, 1) := by decide +kernel
theorem dL_law_2167 : decode cL_law 2167 = .ok (.iadd, 1) := by decide +kernel
theorem dL_law_2168 : decode cL_law 2168 = .ok (.iaload, 1) := by decide +kernel
theorem dL_law_2169 : decode cL_law 2169 = .ok (.invokevirtual 257, 3) := by decide +kernel
theorem dL_law_2172 : decode cL_law 2172 = .ok (.istore 7, 2) := by decide +kernel
theorem dL_law_2174 : decode cL_law 2174 = .ok (.aload_n 2, 1) := by decide +kernel
theorem dL_law_2175 : decode cL_law 2175 = .ok (.invokevirtual 150, 3) := by decide +kernel
theorem dL_law_2178 : decode cL_law 2178 = .ok (.iload 6, 2) := by decide +kernel
theorem dL_law_2180 : decode cL_law 2180 = .ok (.if_icmp .eq 5, 3) := by decide +kernel
theorem dL_law_2185 : decode cL_law 2185 = .ok (.iload 6, 2) := by decide +kernel
theorem dL_law_2187 : decode cL_law 2187 = .ok (.ifCond .ne 15, 3) := by decide +kernel
theorem dL_law_2202 : decode cL_law 2202 = .ok (.goto 518, 3) := by decide +kernel
theorem dL_law_2205 : decode cL_law 2205 = .ok (.aload_n 1, 1) := by decide +kernel
theorem dL_law_2206 : decode cL_law 2206 = .ok (.aload_n 0, 1) := by decide +kernel
theorem dL_law_2207 : decode cL_law 2207 = .ok (.iload 5, 2) := by decide +kernel
theorem dL_law_2209 : decode cL_law 2209 = .ok (.iconst 1, 1) := by decide +kernel
theorem dL_law_2210 : decode cL_law 2210 = .ok (.iadd, 1) := by decide +kernel
theorem dL_law_2211 : decode cL_law 2211 = .ok (.iaload, 1) := by decide +kernel
theorem dL_law_2212 : decode cL_law 2212 = .ok (.aload_n 0, 1) := by decide +kernel
theorem dL_law_2213 : decode cL_law 2213 = .ok (.iload 5, 2) := by decide +kernel
theorem dL_law_2215 : decode cL_law 2215 = .ok (.iconst 2, 1) := by decide +kernel
theorem dL_law_2216 : decode cL_law 2216 = .ok (.iadd, 1) := by decide +kernel
theorem dL_law_2217 : decode cL_law 2217 = .ok (.iaload, 1) := by decide +kernel
theorem dL_law_2218 : decode cL_law 2218 = .ok (.aload_n 3, 1) := by decide +kernel
theorem dL_law_2219 : decode cL_law 2219 = .ok (.invokestatic 258, 3) := by decide +kernel
theorem dL_law_2222 : decode cL_law 2222 = .ok (.istore 6, 2) := by decide +kernel
theorem dL_law_2224 : decode cL_law 2224 = .ok (.aload_n 2, 1) := by decide +kernel
theorem dL_law_2225 : decode cL_law 2225 = .ok (.aload_n 0, 1) := by decide +kernel
theorem dL_law_2226 : decode cL_law 2226 = .ok (.iload 5, 2) := by decide +kernel
theorem dL_law_2228 : decode cL_law 2228 = .ok (.iconst 1, 1) := by decide +kernel
theorem dL_law_2229 : decode cL_law 2229 = .ok (.iadd, 1) := by decide +kernel
theorem dL_law_2230 : decode cL_law 2230 = .ok (.iaload, 1) := by decide +kernel
theorem dL_law_2231 : decode cL_law 2231 = .ok (.aload_n 0, 1) := by decide +kernel
theorem dL_law_2232 : decode cL_law 2232 = .ok (.iload 5, 2) := by decide +kernel
theorem dL_law_2234 : decode cL_law 2234 = .ok (.iconst 2, 1) := by decide +kernel
theorem dL_law_2235 : decode cL_law 2235 = .ok (.iadd, 1) := by decide +kernel
theorem dL_law_2236 : decode cL_law 2236 = .ok (.iaload, 1) := by decide +kernel
theorem dL_law_2237 : decode cL_law 2237 = .ok (.invokevirtual 260, 3) := by decide +kernel
theorem dL_law_2240 : decode cL_law 2240 = .ok (.istore 7, 2) := by decide +kernel
theorem dL_law_2242 : decode cL_law 2242 = .ok (.aload_n 2, 1) := by decide +kernel
theorem dL_law_2243 : decode cL_law 2243 = .ok (.invokevirtual 150, 3) := by decide +kernel
theorem dL_law_2246 : decode cL_law 2246 = .ok (.iload 6, 2) := by decide +kernel
theorem dL_law_2248 : decode cL_law 2248 = .ok (.if_icmp .eq 5, 3) := by decide +kernel
theorem dL_law_2253 : decode cL_law 2253 = .ok (.iload 6, 2) := by decide +kernel
theorem dL_law_2255 : decode cL_law 2255 = .ok (.ifCond .ne 15, 3) := by decide +kernel
theorem dL_law_2270 : decode cL_law 2270 = .ok (.goto 450, 3) := by decide +kernel
theorem dL_law_2273 : decode cL_law 2273 = .ok (.aload_n 1, 1) := by decide +kernel
theorem dL_law_2274 : decode cL_law 2274 = .ok (.invokevirtual 261, 3) := by decide +kernel
theorem dL_law_2277 : decode cL_law 2277 = .ok (.aload_n 2, 1) := by decide +kernel
theorem dL_law_2278 : decode cL_law 2278 = .ok (.invokevirtual 264, 3) := by decide +kernel
theorem dL_law_2281 : decode cL_law 2281 = .ok (.if_icmp .eq 439, 3) := by decide +kernel
set_option maxHeartbeats 4000000 in
set_option maxRecDepth 100000 in
/-- case 31 of the law: matchedPart, on fresh objects -/
theorem lc_31 {p : Program} {e : Env} {s : State} {m : MethodId} {below : List Frame} {meth : Method} {c : Code} (l : Launch) (hfl : l.stackTraces = false) {b : Nat} {xs : Nat → Int32} (hx : p.tables.exec = Jvm.exec) (hb : c.code = cL_law) (hr : meth.sig.returnType = ret) (hml : c.maxLocals = 9) (hown : s.vm.findClass RL = some m.cls) (hts : ∀ w ∈ wsL_law, w.before #[Value.ref b] s = true) (hlk : meth.locks = false) (A : Nat → Prop) (hAe : ∀ q, A q → s.heap.size ≤ q) (hA : ∀ q : Nat, s.heap.size ≤ q → A q) (hX9 : va_X b 7 xs s s.heap) (hbl : b < s.heap.size) (hN : fN s) (hZ : fZ A s s.heap) (hX : fX s) (dC : Nat → ClassId) (dI : Nat → Nat → Nat) (h0 pr w d on op un wL wK wV wN wS wB dL dK dV dN dS dB ma tm k0 kN kA kO kK kV kG kP kC kD kE kF kX kY kT kU oJ oD : Nat) (cI cJ : ClassId) {H : Heap} {locs : List Loc} {ls : Array Slot} (hK : va_K (dC, dI) vwCl [(cI, .int), (cJ, .long)] s) (hP : va_P (dC, dI) vwCl [(h0, .inr (8, [.ref pr, .ref ma, .ref tm])), (pr, .inr (7, [.ref w, .ref d, .ref on, .ref op, .ref un, .int 0, .int 0])), (w, .inr (3, [.int 0, .int 0, .ref wL, .ref wK, .ref wV, .ref wN, .ref wS, .ref wB, .int 0])), (d, .inr (3, [.int 0, .int 0, .ref dL, .ref dK, .ref dV, .ref dN, .ref dS, .ref dB, .int 0])), (wV, .inl (cI, 10, .inl (fun _ => 0))), (dV, .inl (cI, 10, .inl (fun _ => 0))), (k0, .inr (9, [.ref kN, .ref kA, .ref kO, .ref kK, .ref kV, .ref kG, .ref kP, .ref kC, .ref kD, .ref kE, .ref kF, .ref kX, .ref kY, .int 0, .ref kT, .ref kU, .int 0, .int 0, .int 0])), (kN, .inl (cI, 2, .inl (fun _ => 0))), (kA, .inl (cI, 2, .inl (fun _ => 0))), (oJ, .inl (cJ, 1, .inr (.inl (fun _ => 0))))] H) (hD : va_D A [(h0, .inr (8, [.ref pr, .ref ma, .ref tm])), (pr, .inr (7, [.ref w, .ref d, .ref on, .ref op, .ref un, .int 0, .int 0])), (w, .inr (3, [.int 0, .int 0, .ref wL, .ref wK, .ref wV, .ref wN, .ref wS, .ref wB, .int 0])), (d, .inr (3, [.int 0, .int 0, .ref dL, .ref dK, .ref dV, .ref dN, .ref dS, .ref dB, .int 0])), (wV, .inl (cI, 10, .inl (fun _ => 0))), (dV, .inl (cI, 10, .inl (fun _ => 0))), (k0, .inr (9, [.ref kN, .ref kA, .ref kO, .ref kK, .ref kV, .ref kG, .ref kP, .ref kC, .ref kD, .ref kE, .ref kF, .ref kX, .ref kY, .int 0, .ref kT, .ref kU, .int 0, .int 0, .int 0])), (kN, .inl (cI, 2, .inl (fun _ => 0))), (kA, .inl (cI, 2, .inl (fun _ => 0))), (oJ, .inl (cJ, 1, .inr (.inl (fun _ => 0))))]) (hS : va_S A s.heap H locs) (hl : lv_has ls 9 [(5, .int 0), (4, .ref oD), (3, .ref oJ), (2, .ref k0), (1, .ref h0), (0, .ref b)]) : W p l e room_1 s m #[Value.ref b] below meth c H locs 114 2061 (lw_Z below #[Value.ref b] s) (F0 m 2149 ls []) := by
  have hbA : ¬ A b := fun h => Nat.not_le.mpr hbl (hAe _ h)
  have hX0 := hX
  refine lv_aload_n hx hb dL_law_2149 rfl (lv_at hl 4 rfl) ?_
  refine lv_aload_n hx hb dL_law_2150 rfl (lv_at hl 5 rfl) ?_
  refine lv_iload hx hb dL_law_2151 (lv_at hl 0 rfl) ?_
  refine lv_iconst (v := 1) hx hb dL_law_2153 (by decide) ?_
  refine lv_iadd hx hb dL_law_2154 ?_
  refine lv_topi (fun y1 ey1 => ?_)
  obtain rfl : y1 = 1 := ey1.trans (by decide)
  refine va_sld hx hb hX9 hbl hbA hS (show ¬ (_ ∨ _) by decide) dL_law_2155 ?_
  refine W.eq (g2 := F0 m 2156 ls [.int (xs 1), .ref h0]) rfl ?_
  refine lv_aload_n hx hb dL_law_2156 rfl (lv_at hl 2 rfl) ?_
  have hPc := hP.sub (ws' := [(h0, .inr (8, [.ref pr, .ref ma, .ref tm])), (pr, .inr (7, [.ref w, .ref d, .ref on, .ref op, .ref un, .int 0, .int 0])), (w, .inr (3, [.int 0, .int 0, .ref wL, .ref wK, .ref wV, .ref wN, .ref wS, .ref wB, .int 0])), (d, .inr (3, [.int 0, .int 0, .ref dL, .ref dK, .ref dV, .ref dN, .ref dS, .ref dB, .int 0])), (wV, .inl (cI, 10, .inl (fun _ => 0))), (dV, .inl (cI, 10, .inl (fun _ => 0))), (oJ, .inl (cJ, 1, .inr (.inl (fun _ => 0))))]) [0, 1, 2, 3, 4, 5, 9] rfl
  have hDc := hD.sub (ws' := [(h0, .inr (8, [.ref pr, .ref ma, .ref tm])), (pr, .inr (7, [.ref w, .ref d, .ref on, .ref op, .ref un, .int 0, .int 0])), (w, .inr (3, [.int 0, .int 0, .ref wL, .ref wK, .ref wV, .ref wN, .ref wS, .ref wB, .int 0])), (d, .inr (3, [.int 0, .int 0, .ref dL, .ref dK, .ref dV, .ref dN, .ref dS, .ref dB, .int 0])), (wV, .inl (cI, 10, .inl (fun _ => 0))), (dV, .inl (cI, 10, .inl (fun _ => 0))), (oJ, .inl (cJ, 1, .inr (.inl (fun _ => 0))))]) [0, 1, 2, 3, 4, 5, 9] (by decide) rfl
  have hKc := hK.sub (tys' := [(cI, .int), (cJ, .long)]) [0, 1] rfl
  have hFc := va_free (wc := [(h0, .inr (8, [.ref pr, .ref ma, .ref tm])), (pr, .inr (7, [.ref w, .ref d, .ref on, .ref op, .ref un, .int 0, .int 0])), (w, .inr (3, [.int 0, .int 0, .ref wL, .ref wK, .ref wV, .ref wN, .ref wS, .ref wB, .int 0])), (d, .inr (3, [.int 0, .int 0, .ref dL, .ref dK, .ref dV, .ref dN, .ref dS, .ref dB, .int 0])), (wV, .inl (cI, 10, .inl (fun _ => 0))), (dV, .inl (cI, 10, .inl (fun _ => 0))), (oJ, .inl (cJ, 1, .inr (.inl (fun _ => 0))))]) hD hS hA [0, 1, 2, 3, 4, 5, 9] rfl
  refine vx_calli (vx_runSX (As := [.ref h0, .int (xs 1), .ref oJ]) (rest := []) ⟨hx, hb, hml, hown, hts⟩ (kL_matchedPart l hfl dC dI h0 pr ma tm w d on op un wL wK wV wN wS wB dL dK dV dN dS dB cI oJ cJ (xs 1) H.size) (vx_cwSW 3 hts gL_law_L_matchedPart rfl rfl rfl (by decide +kernel) ⟨Nat.le_of_ble_eq_true rfl, Nat.le_of_ble_eq_true rfl⟩) (gPreS hX hN hZ hS (fun q h => hFc q h) hPc hKc hDc) rfl rfl hl.1 rfl (lv_room (Nat.le_of_ble_eq_true rfl)) dL_law_2157 ⟨Nat.le_of_ble_eq_true rfl, Nat.le_of_ble_eq_true rfl⟩) hS (fun q _ h => hFc q h) hFc (fun q _ h => hFc q h) (fun E ce q9 u t H locs ht hvm hpx hE hz1 hk1 hS hq9 hv9 hc9 => ?_) (fun r u t H1 locs ht hvm hw hB hz1 hk1 hS => ?_)
  · skip
    exact hE.elim
  · skip
    obtain ⟨hP1, hK1, hD1⟩ := hB
    rw [ht] at hP1
    have hK1 := va_K.moved hvm.symm hK1
    obtain ⟨u2, rfl⟩ : ∃ z, z = u := ⟨_, rfl⟩
    obtain ⟨hP, hD⟩ := va_join (wr := [(k0, .inr (9, [.ref kN, .ref kA, .ref kO, .ref kK, .ref kV, .ref kG, .ref kP, .ref kC, .ref kD, .ref kE, .ref kF, .ref kX, .ref kY, .int 0, .ref kT, .ref kU, .int 0, .int 0, .int 0])), (kN, .inl (cI, 2, .inl (fun _ => 0))), (kA, .inl (cI, 2, .inl (fun _ => 0)))]) (w1 := [(oJ, .inl (cJ, 1, .inr (.inl u2)))]) hP hD [0, 1, 2, 3, 4, 5, 9] [6, 7, 8] rfl rfl (by decide) (by decide) hk1 hFc hP1 hD1
    generalize H1 = H at hP hS ⊢
    have hP : va_P (dC, dI) vwCl [(k0, .inr (9, [.ref kN, .ref kA, .ref kO, .ref kK, .ref kV, .ref kG, .ref kP, .ref kC, .ref kD, .ref kE, .ref kF, .ref kX, .ref kY, .int 0, .ref kT, .ref kU, .int 0, .int 0, .int 0])), (kN, .inl (cI, 2, .inl (fun _ => 0))), (kA, .inl (cI, 2, .inl (fun _ => 0))), (oJ, .inl (cJ, 1, .inr (.inl u2)))] _ := hP
    have hD : va_D A [(k0, .inr (9, [.ref kN, .ref kA, .ref kO, .ref kK, .ref kV, .ref kG, .ref kP, .ref kC, .ref kD, .ref kE, .ref kF, .ref kX, .ref kY, .int 0, .ref kT, .ref kU, .int 0, .int 0, .int 0])), (kN, .inl (cI, 2, .inl (fun _ => 0))), (kA, .inl (cI, 2, .inl (fun _ => 0))), (oJ, .inl (cJ, 1, .inr (.inl u2)))] := hD
    refine W.widen (k := 116) (n := 2073) (Nat.le_of_ble_eq_true rfl) (Nat.le_of_ble_eq_true rfl) ?_
    subst hw
    refine lv_istore (lv' := [(6, .int 1), (5, .int 0), (4, .ref oD), (3, .ref oJ), (2, .ref k0), (1, .ref h0), (0, .ref b)]) hx hb dL_law_2160 hl (Nat.le_of_ble_eq_true rfl) rfl (fun ls hl => ?_)
    refine lv_aload_n hx hb dL_law_2162 rfl (lv_at hl 4 rfl) ?_
    refine lv_aload_n hx hb dL_law_2163 rfl (lv_at hl 6 rfl) ?_
    refine lv_iload hx hb dL_law_2164 (lv_at hl 1 rfl) ?_
    refine lv_iconst (v := 1) hx hb dL_law_2166 (by decide) ?_
    refine lv_iadd hx hb dL_law_2167 ?_
    refine lv_topi (fun y3 ey3 => ?_)
    obtain rfl : y3 = 1 := ey3.trans (by decide)
    refine va_sld hx hb hX9 hbl hbA hS (show ¬ (_ ∨ _) by decide) dL_law_2168 ?_
    refine W.eq (g2 := F0 m 2169 ls [.int (xs 1), .ref k0]) rfl ?_
    have hPc := hP.sub (ws' := [(k0, .inr (9, [.ref kN, .ref kA, .ref kO, .ref kK, .ref kV, .ref kG, .ref kP, .ref kC, .ref kD, .ref kE, .ref kF, .ref kX, .ref kY, .int 0, .ref kT, .ref kU, .int 0, .int 0, .int 0])), (kN, .inl (cI, 2, .inl (fun _ => 0))), (kA, .inl (cI, 2, .inl (fun _ => 0)))]) [0, 1, 2] rfl
    have hDc := hD.sub (ws' := [(k0, .inr (9, [.ref kN, .ref kA, .ref kO, .ref kK, .ref kV, .ref kG, .ref kP, .ref kC, .ref kD, .ref kE, .ref kF, .ref kX, .ref kY, .int 0, .ref kT, .ref kU, .int 0, .int 0, .int 0])), (kN, .inl (cI, 2, .inl (fun _ => 0))), (kA, .inl (cI, 2, .inl (fun _ => 0)))]) [0, 1, 2] (by decide) rfl
    have hKc := hK.sub (tys' := [(cI, .int)]) [0] rfl
    have hFc := va_free (wc := [(k0, .inr (9, [.ref kN, .ref kA, .ref kO, .ref kK, .ref kV, .ref kG, .ref kP, .ref kC, .ref kD, .ref kE, .ref kF, .ref kX, .ref kY, .int 0, .ref kT, .ref kU, .int 0, .int 0, .int 0])), (kN, .inl (cI, 2, .inl (fun _ => 0))), (kA, .inl (cI, 2, .inl (fun _ => 0)))]) hD hS hA [0, 1, 2] rfl
    refine va_calli (va_runV (As := [.int (xs 1)]) (rest := []) ⟨hx, hb, hml, hown, hts⟩ (kX6_matchedPart l dC dI k0 kN kA kO kK kV kG kP kC kD kE kF kX kY kT kU cI (xs 1) H.size) (cwV 1 hts gL_law_X6_matchedPart rfl rfl rfl (by decide +kernel) ⟨Nat.le_of_ble_eq_true rfl, Nat.le_of_ble_eq_true rfl⟩) (fPreV hN hZ hS (fun q h => hFc q h) hPc hKc hDc (ci := 9) (q0 := 0) rfl rfl) rfl rfl hl.1 rfl (lv_room (Nat.le_of_ble_eq_true rfl)) dL_law_2169 ⟨Nat.le_of_ble_eq_true rfl, Nat.le_of_ble_eq_true rfl⟩) hS (fun q _ h => hFc q h) hFc (fun r u t H1 locs ht hvm hw hB hz1 hk1 hS => ?_)
    obtain ⟨hP1, hK1, hD1⟩ := hB
    rw [ht] at hP1
    have hK1 := va_K.moved hvm.symm hK1
    obtain ⟨u4, rfl⟩ : ∃ z, z = u := ⟨_, rfl⟩
    obtain ⟨hP, hD⟩ := va_join (wr := [(oJ, .inl (cJ, 1, .inr (.inl u2)))]) (w1 := [(k0, .inr (9, [.ref kN, .ref kA, .ref kO, .ref kK, .ref kV, .ref kG, .ref kP, .ref kC, .ref kD, .ref kE, .ref kF, .ref kX, .ref kY, .int 0, .ref kT, .ref kU, .int u4, .int 0, .int 0]))]) hP hD [0, 1, 2] [3] rfl rfl (by decide) (by decide) hk1 hFc hP1 hD1
    generalize H1 = H at hP hS ⊢
    have hP : va_P (dC, dI) vwCl [(oJ, .inl (cJ, 1, .inr (.inl u2))), (k0, .inr (9, [.ref kN, .ref kA, .ref kO, .ref kK, .ref kV, .ref kG, .ref kP, .ref kC, .ref kD, .ref kE, .ref kF, .ref kX, .ref kY, .int 0, .ref kT, .ref kU, .int u4, .int 0, .int 0]))] _ := hP
    have hD : va_D A [(oJ, .inl (cJ, 1, .inr (.inl u2))), (k0, .inr (9, [.ref kN, .ref kA, .ref kO, .ref kK, .ref kV, .ref kG, .ref kP, .ref kC, .ref kD, .ref kE, .ref kF, .ref kX, .ref kY, .int 0, .ref kT, .ref kU, .int u4, .int 0, .int 0]))] := hD
    obtain ⟨r5, rfl⟩ : ∃ z, z = r := ⟨_, rfl⟩
    subst hw
    have hP : va_P (dC, dI) vwCl [(oJ, .inl (cJ, 1, .inr (.inl u2))), (k0, .inr (9, [.ref kN, .ref kA, .ref kO, .ref kK, .ref kV, .ref kG, .ref kP, .ref kC, .ref kD, .ref kE, .ref kF, .ref kX, .ref kY, .int 0, .ref kT, .ref kU, .int 1, .int 0, .int 0]))] _ := hP
    have hD : va_D A [(oJ, .inl (cJ, 1, .inr (.inl u2))), (k0, .inr (9, [.ref kN, .ref kA, .ref kO, .ref kK, .ref kV, .ref kG, .ref kP, .ref kC, .ref kD, .ref kE, .ref kF, .ref kX, .ref kY, .int 0, .ref kT, .ref kU, .int 1, .int 0, .int 0]))] := hD
    refine lv_istore (lv' := [(7, .int r5), (6, .int 1), (5, .int 0), (4, .ref oD), (3, .ref oJ), (2, .ref k0), (1, .ref h0), (0, .ref b)]) hx hb dL_law_2172 hl (Nat.le_of_ble_eq_true rfl) rfl (fun ls hl => ?_)
    refine lv_aload_n hx hb dL_law_2174 rfl (lv_at hl 5 rfl) ?_
    have hPc := hP.sub (ws' := [(k0, .inr (9, [.ref kN, .ref kA, .ref kO, .ref kK, .ref kV, .ref kG, .ref kP, .ref kC, .ref kD, .ref kE, .ref kF, .ref kX, .ref kY, .int 0, .ref kT, .ref kU, .int 1, .int 0, .int 0]))]) [1] rfl
    have hDc := hD.sub (ws' := [(k0, .inr (9, [.ref kN, .ref kA, .ref kO, .ref kK, .ref kV, .ref kG, .ref kP, .ref kC, .ref kD, .ref kE, .ref kF, .ref kX, .ref kY, .int 0, .ref kT, .ref kU, .int 1, .int 0, .int 0]))]) [1] (by decide) rfl
    have hKc := hK.sub (tys' := []) [] rfl
    have hFc := va_free (wc := [(k0, .inr (9, [.ref kN, .ref kA, .ref kO, .ref kK, .ref kV, .ref kG, .ref kP, .ref kC, .ref kD, .ref kE, .ref kF, .ref kX, .ref kY, .int 0, .ref kT, .ref kU, .int 1, .int 0, .int 0]))]) hD hS hA [1] rfl
    refine va_calli (va_runV (As := []) (rest := []) ⟨hx, hb, hml, hown, hts⟩ (kX6_thrown l dC dI k0 kN kA kO kK kV kG kP kC kD kE kF kX kY kT kU 1 H.size) (cwV 0 hts gL_law_X6_thrown rfl rfl rfl (by decide +kernel) ⟨Nat.le_of_ble_eq_true rfl, Nat.le_of_ble_eq_true rfl⟩) (fPreV hN hZ hS (fun q h => hFc q h) hPc hKc hDc (ci := 9) (q0 := 0) rfl rfl) rfl rfl hl.1 rfl (lv_room (Nat.le_of_ble_eq_true rfl)) dL_law_2175 ⟨Nat.le_of_ble_eq_true rfl, Nat.le_of_ble_eq_true rfl⟩) hS (fun q _ h => hFc q h) hFc (fun r u t H1 locs ht hvm hw hB hz1 hk1 hS => ?_)
    obtain ⟨hP1, hK1, hD1⟩ := hB
    rw [ht] at hP1
    have hK1 := va_K.moved hvm.symm hK1
    obtain ⟨hP, hD⟩ := va_join (wr := [(oJ, .inl (cJ, 1, .inr (.inl u2)))]) (w1 := []) hP hD [1] [0] rfl rfl (by decide) (by decide) hk1 hFc hP1 hD1
    generalize H1 = H at hP hS ⊢
    have hP : va_P (dC, dI) vwCl [(oJ, .inl (cJ, 1, .inr (.inl u2)))] _ := hP
    have hD : va_D A [(oJ, .inl (cJ, 1, .inr (.inl u2)))] := hD
    subst hw
    refine lv_iload hx hb dL_law_2178 (lv_at hl 1 rfl) ?_
    refine lv_icmp_eq (tgt := 2185) hx hb dL_law_2180 (by decide) (fun _ => ?_) (fun h9 => absurd (by decide) h9)
    refine lv_iload hx hb dL_law_2185 (lv_at hl 1 rfl) ?_
    refine lv_if_ne (tgt := 2202) hx hb dL_law_2187 (by decide) (fun _ => ?_) (fun h9 => absurd h9 (by decide))
    refine lv_goto (tgt := 2720) hx hb dL_law_2202 (by decide) ?_
    refine lv_iinc (v := 7) (lv' := [(5, .int 7), (7, .int r5), (6, .int 1), (4, .ref oD), (3, .ref oJ), (2, .ref k0), (1, .ref h0), (0, .ref b)]) hx hb dL_law_2720 hl (k := 2) rfl (by decide) (Nat.le_of_ble_eq_true rfl) rfl (fun ls hl => ?_)
    refine lv_goto (tgt := 28) hx hb dL_law_2723 (by decide) ?_
    refine lv_iload hx hb dL_law_28 (lv_at hl 0 rfl) ?_
    refine lv_aload_n hx hb dL_law_30 rfl (lv_at hl 7 rfl) ?_
    refine va_slen hx hb hX9 hbl hbA hS dL_law_31 ?_
    refine W.eq (g2 := F0 m 32 ls [.int 7, .int 7]) rfl ?_
    refine lv_bipush (v := 7) hx hb dL_law_32 (by decide) ?_
    refine lv_isub hx hb dL_law_34 ?_
    refine lv_topi (fun y6 ey6 => ?_)
    obtain rfl : y6 = 0 := ey6.trans (by decide)
    refine lv_icmp_gt (tgt := 2726) hx hb dL_law_35 (by decide) (fun _ => ?_) (fun h9 => absurd (by decide) h9)
    refine lv_iconst (v := 1) hx hb dL_law_2726 (by decide) ?_
    refine va_forget (fun q hq => hAe _ (hS.2.2 q hq)) ?_
    refine W.widen (k := 600006) (n := 7302048) (Nat.le_of_ble_eq_true rfl) (Nat.le_of_ble_eq_true rfl) ?_
    exact W.base (lw_ret (d0 := s.drawn) (Drawn.sameBut.refl _ _) hx hb hr hlk dL_law_2727)

set_option maxHeartbeats 4000000 in
set_option maxRecDepth 100000 in
/-- case 32 of the law: matchedPin, on fresh objects -/
theorem lc_32 {p : Program} {e : Env} {s : State} {m : MethodId} {below : List Frame} {meth : Method} {c : Code} (l : Launch) (hfl : l.stackTraces = false) {b : Nat} {xs : Nat → Int32} (hx : p.tables.exec = Jvm.exec) (hb : c.code = cL_law) (hr : meth.sig.returnType = ret) (hml : c.maxLocals = 9) (hown : s.vm.findClass RL = some m.cls) (hts : ∀ w ∈ wsL_law, w.before #[Value.ref b] s = true) (hlk : meth.locks = false) (A : Nat → Prop) (hAe : ∀ q, A q → s.heap.size ≤ q) (hA : ∀ q : Nat, s.heap.size ≤ q → A q) (hX9 : va_X b 7 xs s s.heap) (hbl : b < s.heap.size) (hN : fN s) (hZ : fZ A s s.heap) (hX : fX s) (dC : Nat → ClassId) (dI : Nat → Nat → Nat) (h0 pr w d on op un wL wK wV wN wS wB dL dK dV dN dS dB ma tm k0 kN kA kO kK kV kG kP kC kD kE kF kX kY kT kU oJ oD : Nat) (cI cJ : ClassId) {H : Heap} {locs : List Loc} {ls : Array Slot} (hK : va_K (dC, dI) vwCl [(cI, .int), (cJ, .long)] s) (hP : va_P (dC, dI) vwCl [(h0, .inr (8, [.ref pr, .ref ma, .ref tm])), (pr, .inr (7, [.ref w, .ref d, .ref on, .ref op, .ref un, .int 0, .int 0])), (w, .inr (3, [.int 0, .int 0, .ref wL, .ref wK, .ref wV, .ref wN, .ref wS, .ref wB, .int 0])), (d, .inr (3, [.int 0, .int 0, .ref dL, .ref dK, .ref dV, .ref dN, .ref dS, .ref dB, .int 0])), (wV, .inl (cI, 10, .inl (fun _ => 0))), (dV, .inl (cI, 10, .inl (fun _ => 0))), (k0, .inr (9, [.ref kN, .ref kA, .ref kO, .ref kK, .ref kV, .ref kG, .ref kP, .ref kC, .ref kD, .ref kE, .ref kF, .ref kX, .ref kY, .int 0, .ref kT, .ref kU, .int 0, .int 0, .int 0])), (kN, .inl (cI, 2, .inl (fun _ => 0))), (kA, .inl (cI, 2, .inl (fun _ => 0))), (oJ, .inl (cJ, 1, .inr (.inl (fun _ => 0))))] H) (hD : va_D A [(h0, .inr (8, [.ref pr, .ref ma, .ref tm])), (pr, .inr (7, [.ref w, .ref d, .ref on, .ref op, .ref un, .int 0, .int 0])), (w, .inr (3, [.int 0, .int 0, .ref wL, .ref wK, .ref wV, .ref wN, .ref wS, .ref wB, .int 0])), (d, .inr (3, [.int 0, .int 0, .ref dL, .ref dK, .ref dV, .ref dN, .ref dS, .ref dB, .int 0])), (wV, .inl (cI, 10, .inl (fun _ => 0))), (dV, .inl (cI, 10, .inl (fun _ => 0))), (k0, .inr (9, [.ref kN, .ref kA, .ref kO, .ref kK, .ref kV, .ref kG, .ref kP, .ref kC, .ref kD, .ref kE, .ref kF, .ref kX, .ref kY, .int 0, .ref kT, .ref kU, .int 0, .int 0, .int 0])), (kN, .inl (cI, 2, .inl (fun _ => 0))), (kA, .inl (cI, 2, .inl (fun _ => 0))), (oJ, .inl (cJ, 1, .inr (.inl (fun _ => 0))))]) (hS : va_S A s.heap H locs) (hl : lv_has ls 9 [(5, .int 0), (4, .ref oD), (3, .ref oJ), (2, .ref k0), (1, .ref h0), (0, .ref b)]) : W p l e room_1 s m #[Value.ref b] below meth c H locs 114 2061 (lw_Z below #[Value.ref b] s) (F0 m 2205 ls []) := by
  have hbA : ¬ A b := fun h => Nat.not_le.mpr hbl (hAe _ h)
  have hX0 := hX
  refine lv_aload_n hx hb dL_law_2205 rfl (lv_at hl 4 rfl) ?_
  refine lv_aload_n hx hb dL_law_2206 rfl (lv_at hl 5 rfl) ?_
  refine lv_iload hx hb dL_law_2207 (lv_at hl 0 rfl) ?_
  refine lv_iconst (v := 1) hx hb dL_law_2209 (by decide) ?_
  refine lv_iadd hx hb dL_law_2210 ?_
  refine lv_topi (fun y1 ey1 => ?_)
  obtain rfl : y1 = 1 := ey1.trans (by decide)
  refine va_sld hx hb hX9 hbl hbA hS (show ¬ (_ ∨ _) by decide) dL_law_2211 ?_
  refine W.eq (g2 := F0 m 2212 ls [.int (xs 1), .ref h0]) rfl ?_
  refine lv_aload_n hx hb dL_law_2212 rfl (lv_at hl 5 rfl) ?_
  refine lv_iload hx hb dL_law_2213 (lv_at hl 0 rfl) ?_
  refine lv_iconst (v := 2) hx hb dL_law_2215 (by decide) ?_
  refine lv_iadd hx hb dL_law_2216 ?_
  refine lv_topi (fun y2 ey2 => ?_)
  obtain rfl : y2 = 2 := ey2.trans (by decide)
  refine va_sld hx hb hX9 hbl hbA hS (show ¬ (_ ∨ _) by decide) dL_law_2217 ?_
  refine W.eq (g2 := F0 m 2218 ls [.int (xs 2), .int (xs 1), .ref h0]) rfl ?_
  refine lv_aload_n hx hb dL_law_2218 rfl (lv_at hl 2 rfl) ?_
  have hPc := hP.sub (ws' := [(h0, .inr (8, [.ref pr, .ref ma, .ref tm])), (pr, .inr (7, [.ref w, .ref d, .ref on, .ref op, .ref un, .int 0, .int 0])), (w, .inr (3, [.int 0, .int 0, .ref wL, .ref wK, .ref wV, .ref wN, .ref wS, .ref wB, .int 0])), (d, .inr (3, [.int 0, .int 0, .ref dL, .ref dK, .ref dV, .ref dN, .ref dS, .ref dB, .int 0])), (wV, .inl (cI, 10, .inl (fun _ => 0))), (dV, .inl (cI, 10, .inl (fun _ => 0))), (oJ, .inl (cJ, 1, .inr (.inl (fun _ => 0))))]) [0, 1, 2, 3, 4, 5, 9] rfl
  have hDc := hD.sub (ws' := [(h0, .inr (8, [.ref pr, .ref ma, .ref tm])), (pr, .inr (7, [.ref w, .ref d, .ref on, .ref op, .ref un, .int 0, .int 0])), (w, .inr (3, [.int 0, .int 0, .ref wL, .ref wK, .ref wV, .ref wN, .ref wS, .ref wB, .int 0])), (d, .inr (3, [.int 0, .int 0, .ref dL, .ref dK, .ref dV, .ref dN, .ref dS, .ref dB, .int 0])), (wV, .inl (cI, 10, .inl (fun _ => 0))), (dV, .inl (cI, 10, .inl (fun _ => 0))), (oJ, .inl (cJ, 1, .inr (.inl (fun _ => 0))))]) [0, 1, 2, 3, 4, 5, 9] (by decide) rfl
  have hKc := hK.sub (tys' := [(cI, .int), (cJ, .long)]) [0, 1] rfl
  have hFc := va_free (wc := [(h0, .inr (8, [.ref pr, .ref ma, .ref tm])), (pr, .inr (7, [.ref w, .ref d, .ref on, .ref op, .ref un, .int 0, .int 0])), (w, .inr (3, [.int 0, .int 0, .ref wL, .ref wK, .ref wV, .ref wN, .ref wS, .ref wB, .int 0])), (d, .inr (3, [.int 0, .int 0, .ref dL, .ref dK, .ref dV, .ref dN, .ref dS, .ref dB, .int 0])), (wV, .inl (cI, 10, .inl (fun _ => 0))), (dV, .inl (cI, 10, .inl (fun _ => 0))), (oJ, .inl (cJ, 1, .inr (.inl (fun _ => 0))))]) hD hS hA [0, 1, 2, 3, 4, 5, 9] rfl
  refine vx_calli (vx_runSX (As := [.ref h0, .int (xs 1), .int (xs 2), .ref oJ]) (rest := []) ⟨hx, hb, hml, hown, hts⟩ (kL_matchedPin l hfl dC dI h0 pr ma tm w d on op un wL wK wV wN wS wB dL dK dV dN dS dB cI oJ cJ (xs 1) (xs 2) H.size) (vx_cwSW 4 hts gL_law_L_matchedPin rfl rfl rfl (by decide +kernel) ⟨Nat.le_of_ble_eq_true rfl, Nat.le_of_ble_eq_true rfl⟩) (gPreS hX hN hZ hS (fun q h => hFc q h) hPc hKc hDc) rfl rfl hl.1 rfl (lv_room (Nat.le_of_ble_eq_true rfl)) dL_law_2219 ⟨Nat.le_of_ble_eq_true rfl, Nat.le_of_ble_eq_true rfl⟩) hS (fun q _ h => hFc q h) hFc (fun q _ h => hFc q h) (fun E ce q9 u t H locs ht hvm hpx hE hz1 hk1 hS hq9 hv9 hc9 => ?_) (fun r u t H1 locs ht hvm hw hB hz1 hk1 hS => ?_)
  · skip
    exact hE.elim
  · skip
    obtain ⟨hP1, hK1, hD1⟩ := hB
    rw [ht] at hP1
    have hK1 := va_K.moved hvm.symm hK1
    obtain ⟨u3, rfl⟩ : ∃ z, z = u := ⟨_, rfl⟩
    obtain ⟨hP, hD⟩ := va_join (wr := [(k0, .inr (9, [.ref kN, .ref kA, .ref kO, .ref kK, .ref kV, .ref kG, .ref kP, .ref kC, .ref kD, .ref kE, .ref kF, .ref kX, .ref kY, .int 0, .ref kT, .ref kU, .int 0, .int 0, .int 0])), (kN, .inl (cI, 2, .inl (fun _ => 0))), (kA, .inl (cI, 2, .inl (fun _ => 0)))]) (w1 := [(oJ, .inl (cJ, 1, .inr (.inl u3)))]) hP hD [0, 1, 2, 3, 4, 5, 9] [6, 7, 8] rfl rfl (by decide) (by decide) hk1 hFc hP1 hD1
    generalize H1 = H at hP hS ⊢
    have hP : va_P (dC, dI) vwCl [(k0, .inr (9, [.ref kN, .ref kA, .ref kO, .ref kK, .ref kV, .ref kG, .ref kP, .ref kC, .ref kD, .ref kE, .ref kF, .ref kX, .ref kY, .int 0, .ref kT, .ref kU, .int 0, .int 0, .int 0])), (kN, .inl (cI, 2, .inl (fun _ => 0))), (kA, .inl (cI, 2, .inl (fun _ => 0))), (oJ, .inl (cJ, 1, .inr (.inl u3)))] _ := hP
    have hD : va_D A [(k0, .inr (9, [.ref kN, .ref kA, .ref kO, .ref kK, .ref kV, .ref kG, .ref kP, .ref kC, .ref kD, .ref kE, .ref kF, .ref kX, .ref kY, .int 0, .ref kT, .ref kU, .int 0, .int 0, .int 0])), (kN, .inl (cI, 2, .inl (fun _ => 0))), (kA, .inl (cI, 2, .inl (fun _ => 0))), (oJ, .inl (cJ, 1, .inr (.inl u3)))] := hD
    refine W.widen (k := 116) (n := 2073) (Nat.le_of_ble_eq_true rfl) (Nat.le_of_ble_eq_true rfl) ?_
    subst hw
    refine lv_istore (lv' := [(6, .int 1), (5, .int 0), (4, .ref oD), (3, .ref oJ), (2, .ref k0), (1, .ref h0), (0, .ref b)]) hx hb dL_law_2222 hl (Nat.le_of_ble_eq_true rfl) rfl (fun ls hl => ?_)
    refine lv_aload_n hx hb dL_law_2224 rfl (lv_at hl 4 rfl) ?_
    refine lv_aload_n hx hb dL_law_2225 rfl (lv_at hl 6 rfl) ?_
    refine lv_iload hx hb dL_law_2226 (lv_at hl 1 rfl) ?_
    refine lv_iconst (v := 1) hx hb dL_law_2228 (by decide) ?_
    refine lv_iadd hx hb dL_law_2229 ?_
    refine lv_topi (fun y4 ey4 => ?_)
    obtain rfl : y4 = 1 := ey4.trans (by decide)
    refine va_sld hx hb hX9 hbl hbA hS (show ¬ (_ ∨ _) by decide) dL_law_2230 ?_
    refine W.eq (g2 := F0 m 2231 ls [.int (xs 1), .ref k0]) rfl ?_
    refine lv_aload_n hx hb dL_law_2231 rfl (lv_at hl 6 rfl) ?_
    refine lv_iload hx hb dL_law_2232 (lv_at hl 1 rfl) ?_
    refine lv_iconst (v := 2) hx hb dL_law_2234 (by decide) ?_
    refine lv_iadd hx hb dL_law_2235 ?_
    refine lv_topi (fun y5 ey5 => ?_)
    obtain rfl : y5 = 2 := ey5.trans (by decide)
    refine va_sld hx hb hX9 hbl hbA hS (show ¬ (_ ∨ _) by decide) dL_law_2236 ?_
    refine W.eq (g2 := F0 m 2237 ls [.int (xs 2), .int (xs 1), .ref k0]) rfl ?_
    have hPc := hP.sub (ws' := [(k0, .inr (9, [.ref kN, .ref kA, .ref kO, .ref kK, .ref kV, .ref kG, .ref kP, .ref kC, .ref kD, .ref kE, .ref kF, .ref kX, .ref kY, .int 0, .ref kT, .ref kU, .int 0, .int 0, .int 0])), (kN, .inl (cI, 2, .inl (fun _ => 0))), (kA, .inl (cI, 2, .inl (fun _ => 0)))]) [0, 1, 2] rfl
    have hDc := hD.sub (ws' := [(k0, .inr (9, [.ref kN, .ref kA, .ref kO, .ref kK, .ref kV, .ref kG, .ref kP, .ref kC, .ref kD, .ref kE, .ref kF, .ref kX, .ref kY, .int 0, .ref kT, .ref kU, .int 0, .int 0, .int 0])), (kN, .inl (cI, 2, .inl (fun _ => 0))), (kA, .inl (cI, 2, .inl (fun _ => 0)))]) [0, 1, 2] (by decide) rfl
    have hKc := hK.sub (tys' := [(cI, .int)]) [0] rfl
    have hFc := va_free (wc := [(k0, .inr (9, [.ref kN, .ref kA, .ref kO, .ref kK, .ref kV, .ref kG, .ref kP, .ref kC, .ref kD, .ref kE, .ref kF, .ref kX, .ref kY, .int 0, .ref kT, .ref kU, .int 0, .int 0, .int 0])), (kN, .inl (cI, 2, .inl (fun _ => 0))), (kA, .inl (cI, 2, .inl (fun _ => 0)))]) hD hS hA [0, 1, 2] rfl
    refine va_calli (va_runV (As := [.int (xs 1), .int (xs 2)]) (rest := []) ⟨hx, hb, hml, hown, hts⟩ (kX6_matchedPin l dC dI k0 kN kA kO kK kV kG kP kC kD kE kF kX kY kT kU cI (xs 1) (xs 2) H.size) (cwV 2 hts gL_law_X6_matchedPin rfl rfl rfl (by decide +kernel) ⟨Nat.le_of_ble_eq_true rfl, Nat.le_of_ble_eq_true rfl⟩) (fPreV hN hZ hS (fun q h => hFc q h) hPc hKc hDc (ci := 9) (q0 := 0) rfl rfl) rfl rfl hl.1 rfl (lv_room (Nat.le_of_ble_eq_true rfl)) dL_law_2237 ⟨Nat.le_of_ble_eq_true rfl, Nat.le_of_ble_eq_true rfl⟩) hS (fun q _ h => hFc q h) hFc (fun r u t H1 locs ht hvm hw hB hz1 hk1 hS => ?_)
    obtain ⟨hP1, hK1, hD1⟩ := hB
    rw [ht] at hP1
    have hK1 := va_K.moved hvm.symm hK1
    obtain ⟨u6, rfl⟩ : ∃ z, z = u := ⟨_, rfl⟩
    obtain ⟨hP, hD⟩ := va_join (wr := [(oJ, .inl (cJ, 1, .inr (.inl u3)))]) (w1 := [(k0, .inr (9, [.ref kN, .ref kA, .ref kO, .ref kK, .ref kV, .ref kG, .ref kP, .ref kC, .ref kD, .ref kE, .ref kF, .ref kX, .ref kY, .int 0, .ref kT, .ref kU, .int u6, .int 0, .int 0]))]) hP hD [0, 1, 2] [3] rfl rfl (by decide) (by decide) hk1 hFc hP1 hD1
    generalize H1 = H at hP hS ⊢
    have hP : va_P (dC, dI) vwCl [(oJ, .inl (cJ, 1, .inr (.inl u3))), (k0, .inr (9, [.ref kN, .ref kA, .ref kO, .ref kK, .ref kV, .ref kG, .ref kP, .ref kC, .ref kD, .ref kE, .ref kF, .ref kX, .ref kY, .int 0, .ref kT, .ref kU, .int u6, .int 0, .int 0]))] _ := hP
    have hD : va_D A [(oJ, .inl (cJ, 1, .inr (.inl u3))), (k0, .inr (9, [.ref kN, .ref kA, .ref kO, .ref kK, .ref kV, .ref kG, .ref kP, .ref kC, .ref kD, .ref kE, .ref kF, .ref kX, .ref kY, .int 0, .ref kT, .ref kU, .int u6, .int 0, .int 0]))] := hD
    obtain ⟨r7, rfl⟩ : ∃ z, z = r := ⟨_, rfl⟩
    subst hw
    have hP : va_P (dC, dI) vwCl [(oJ, .inl (cJ, 1, .inr (.inl u3))), (k0, .inr (9, [.ref kN, .ref kA, .ref kO, .ref kK, .ref kV, .ref kG, .ref kP, .ref kC, .ref kD, .ref kE, .ref kF, .ref kX, .ref kY, .int 0, .ref kT, .ref kU, .int 1, .int 0, .int 0]))] _ := hP
    have hD : va_D A [(oJ, .inl (cJ, 1, .inr (.inl u3))), (k0, .inr (9, [.ref kN, .ref kA, .ref kO, .ref kK, .ref kV, .ref kG, .ref kP, .ref kC, .ref kD, .ref kE, .ref kF, .ref kX, .ref kY, .int 0, .ref kT, .ref kU, .int 1, .int 0, .int 0]))] := hD
    refine lv_istore (lv' := [(7, .int r7), (6, .int 1), (5, .int 0), (4, .ref oD), (3, .ref oJ), (2, .ref k0), (1, .ref h0), (0, .ref b)]) hx hb dL_law_2240 hl (Nat.le_of_ble_eq_true rfl) rfl (fun ls hl => ?_)
    refine lv_aload_n hx hb dL_law_2242 rfl (lv_at hl 5 rfl) ?_
    have hPc := hP.sub (ws' := [(k0, .inr (9, [.ref kN, .ref kA, .ref kO, .ref kK, .ref kV, .ref kG, .ref kP, .ref kC, .ref kD, .ref kE, .ref kF, .ref kX, .ref kY, .int 0, .ref kT, .ref kU, .int 1, .int 0, .int 0]))]) [1] rfl
    have hDc := hD.sub (ws' := [(k0, .inr (9, [.ref kN, .ref kA, .ref kO, .ref kK, .ref kV, .ref kG, .ref kP, .ref kC, .ref kD, .ref kE, .ref kF, .ref kX, .ref kY, .int 0, .ref kT, .ref kU, .int 1, .int 0, .int 0]))]) [1] (by decide) rfl
    have hKc := hK.sub (tys' := []) [] rfl
    have hFc := va_free (wc := [(k0, .inr (9, [.ref kN, .ref kA, .ref kO, .ref kK, .ref kV, .ref kG, .ref kP, .ref kC, .ref kD, .ref kE, .ref kF, .ref kX, .ref kY, .int 0, .ref kT, .ref kU, .int 1, .int 0, .int 0]))]) hD hS hA [1] rfl
    refine va_calli (va_runV (As := []) (rest := []) ⟨hx, hb, hml, hown, hts⟩ (kX6_thrown l dC dI k0 kN kA kO kK kV kG kP kC kD kE kF kX kY kT kU 1 H.size) (cwV 0 hts gL_law_X6_thrown rfl rfl rfl (by decide +kernel) ⟨Nat.le_of_ble_eq_true rfl, Nat.le_of_ble_eq_true rfl⟩) (fPreV hN hZ hS (fun q h => hFc q h) hPc hKc hDc (ci := 9) (q0 := 0) rfl rfl) rfl rfl hl.1 rfl (lv_room (Nat.le_of_ble_eq_true rfl)) dL_law_2243 ⟨Nat.le_of_ble_eq_true rfl, Nat.le_of_ble_eq_true rfl⟩) hS (fun q _ h => hFc q h) hFc (fun r u t H1 locs ht hvm hw hB hz1 hk1 hS => ?_)
    obtain ⟨hP1, hK1, hD1⟩ := hB
    rw [ht] at hP1
    have hK1 := va_K.moved hvm.symm hK1
    obtain ⟨hP, hD⟩ := va_join (wr := [(oJ, .inl (cJ, 1, .inr (.inl u3)))]) (w1 := []) hP hD [1] [0] rfl rfl (by decide) (by decide) hk1 hFc hP1 hD1
    generalize H1 = H at hP hS ⊢
    have hP : va_P (dC, dI) vwCl [(oJ, .inl (cJ, 1, .inr (.inl u3)))] _ := hP
    have hD : va_D A [(oJ, .inl (cJ, 1, .inr (.inl u3)))] := hD
    subst hw
    refine lv_iload hx hb dL_law_2246 (lv_at hl 1 rfl) ?_
    refine lv_icmp_eq (tgt := 2253) hx hb dL_law_2248 (by decide) (fun _ => ?_) (fun h9 => absurd (by decide) h9)
    refine lv_iload hx hb dL_law_2253 (lv_at hl 1 rfl) ?_
    refine lv_if_ne (tgt := 2270) hx hb dL_law_2255 (by decide) (fun _ => ?_) (fun h9 => absurd h9 (by decide))
    refine lv_goto (tgt := 2720) hx hb dL_law_2270 (by decide) ?_
    refine lv_iinc (v := 7) (lv' := [(5, .int 7), (7, .int r7), (6, .int 1), (4, .ref oD), (3, .ref oJ), (2, .ref k0), (1, .ref h0), (0, .ref b)]) hx hb dL_law_2720 hl (k := 2) rfl (by decide) (Nat.le_of_ble_eq_true rfl) rfl (fun ls hl => ?_)
    refine lv_goto (tgt := 28) hx hb dL_law_2723 (by decide) ?_
    refine lv_iload hx hb dL_law_28 (lv_at hl 0 rfl) ?_
    refine lv_aload_n hx hb dL_law_30 rfl (lv_at hl 7 rfl) ?_
    refine va_slen hx hb hX9 hbl hbA hS dL_law_31 ?_
    refine W.eq (g2 := F0 m 32 ls [.int 7, .int 7]) rfl ?_
    refine lv_bipush (v := 7) hx hb dL_law_32 (by decide) ?_
    refine lv_isub hx hb dL_law_34 ?_
    refine lv_topi (fun y8 ey8 => ?_)
    obtain rfl : y8 = 0 := ey8.trans (by decide)
    refine lv_icmp_gt (tgt := 2726) hx hb dL_law_35 (by decide) (fun _ => ?_) (fun h9 => absurd (by decide) h9)
    refine lv_iconst (v := 1) hx hb dL_law_2726 (by decide) ?_
    refine va_forget (fun q hq => hAe _ (hS.2.2 q hq)) ?_
    refine W.widen (k := 600006) (n := 7302048) (Nat.le_of_ble_eq_true rfl) (Nat.le_of_ble_eq_true rfl) ?_
    exact W.base (lw_ret (d0 := s.drawn) (Drawn.sameBut.refl _ _) hx hb hr hlk dL_law_2727)

set_option maxHeartbeats 4000000 in
set_option maxRecDepth 100000 in
/-- case 33 of the law: differences, on fresh objects -/
theorem lc_33 {p : Program} {e : Env} {s : State} {m : MethodId} {below : List Frame} {meth : Method} {c : Code} (l : Launch) (hfl : l.stackTraces = false) {b : Nat} {xs : Nat → Int32} (hx : p.tables.exec = Jvm.exec) (hb : c.code = cL_law) (hr : meth.sig.returnType = ret) (hml : c.maxLocals = 9) (hown : s.vm.findClass RL = some m.cls) (hts : ∀ w ∈ wsL_law, w.before #[Value.ref b] s = true) (hlk : meth.locks = false) (A : Nat → Prop) (hAe : ∀ q, A q → s.heap.size ≤ q) (hA : ∀ q : Nat, s.heap.size ≤ q → A q) (hX9 : va_X b 7 xs s s.heap) (hbl : b < s.heap.size) (hN : fN s) (hZ : fZ A s s.heap) (hX : fX s) (dC : Nat → ClassId) (dI : Nat → Nat → Nat) (h0 pr w d on op un wL wK wV wN wS wB w0 w1 w2 w3 w4 w5 w6 w7 w8 w9 dL dK dV dN dS dB d0 d1 d2 d3 d4 d5 d6 d7 d8 d9 onR onL onC onD opR opL opC opD unK ma tm k0 kN kA kO kK kV kG kP kC kD kE kF kX kY kT kU oJ oD : Nat) (cI cN : ClassId) {H : Heap} {locs : List Loc} {ls : Array Slot} (hK : va_K (dC, dI) vwCl [(cN, .array .int), (cI, .int)] s) (hP : va_P (dC, dI) vwCl [(h0, .inr (8, [.ref pr, .ref ma, .ref tm])), (pr, .inr (7, [.ref w, .ref d, .ref on, .ref op, .ref un, .int 0, .int 0])), (w, .inr (3, [.int 0, .int 0, .ref wL, .ref wK, .ref wV, .ref wN, .ref wS, .ref wB, .int 0])), (d, .inr (3, [.int 0, .int 0, .ref dL, .ref dK, .ref dV, .ref dN, .ref dS, .ref dB, .int 0])), (wV, .inl (cI, 10, .inl (fun _ => 0))), (dV, .inl (cI, 10, .inl (fun _ => 0))), (wS, .inl (cI, 10, .inl (fun _ => 0))), (dS, .inl (cI, 10, .inl (fun _ => 0))), (wN, .inl (cN, 10, .inr (.inr (.inr (.inr (fch w0 w1 w2 w3 w4 w5 w6 w7 w8 w9)))))), (w0, .inl (cI, 3, .inl fM3)), (w1, .inl (cI, 3, .inl fM3)), (w2, .inl (cI, 3, .inl fM3)), (w3, .inl (cI, 3, .inl fM3)), (w4, .inl (cI, 3, .inl fM3)), (w5, .inl (cI, 3, .inl fM3)), (w6, .inl (cI, 3, .inl fM3)), (w7, .inl (cI, 3, .inl fM3)), (w8, .inl (cI, 3, .inl fM3)), (w9, .inl (cI, 3, .inl fM3)), (dN, .inl (cN, 10, .inr (.inr (.inr (.inr (fch d0 d1 d2 d3 d4 d5 d6 d7 d8 d9)))))), (d0, .inl (cI, 3, .inl fM3)), (d1, .inl (cI, 3, .inl fM3)), (d2, .inl (cI, 3, .inl fM3)), (d3, .inl (cI, 3, .inl fM3)), (d4, .inl (cI, 3, .inl fM3)), (d5, .inl (cI, 3, .inl fM3)), (d6, .inl (cI, 3, .inl fM3)), (d7, .inl (cI, 3, .inl fM3)), (d8, .inl (cI, 3, .inl fM3)), (d9, .inl (cI, 3, .inl fM3)), (on, .inr (6, [.ref onR, .ref onL, .ref onC, .ref onD, .int 0])), (onL, .inl (cI, 20, .inl (fun _ => 0))), (onC, .inl (cI, 20, .inl (fun _ => 0))), (op, .inr (6, [.ref opR, .ref opL, .ref opC, .ref opD, .int 0])), (opL, .inl (cI, 20, .inl (fun _ => 0))), (opC, .inl (cI, 20, .inl (fun _ => 0))), (un, .inr (4, [.ref unK, .int 0])), (k0, .inr (9, [.ref kN, .ref kA, .ref kO, .ref kK, .ref kV, .ref kG, .ref kP, .ref kC, .ref kD, .ref kE, .ref kF, .ref kX, .ref kY, .int 0, .ref kT, .ref kU, .int 0, .int 0, .int 0])), (kN, .inl (cI, 2, .inl (fun _ => 0))), (kA, .inl (cI, 2, .inl (fun _ => 0))), (kC, .inl (cI, 20, .inl (fun _ => 0))), (kD, .inl (cI, 20, .inl (fun _ => 0))), (kE, .inl (cI, 20, .inl (fun _ => 0))), (kF, .inl (cI, 20, .inl (fun _ => 0)))] H) (hD : va_D A [(h0, .inr (8, [.ref pr, .ref ma, .ref tm])), (pr, .inr (7, [.ref w, .ref d, .ref on, .ref op, .ref un, .int 0, .int 0])), (w, .inr (3, [.int 0, .int 0, .ref wL, .ref wK, .ref wV, .ref wN, .ref wS, .ref wB, .int 0])), (d, .inr (3, [.int 0, .int 0, .ref dL, .ref dK, .ref dV, .ref dN, .ref dS, .ref dB, .int 0])), (wV, .inl (cI, 10, .inl (fun _ => 0))), (dV, .inl (cI, 10, .inl (fun _ => 0))), (wS, .inl (cI, 10, .inl (fun _ => 0))), (dS, .inl (cI, 10, .inl (fun _ => 0))), (wN, .inl (cN, 10, .inr (.inr (.inr (.inr (fch w0 w1 w2 w3 w4 w5 w6 w7 w8 w9)))))), (w0, .inl (cI, 3, .inl fM3)), (w1, .inl (cI, 3, .inl fM3)), (w2, .inl (cI, 3, .inl fM3)), (w3, .inl (cI, 3, .inl fM3)), (w4, .inl (cI, 3, .inl fM3)), (w5, .inl (cI, 3, .inl fM3)), (w6, .inl (cI, 3, .inl fM3)), (w7, .inl (cI, 3, .inl fM3)), (w8, .inl (cI, 3, .inl fM3)), (w9, .inl (cI, 3, .inl fM3)), (dN, .inl (cN, 10, .inr (.inr (.inr (.inr (fch d0 d1 d2 d3 d4 d5 d6 d7 d8 d9)))))), (d0, .inl (cI, 3, .inl fM3)), (d1, .inl (cI, 3, .inl fM3)), (d2, .inl (cI, 3, .inl fM3)), (d3, .inl (cI, 3, .inl fM3)), (d4, .inl (cI, 3, .inl fM3)), (d5, .inl (cI, 3, .inl fM3)), (d6, .inl (cI, 3, .inl fM3)), (d7, .inl (cI, 3, .inl fM3)), (d8, .inl (cI, 3, .inl fM3)), (d9, .inl (cI, 3, .inl fM3)), (on, .inr (6, [.ref onR, .ref onL, .ref onC, .ref onD, .int 0])), (onL, .inl (cI, 20, .inl (fun _ => 0))), (onC, .inl (cI, 20, .inl (fun _ => 0))), (op, .inr (6, [.ref opR, .ref opL, .ref opC, .ref opD, .int 0])), (opL, .inl (cI, 20, .inl (fun _ => 0))), (opC, .inl (cI, 20, .inl (fun _ => 0))), (un, .inr (4, [.ref unK, .int 0])), (k0, .inr (9, [.ref kN, .ref kA, .ref kO, .ref kK, .ref kV, .ref kG, .ref kP, .ref kC, .ref kD, .ref kE, .ref kF, .ref kX, .ref kY, .int 0, .ref kT, .ref kU, .int 0, .int 0, .int 0])), (kN, .inl (cI, 2, .inl (fun _ => 0))), (kA, .inl (cI, 2, .inl (fun _ => 0))), (kC, .inl (cI, 20, .inl (fun _ => 0))), (kD, .inl (cI, 20, .inl (fun _ => 0))), (kE, .inl (cI, 20, .inl (fun _ => 0))), (kF, .inl (cI, 20, .inl (fun _ => 0)))]) (hS : va_S A s.heap H locs) (hl : lv_has ls 9 [(5, .int 0), (4, .ref oD), (3, .ref oJ), (2, .ref k0), (1, .ref h0), (0, .ref b)]) : W p l e room_1 s m #[Value.ref b] below meth c H locs 114 2061 (lw_Z below #[Value.ref b] s) (F0 m 2273 ls []) := by
  have hbA : ¬ A b := fun h => Nat.not_le.mpr hbl (hAe _ h)
  have hX0 := hX
  refine lv_aload_n hx hb dL_law_2273 rfl (lv_at hl 4 rfl) ?_
  have hPc := hP.sub (ws' := [(h0, .inr (8, [.ref pr, .ref ma, .ref tm])), (pr, .inr (7, [.ref w, .ref d, .ref on, .ref op, .ref un, .int 0, .int 0])), (w, .inr (3, [.int 0, .int 0, .ref wL, .ref wK, .ref wV, .ref wN, .ref wS, .ref wB, .int 0])), (d, .inr (3, [.int 0, .int 0, .ref dL, .ref dK, .ref dV, .ref dN, .ref dS, .ref dB, .int 0])), (wV, .inl (cI, 10, .inl (fun _ => 0))), (dV, .inl (cI, 10, .inl (fun _ => 0))), (wS, .inl (cI, 10, .inl (fun _ => 0))), (dS, .inl (cI, 10, .inl (fun _ => 0))), (wN, .inl (cN, 10, .inr (.inr (.inr (.inr (fch w0 w1 w2 w3 w4 w5 w6 w7 w8 w9)))))), (w0, .inl (cI, 3, .inl fM3)), (w1, .inl (cI, 3, .inl fM3)), (w2, .inl (cI, 3, .inl fM3)), (w3, .inl (cI, 3, .inl fM3)), (w4, .inl (cI, 3, .inl fM3)), (w5, .inl (cI, 3, .inl fM3)), (w6, .inl (cI, 3, .inl fM3)), (w7, .inl (cI, 3, .inl fM3)), (w8, .inl (cI, 3, .inl fM3)), (w9, .inl (cI, 3, .inl fM3)), (dN, .inl (cN, 10, .inr (.inr (.inr (.inr (fch d0 d1 d2 d3 d4 d5 d6 d7 d8 d9)))))), (d0, .inl (cI, 3, .inl fM3)), (d1, .inl (cI, 3, .inl fM3)), (d2, .inl (cI, 3, .inl fM3)), (d3, .inl (cI, 3, .inl fM3)), (d4, .inl (cI, 3, .inl fM3)), (d5, .inl (cI, 3, .inl fM3)), (d6, .inl (cI, 3, .inl fM3)), (d7, .inl (cI, 3, .inl fM3)), (d8, .inl (cI, 3, .inl fM3)), (d9, .inl (cI, 3, .inl fM3)), (on, .inr (6, [.ref onR, .ref onL, .ref onC, .ref onD, .int 0])), (onL, .inl (cI, 20, .inl (fun _ => 0))), (onC, .inl (cI, 20, .inl (fun _ => 0))), (op, .inr (6, [.ref opR, .ref opL, .ref opC, .ref opD, .int 0])), (opL, .inl (cI, 20, .inl (fun _ => 0))), (opC, .inl (cI, 20, .inl (fun _ => 0))), (un, .inr (4, [.ref unK, .int 0]))]) [0, 1, 2, 3, 4, 5, 6, 7, 8, 9, 10, 11, 12, 13, 14, 15, 16, 17, 18, 19, 20, 21, 22, 23, 24, 25, 26, 27, 28, 29, 30, 31, 32, 33, 34, 35, 36] rfl
  have hDc := hD.sub (ws' := [(h0, .inr (8, [.ref pr, .ref ma, .ref tm])), (pr, .inr (7, [.ref w, .ref d, .ref on, .ref op, .ref un, .int 0, .int 0])), (w, .inr (3, [.int 0, .int 0, .ref wL, .ref wK, .ref wV, .ref wN, .ref wS, .ref wB, .int 0])), (d, .inr (3, [.int 0, .int 0, .ref dL, .ref dK, .ref dV, .ref dN, .ref dS, .ref dB, .int 0])), (wV, .inl (cI, 10, .inl (fun _ => 0))), (dV, .inl (cI, 10, .inl (fun _ => 0))), (wS, .inl (cI, 10, .inl (fun _ => 0))), (dS, .inl (cI, 10, .inl (fun _ => 0))), (wN, .inl (cN, 10, .inr (.inr (.inr (.inr (fch w0 w1 w2 w3 w4 w5 w6 w7 w8 w9)))))), (w0, .inl (cI, 3, .inl fM3)), (w1, .inl (cI, 3, .inl fM3)), (w2, .inl (cI, 3, .inl fM3)), (w3, .inl (cI, 3, .inl fM3)), (w4, .inl (cI, 3, .inl fM3)), (w5, .inl (cI, 3, .inl fM3)), (w6, .inl (cI, 3, .inl fM3)), (w7, .inl (cI, 3, .inl fM3)), (w8, .inl (cI, 3, .inl fM3)), (w9, .inl (cI, 3, .inl fM3)), (dN, .inl (cN, 10, .inr (.inr (.inr (.inr (fch d0 d1 d2 d3 d4 d5 d6 d7 d8 d9)))))), (d0, .inl (cI, 3, .inl fM3)), (d1, .inl (cI, 3, .inl fM3)), (d2, .inl (cI, 3, .inl fM3)), (d3, .inl (cI, 3, .inl fM3)), (d4, .inl (cI, 3, .inl fM3)), (d5, .inl (cI, 3, .inl fM3)), (d6, .inl (cI, 3, .inl fM3)), (d7, .inl (cI, 3, .inl fM3)), (d8, .inl (cI, 3, .inl fM3)), (d9, .inl (cI, 3, .inl fM3)), (on, .inr (6, [.ref onR, .ref onL, .ref onC, .ref onD, .int 0])), (onL, .inl (cI, 20, .inl (fun _ => 0))), (onC, .inl (cI, 20, .inl (fun _ => 0))), (op, .inr (6, [.ref opR, .ref opL, .ref opC, .ref opD, .int 0])), (opL, .inl (cI, 20, .inl (fun _ => 0))), (opC, .inl (cI, 20, .inl (fun _ => 0))), (un, .inr (4, [.ref unK, .int 0]))]) [0, 1, 2, 3, 4, 5, 6, 7, 8, 9, 10, 11, 12, 13, 14, 15, 16, 17, 18, 19, 20, 21, 22, 23, 24, 25, 26, 27, 28, 29, 30, 31, 32, 33, 34, 35, 36] (by decide) rfl
  have hKc := hK.sub (tys' := [(cN, .array .int), (cI, .int)]) [0, 1] rfl
  have hFc := va_free (wc := [(h0, .inr (8, [.ref pr, .ref ma, .ref tm])), (pr, .inr (7, [.ref w, .ref d, .ref on, .ref op, .ref un, .int 0, .int 0])), (w, .inr (3, [.int 0, .int 0, .ref wL, .ref wK, .ref wV, .ref wN, .ref wS, .ref wB, .int 0])), (d, .inr (3, [.int 0, .int 0, .ref dL, .ref dK, .ref dV, .ref dN, .ref dS, .ref dB, .int 0])), (wV, .inl (cI, 10, .inl (fun _ => 0))), (dV, .inl (cI, 10, .inl (fun _ => 0))), (wS, .inl (cI, 10, .inl (fun _ => 0))), (dS, .inl (cI, 10, .inl (fun _ => 0))), (wN, .inl (cN, 10, .inr (.inr (.inr (.inr (fch w0 w1 w2 w3 w4 w5 w6 w7 w8 w9)))))), (w0, .inl (cI, 3, .inl fM3)), (w1, .inl (cI, 3, .inl fM3)), (w2, .inl (cI, 3, .inl fM3)), (w3, .inl (cI, 3, .inl fM3)), (w4, .inl (cI, 3, .inl fM3)), (w5, .inl (cI, 3, .inl fM3)), (w6, .inl (cI, 3, .inl fM3)), (w7, .inl (cI, 3, .inl fM3)), (w8, .inl (cI, 3, .inl fM3)), (w9, .inl (cI, 3, .inl fM3)), (dN, .inl (cN, 10, .inr (.inr (.inr (.inr (fch d0 d1 d2 d3 d4 d5 d6 d7 d8 d9)))))), (d0, .inl (cI, 3, .inl fM3)), (d1, .inl (cI, 3, .inl fM3)), (d2, .inl (cI, 3, .inl fM3)), (d3, .inl (cI, 3, .inl fM3)), (d4, .inl (cI, 3, .inl fM3)), (d5, .inl (cI, 3, .inl fM3)), (d6, .inl (cI, 3, .inl fM3)), (d7, .inl (cI, 3, .inl fM3)), (d8, .inl (cI, 3, .inl fM3)), (d9, .inl (cI, 3, .inl fM3)), (on, .inr (6, [.ref onR, .ref onL, .ref onC, .ref onD, .int 0])), (onL, .inl (cI, 20, .inl (fun _ => 0))), (onC, .inl (cI, 20, .inl (fun _ => 0))), (op, .inr (6, [.ref opR, .ref opL, .ref opC, .ref opD, .int 0])), (opL, .inl (cI, 20, .inl (fun _ => 0))), (opC, .inl (cI, 20, .inl (fun _ => 0))), (un, .inr (4, [.ref unK, .int 0]))]) hD hS hA [0, 1, 2, 3, 4, 5, 6, 7, 8, 9, 10, 11, 12, 13, 14, 15, 16, 17, 18, 19, 20, 21, 22, 23, 24, 25, 26, 27, 28, 29, 30, 31, 32, 33, 34, 35, 36] rfl
  refine va_calli (va_runV (As := []) (rest := []) ⟨hx, hb, hml, hown, hts⟩ (kX5_differences l dC dI h0 ma tm pr w d on op un wL wK wV wN wS wB dL dK dV dN dS dB w0 w1 w2 w3 w4 w5 w6 w7 w8 w9 d0 d1 d2 d3 d4 d5 d6 d7 d8 d9 onR onL onC onD opR opL opC opD unK cI cN (fun _ => 0) (fun _ => 0) (fun _ => 0) (fun _ => 0) H.size) (cwV 0 hts gL_law_X5_differences rfl rfl rfl (by decide +kernel) ⟨Nat.le_of_ble_eq_true rfl, Nat.le_of_ble_eq_true rfl⟩) (fPreV hN hZ hS (fun q h => hFc q h) hPc hKc hDc (ci := 8) (q0 := 0) rfl rfl) rfl rfl hl.1 rfl (lv_room (Nat.le_of_ble_eq_true rfl)) dL_law_2274 ⟨Nat.le_of_ble_eq_true rfl, Nat.le_of_ble_eq_true rfl⟩) hS (fun q _ h => hFc q h) hFc (fun r u t H1 locs ht hvm hw hB hz1 hk1 hS => ?_)
  obtain ⟨hP1, hK1, hD1⟩ := hB
  rw [ht] at hP1
  have hK1 := va_K.moved hvm.symm hK1
  obtain ⟨hP, hD⟩ := va_join (wr := [(k0, .inr (9, [.ref kN, .ref kA, .ref kO, .ref kK, .ref kV, .ref kG, .ref kP, .ref kC, .ref kD, .ref kE, .ref kF, .ref kX, .ref kY, .int 0, .ref kT, .ref kU, .int 0, .int 0, .int 0])), (kN, .inl (cI, 2, .inl (fun _ => 0))), (kA, .inl (cI, 2, .inl (fun _ => 0))), (kC, .inl (cI, 20, .inl (fun _ => 0))), (kD, .inl (cI, 20, .inl (fun _ => 0))), (kE, .inl (cI, 20, .inl (fun _ => 0))), (kF, .inl (cI, 20, .inl (fun _ => 0)))]) (w1 := []) hP hD [0, 1, 2, 3, 4, 5, 6, 7, 8, 9, 10, 11, 12, 13, 14, 15, 16, 17, 18, 19, 20, 21, 22, 23, 24, 25, 26, 27, 28, 29, 30, 31, 32, 33, 34, 35, 36] [37, 38, 39, 40, 41, 42, 43] rfl rfl (by decide) (by decide) hk1 hFc hP1 hD1
  generalize H1 = H at hP hS ⊢
  have hP : va_P (dC, dI) vwCl [(k0, .inr (9, [.ref kN, .ref kA, .ref kO, .ref kK, .ref kV, .ref kG, .ref kP, .ref kC, .ref kD, .ref kE, .ref kF, .ref kX, .ref kY, .int 0, .ref kT, .ref kU, .int 0, .int 0, .int 0])), (kN, .inl (cI, 2, .inl (fun _ => 0))), (kA, .inl (cI, 2, .inl (fun _ => 0))), (kC, .inl (cI, 20, .inl (fun _ => 0))), (kD, .inl (cI, 20, .inl (fun _ => 0))), (kE, .inl (cI, 20, .inl (fun _ => 0))), (kF, .inl (cI, 20, .inl (fun _ => 0)))] _ := hP
  have hD : va_D A [(k0, .inr (9, [.ref kN, .ref kA, .ref kO, .ref kK, .ref kV, .ref kG, .ref kP, .ref kC, .ref kD, .ref kE, .ref kF, .ref kX, .ref kY, .int 0, .ref kT, .ref kU, .int 0, .int 0, .int 0])), (kN, .inl (cI, 2, .inl (fun _ => 0))), (kA, .inl (cI, 2, .inl (fun _ => 0))), (kC, .inl (cI, 20, .inl (fun _ => 0))), (kD, .inl (cI, 20, .inl (fun _ => 0))), (kE, .inl (cI, 20, .inl (fun _ => 0))), (kF, .inl (cI, 20, .inl (fun _ => 0)))] := hD
  subst hw
  refine lv_aload_n hx hb dL_law_2277 rfl (lv_at hl 3 rfl) ?_
  have hPc := hP.sub (ws' := [(k0, .inr (9, [.ref kN, .ref kA, .ref kO, .ref kK, .ref kV, .ref kG, .ref kP, .ref kC, .ref kD, .ref kE, .ref kF, .ref kX, .ref kY, .int 0, .ref kT, .ref kU, .int 0, .int 0, .int 0])), (kN, .inl (cI, 2, .inl (fun _ => 0))), (kA, .inl (cI, 2, .inl (fun _ => 0))), (kC, .inl (cI, 20, .inl (fun _ => 0))), (kD, .inl (cI, 20, .inl (fun _ => 0))), (kE, .inl (cI, 20, .inl (fun _ => 0))), (kF, .inl (cI, 20, .inl (fun _ => 0)))]) [0, 1, 2, 3, 4, 5, 6] rfl
  have hDc := hD.sub (ws' := [(k0, .inr (9, [.ref kN, .ref kA, .ref kO, .ref kK, .ref kV, .ref kG, .ref kP, .ref kC, .ref kD, .ref kE, .ref kF, .ref kX, .ref kY, .int 0, .ref kT, .ref kU, .int 0, .int 0, .int 0])), (kN, .inl (cI, 2, .inl (fun _ => 0))), (kA, .inl (cI, 2, .inl (fun _ => 0))), (kC, .inl (cI, 20, .inl (fun _ => 0))), (kD, .inl (cI, 20, .inl (fun _ => 0))), (kE, .inl (cI, 20, .inl (fun _ => 0))), (kF, .inl (cI, 20, .inl (fun _ => 0)))]) [0, 1, 2, 3, 4, 5, 6] (by decide) rfl
  have hKc := hK.sub (tys' := [(cI, .int)]) [1] rfl
  have hFc := va_free (wc := [(k0, .inr (9, [.ref kN, .ref kA, .ref kO, .ref kK, .ref kV, .ref kG, .ref kP, .ref kC, .ref kD, .ref kE, .ref kF, .ref kX, .ref kY, .int 0, .ref kT, .ref kU, .int 0, .int 0, .int 0])), (kN, .inl (cI, 2, .inl (fun _ => 0))), (kA, .inl (cI, 2, .inl (fun _ => 0))), (kC, .inl (cI, 20, .inl (fun _ => 0))), (kD, .inl (cI, 20, .inl (fun _ => 0))), (kE, .inl (cI, 20, .inl (fun _ => 0))), (kF, .inl (cI, 20, .inl (fun _ => 0)))]) hD hS hA [0, 1, 2, 3, 4, 5, 6] rfl
  refine va_calli (va_runV (As := []) (rest := [.int 0]) ⟨hx, hb, hml, hown, hts⟩ (kX6_differences l dC dI k0 kN kA kO kK kV kG kP kC kD kE kF kX kY kT kU cI (fun _ => 0) (fun _ => 0) (fun _ => 0) (fun _ => 0) H.size) (cwV 0 hts gL_law_X6_differences rfl rfl rfl (by decide +kernel) ⟨Nat.le_of_ble_eq_true rfl, Nat.le_of_ble_eq_true rfl⟩) (fPreV hN hZ hS (fun q h => hFc q h) hPc hKc hDc (ci := 9) (q0 := 0) rfl rfl) rfl rfl hl.1 rfl (lv_room (Nat.le_of_ble_eq_true rfl)) dL_law_2278 ⟨Nat.le_of_ble_eq_true rfl, Nat.le_of_ble_eq_true rfl⟩) hS (fun q _ h => hFc q h) hFc (fun r u t H1 locs ht hvm hw hB hz1 hk1 hS => ?_)
  obtain ⟨hP1, hK1, hD1⟩ := hB
  rw [ht] at hP1
  have hK1 := va_K.moved hvm.symm hK1
  obtain ⟨u1, rfl⟩ : ∃ z, z = u := ⟨_, rfl⟩
  obtain ⟨hP, hD⟩ := va_join (wr := []) (w1 := [(k0, .inr (9, [.ref kN, .ref kA, .ref kO, .ref kK, .ref kV, .ref kG, .ref kP, .ref kC, .ref kD, .ref kE, .ref kF, .ref kX, .ref kY, .int 0, .ref kT, .ref kU, .int u1, .int 0, .int 0]))]) hP hD [0, 1, 2, 3, 4, 5, 6] [] rfl rfl (by decide) (by decide) hk1 hFc hP1 hD1
  generalize H1 = H at hP hS ⊢
  have hP : va_P (dC, dI) vwCl [(k0, .inr (9, [.ref kN, .ref kA, .ref kO, .ref kK, .ref kV, .ref kG, .ref kP, .ref kC, .ref kD, .ref kE, .ref kF, .ref kX, .ref kY, .int 0, .ref kT, .ref kU, .int u1, .int 0, .int 0]))] _ := hP
  have hD : va_D A [(k0, .inr (9, [.ref kN, .ref kA, .ref kO, .ref kK, .ref kV, .ref kG, .ref kP, .ref kC, .ref kD, .ref kE, .ref kF, .ref kX, .ref kY, .int 0, .ref kT, .ref kU, .int u1, .int 0, .int 0]))] := hD
  refine W.widen (k := 116) (n := 2101) (Nat.le_of_ble_eq_true rfl) (Nat.le_of_ble_eq_true rfl) ?_
  obtain ⟨r2, rfl⟩ : ∃ z, z = r := ⟨_, rfl⟩
  obtain ⟨rfl, rfl⟩ := hw
  have hP : va_P (dC, dI) vwCl [(k0, .inr (9, [.ref kN, .ref kA, .ref kO, .ref kK, .ref kV, .ref kG, .ref kP, .ref kC, .ref kD, .ref kE, .ref kF, .ref kX, .ref kY, .int 0, .ref kT, .ref kU, .int 0, .int 0, .int 0]))] _ := hP
  have hD : va_D A [(k0, .inr (9, [.ref kN, .ref kA, .ref kO, .ref kK, .ref kV, .ref kG, .ref kP, .ref kC, .ref kD, .ref kE, .ref kF, .ref kX, .ref kY, .int 0, .ref kT, .ref kU, .int 0, .int 0, .int 0]))] := hD
  refine lv_icmp_eq (tgt := 2720) hx hb dL_law_2281 (by decide) (fun _ => ?_) (fun h9 => absurd (by decide) h9)
  refine lv_iinc (v := 7) (lv' := [(5, .int 7), (4, .ref oD), (3, .ref oJ), (2, .ref k0), (1, .ref h0), (0, .ref b)]) hx hb dL_law_2720 hl (k := 0) rfl (by decide) (Nat.le_of_ble_eq_true rfl) rfl (fun ls hl => ?_)
  refine lv_goto (tgt := 28) hx hb dL_law_2723 (by decide) ?_
  refine lv_iload hx hb dL_law_28 (lv_at hl 0 rfl) ?_
  refine lv_aload_n hx hb dL_law_30 rfl (lv_at hl 5 rfl) ?_
  refine va_slen hx hb hX9 hbl hbA hS dL_law_31 ?_
  refine W.eq (g2 := F0 m 32 ls [.int 7, .int 7]) rfl ?_
  refine lv_bipush (v := 7) hx hb dL_law_32 (by decide) ?_
  refine lv_isub hx hb dL_law_34 ?_
  refine lv_topi (fun y3 ey3 => ?_)
  obtain rfl : y3 = 0 := ey3.trans (by decide)
  refine lv_icmp_gt (tgt := 2726) hx hb dL_law_35 (by decide) (fun _ => ?_) (fun h9 => absurd (by decide) h9)
  refine lv_iconst (v := 1) hx hb dL_law_2726 (by decide) ?_
  refine va_forget (fun q hq => hAe _ (hS.2.2 q hq)) ?_
  refine W.widen (k := 600006) (n := 7302048) (Nat.le_of_ble_eq_true rfl) (Nat.le_of_ble_eq_true rfl) ?_
  exact W.base (lw_ret (d0 := s.drawn) (Drawn.sameBut.refl _ _) hx hb hr hlk dL_law_2727)
