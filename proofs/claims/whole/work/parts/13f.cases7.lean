set_option maxRecDepth 20000 in
theorem gk_L_differenceKind_r1 : GoodIn wsL_law wsL_differenceKind_r1 := goodIn_r _ [270, 1221, 1222, 1223, 2, 1224, 26, 1225, 1226, 1227, 1228, 281, 282, 844, 845, 846, 847, 129, 17, 18, 22, 553, 554, 555] (by decide +kernel) (by decide +kernel)
set_option maxRecDepth 20000 in
theorem gk_L_differenceKind_r2 : GoodIn wsL_law wsL_differenceKind_r2 := goodIn_r _ [16, 556, 136, 41, 37, 227, 39, 228, 229, 230, 43, 231, 201, 557, 558, 559, 560, 426, 413, 414, 415, 561, 562, 563] (by decide +kernel) (by decide +kernel)
set_option maxRecDepth 20000 in
theorem gk_L_differenceKind_r3 : GoodIn wsL_law wsL_differenceKind_r3 := goodIn_r _ [564, 848, 849, 850, 21, 851, 852, 853, 854, 855, 856, 57, 58, 59, 60, 857, 858, 859, 56, 860, 67, 861, 862, 863] (by decide +kernel) (by decide +kernel)
set_option maxRecDepth 20000 in
theorem gk_L_differenceKind_r4 : GoodIn wsL_law wsL_differenceKind_r4 := goodIn_r _ [864, 865, 866, 867, 868, 869, 870, 66, 871, 362, 363, 364, 365, 366, 367, 368, 202, 48, 872, 873, 874, 875, 876, 877] (by decide +kernel) (by decide +kernel)
set_option maxRecDepth 20000 in
theorem gk_L_differenceKind_r5 : GoodIn wsL_law wsL_differenceKind_r5 := goodIn_r _ [878, 68, 879, 880, 881, 882, 883, 884, 885, 886, 887, 888, 889, 890, 891, 892, 893, 894, 895, 896, 897, 898, 899, 900] (by decide +kernel) (by decide +kernel)
set_option maxRecDepth 20000 in
theorem gk_L_differenceKind_r6 : GoodIn wsL_law wsL_differenceKind_r6 := goodIn_r _ [901, 902, 903, 904, 905, 25, 906, 907, 908, 909, 910, 911, 912, 913, 914, 915, 916, 917, 918, 919, 920, 921, 922, 923] (by decide +kernel) (by decide +kernel)
set_option maxRecDepth 20000 in
theorem gk_L_differenceKind_r7 : GoodIn wsL_law wsL_differenceKind_r7 := goodIn_r _ [69, 924, 925, 926, 927, 928, 74, 1229, 1230, 1231, 1232] (by decide +kernel) (by decide +kernel)
set_option maxRecDepth 20000 in
theorem ggL_law_L_differenceKind : GoodIn wsL_law wsL_differenceKind := goodIn_ca (goodIn_ca (goodIn_c1 (goodIn_r _ [1220] (by decide +kernel) (by decide +kernel)) (goodIn_app (goodIn_app (goodIn_app (goodIn_app (goodIn_app (goodIn_app (goodIn_app gk_L_differenceKind_r1 (goodIn_app gk_L_differenceKind_r2 (goodIn_app gk_L_differenceKind_r3 (goodIn_app gk_L_differenceKind_r4 (goodIn_app gk_L_differenceKind_r5 (goodIn_app gk_L_differenceKind_r6 gk_L_differenceKind_r7)))))) (goodIn_sub inlX6 (by decide +kernel))) (goodIn_sub inlX2 (by decide +kernel))) (goodIn_sub inlX0 (by decide +kernel))) (goodIn_sub inlX5 (by decide +kernel))) (goodIn_sub inlX1 (by decide +kernel))) (goodIn_sub inlX4 (by decide +kernel)))) (goodIn_sub (fun _ h => List.mem_append_left _ (List.mem_append_left _ (List.mem_append_left _ (List.mem_append_left _ (List.mem_append_left _ (List.mem_append_left _ (List.mem_append_left _ (List.mem_append_right _ h)))))))) (by decide +kernel))) (goodIn_sub (fun _ h => List.mem_append_left _ (List.mem_append_left _ (List.mem_append_right _ h))) (by decide +kernel))
set_option maxRecDepth 20000 in
theorem gL_law_L_differenceKind : GoodIn wsL_law (va_wsS RL 265 yL_differenceKind wsL_differenceKind) := goodIn_app (goodIn_of _ (by decide +kernel)) ggL_law_L_differenceKind
set_option maxRecDepth 20000 in
theorem gk_X7_differenceKind_r1 : GoodIn wsL_law wsX7_differenceKind_r1 := goodIn_r _ [1237, 1238, 1239, 1240, 5, 1241, 141, 96, 97, 1242, 934, 935, 936, 937, 90, 91, 92, 933, 98, 99, 938, 939, 940, 941] (by decide +kernel) (by decide +kernel)
set_option maxRecDepth 20000 in
theorem gk_X7_differenceKind_r2 : GoodIn wsL_law wsX7_differenceKind_r2 := goodIn_r _ [244, 245, 246, 247, 89, 94, 176, 177, 178, 179, 180, 181, 182, 88, 401, 402, 403, 404, 287, 288, 289, 290, 291, 292] (by decide +kernel) (by decide +kernel)
set_option maxRecDepth 20000 in
theorem gk_X7_differenceKind_r3 : GoodIn wsL_law wsX7_differenceKind_r3 := goodIn_r _ [293, 294, 295, 296, 297, 95, 942, 943, 944, 945, 946, 658, 659, 947, 948, 949, 950, 951, 433, 417, 414, 418, 952, 953] (by decide +kernel) (by decide +kernel)
set_option maxRecDepth 20000 in
theorem gk_X7_differenceKind_r4 : GoodIn wsL_law wsX7_differenceKind_r4 := goodIn_r _ [954, 955, 956, 957, 958, 959, 960, 961, 962, 100, 101, 963, 964, 965, 966, 967, 968, 969, 970, 971, 972, 973, 974, 975] (by decide +kernel) (by decide +kernel)
set_option maxRecDepth 20000 in
theorem gk_X7_differenceKind_r5 : GoodIn wsL_law wsX7_differenceKind_r5 := goodIn_r _ [976, 977, 978, 979, 980, 1203, 1204, 1205, 1206, 1207, 1208, 1209, 1210, 1010, 1011, 1012, 1211, 1212, 1213, 1214, 432, 413, 415, 569] (by decide +kernel) (by decide +kernel)
set_option maxRecDepth 20000 in
theorem gk_X7_differenceKind_r6 : GoodIn wsL_law wsX7_differenceKind_r6 := goodIn_r _ [570, 571, 572, 40, 573, 574, 575, 576, 1215, 1216, 1217] (by decide +kernel) (by decide +kernel)
set_option maxRecDepth 20000 in
theorem ggL_law_X7_differenceKind : GoodIn wsL_law wsX7_differenceKind := goodIn_ca (goodIn_c1 (goodIn_r _ [1236] (by decide +kernel) (by decide +kernel)) (goodIn_app (goodIn_app gk_X7_differenceKind_r1 (goodIn_app gk_X7_differenceKind_r2 (goodIn_app gk_X7_differenceKind_r3 (goodIn_app gk_X7_differenceKind_r4 (goodIn_app gk_X7_differenceKind_r5 gk_X7_differenceKind_r6))))) (goodIn_sub inlX7 (by decide +kernel)))) (goodIn_sub (fun _ h => List.mem_append_left _ (List.mem_append_left _ (List.mem_append_left _ (List.mem_append_left _ (List.mem_append_left _ (List.mem_append_left _ (List.mem_append_left _ (List.mem_append_right _ h)))))))) (by decide +kernel))
set_option maxRecDepth 20000 in
theorem gL_law_X7_differenceKind : GoodIn wsL_law (wsV RL 267 RX7 yX7_differenceKind wsX7_differenceKind) := goodIn_app (goodIn_of _ (by decide +kernel)) ggL_law_X7_differenceKind
set_option maxRecDepth 20000 in
theorem gk_L_differenceMember_r1 : GoodIn wsL_law wsL_differenceMember_r1 := goodIn_r _ [270, 1246, 1247, 1248, 2, 1249, 26, 1225, 1226, 1227, 1228, 281, 282, 844, 845, 846, 847, 129, 17, 18, 22, 553, 554, 555] (by decide +kernel) (by decide +kernel)
set_option maxRecDepth 20000 in
theorem gk_L_differenceMember_r2 : GoodIn wsL_law wsL_differenceMember_r2 := goodIn_r _ [16, 556, 136, 41, 37, 227, 39, 228, 229, 230, 43, 231, 201, 557, 558, 559, 560, 426, 413, 414, 415, 561, 562, 563] (by decide +kernel) (by decide +kernel)
set_option maxRecDepth 20000 in
theorem gk_L_differenceMember_r3 : GoodIn wsL_law wsL_differenceMember_r3 := goodIn_r _ [564, 848, 849, 850, 21, 851, 852, 853, 854, 855, 856, 57, 58, 59, 60, 857, 858, 859, 56, 860, 67, 861, 862, 863] (by decide +kernel) (by decide +kernel)
set_option maxRecDepth 20000 in
theorem gk_L_differenceMember_r4 : GoodIn wsL_law wsL_differenceMember_r4 := goodIn_r _ [864, 865, 866, 867, 868, 869, 870, 66, 871, 362, 363, 364, 365, 366, 367, 368, 202, 48, 872, 873, 874, 875, 876, 877] (by decide +kernel) (by decide +kernel)
set_option maxRecDepth 20000 in
theorem gk_L_differenceMember_r5 : GoodIn wsL_law wsL_differenceMember_r5 := goodIn_r _ [878, 68, 879, 880, 881, 882, 883, 884, 885, 886, 887, 888, 889, 890, 891, 892, 893, 894, 895, 896, 897, 898, 899, 900] (by decide +kernel) (by decide +kernel)
set_option maxRecDepth 20000 in
theorem gk_L_differenceMember_r6 : GoodIn wsL_law wsL_differenceMember_r6 := goodIn_r _ [901, 902, 903, 904, 905, 25, 906, 907, 908, 909, 910, 911, 912, 913, 914, 915, 916, 917, 918, 919, 920, 921, 922, 923] (by decide +kernel) (by decide +kernel)
set_option maxRecDepth 20000 in
theorem gk_L_differenceMember_r7 : GoodIn wsL_law wsL_differenceMember_r7 := goodIn_r _ [69, 924, 925, 926, 927, 928, 74, 1250, 1251, 1252, 1253] (by decide +kernel) (by decide +kernel)
set_option maxRecDepth 20000 in
theorem ggL_law_L_differenceMember : GoodIn wsL_law wsL_differenceMember := goodIn_ca (goodIn_ca (goodIn_c1 (goodIn_r _ [1245] (by decide +kernel) (by decide +kernel)) (goodIn_app (goodIn_app (goodIn_app (goodIn_app (goodIn_app (goodIn_app (goodIn_app gk_L_differenceMember_r1 (goodIn_app gk_L_differenceMember_r2 (goodIn_app gk_L_differenceMember_r3 (goodIn_app gk_L_differenceMember_r4 (goodIn_app gk_L_differenceMember_r5 (goodIn_app gk_L_differenceMember_r6 gk_L_differenceMember_r7)))))) (goodIn_sub inlX6 (by decide +kernel))) (goodIn_sub inlX2 (by decide +kernel))) (goodIn_sub inlX0 (by decide +kernel))) (goodIn_sub inlX5 (by decide +kernel))) (goodIn_sub inlX1 (by decide +kernel))) (goodIn_sub inlX4 (by decide +kernel)))) (goodIn_sub (fun _ h => List.mem_append_left _ (List.mem_append_left _ (List.mem_append_left _ (List.mem_append_left _ (List.mem_append_left _ (List.mem_append_left _ (List.mem_append_left _ (List.mem_append_right _ h)))))))) (by decide +kernel))) (goodIn_sub (fun _ h => List.mem_append_left _ (List.mem_append_left _ (List.mem_append_right _ h))) (by decide +kernel))
set_option maxRecDepth 20000 in
theorem gL_law_L_differenceMember : GoodIn wsL_law (va_wsS RL 268 yL_differenceMember wsL_differenceMember) := goodIn_app (goodIn_of _ (by decide +kernel)) ggL_law_L_differenceMember
set_option maxRecDepth 20000 in
theorem gk_X7_differenceMember_r1 : GoodIn wsL_law wsX7_differenceMember_r1 := goodIn_r _ [1237, 97, 96, 1242, 1238, 1239, 1240, 5, 1241, 141, 934, 935, 936, 937, 90, 91, 92, 933, 98, 99, 938, 939, 940, 941] (by decide +kernel) (by decide +kernel)
set_option maxRecDepth 20000 in
theorem gk_X7_differenceMember_r2 : GoodIn wsL_law wsX7_differenceMember_r2 := goodIn_r _ [244, 245, 246, 247, 89, 94, 176, 177, 178, 179, 180, 181, 182, 88, 401, 402, 403, 404, 287, 288, 289, 290, 291, 292] (by decide +kernel) (by decide +kernel)
set_option maxRecDepth 20000 in
theorem gk_X7_differenceMember_r3 : GoodIn wsL_law wsX7_differenceMember_r3 := goodIn_r _ [293, 294, 295, 296, 297, 95, 942, 943, 944, 945, 946, 658, 659, 947, 948, 949, 950, 951, 433, 417, 414, 418, 952, 953] (by decide +kernel) (by decide +kernel)
set_option maxRecDepth 20000 in
theorem gk_X7_differenceMember_r4 : GoodIn wsL_law wsX7_differenceMember_r4 := goodIn_r _ [954, 955, 956, 957, 958, 959, 960, 961, 962, 100, 101, 963, 964, 965, 966, 967, 968, 969, 970, 971, 972, 973, 974, 975] (by decide +kernel) (by decide +kernel)
set_option maxRecDepth 20000 in
theorem gk_X7_differenceMember_r5 : GoodIn wsL_law wsX7_differenceMember_r5 := goodIn_r _ [976, 977, 978, 979, 980, 1203, 1204, 1205, 1206, 1207, 1208, 1209, 1210, 1010, 1011, 1012, 1211, 1212, 1213, 1214, 432, 413, 415, 569] (by decide +kernel) (by decide +kernel)
set_option maxRecDepth 20000 in
theorem gk_X7_differenceMember_r6 : GoodIn wsL_law wsX7_differenceMember_r6 := goodIn_r _ [570, 571, 572, 40, 573, 574, 575, 576, 1215, 1216, 1217] (by decide +kernel) (by decide +kernel)
set_option maxRecDepth 20000 in
theorem ggL_law_X7_differenceMember : GoodIn wsL_law wsX7_differenceMember := goodIn_ca (goodIn_c1 (goodIn_r _ [1257] (by decide +kernel) (by decide +kernel)) (goodIn_app (goodIn_app gk_X7_differenceMember_r1 (goodIn_app gk_X7_differenceMember_r2 (goodIn_app gk_X7_differenceMember_r3 (goodIn_app gk_X7_differenceMember_r4 (goodIn_app gk_X7_differenceMember_r5 gk_X7_differenceMember_r6))))) (goodIn_sub inlX7 (by decide +kernel)))) (goodIn_sub (fun _ h => List.mem_append_left _ (List.mem_append_left _ (List.mem_append_left _ (List.mem_append_left _ (List.mem_append_left _ (List.mem_append_left _ (List.mem_append_left _ (List.mem_append_right _ h)))))))) (by decide +kernel))
set_option maxRecDepth 20000 in
theorem gL_law_X7_differenceMember : GoodIn wsL_law (wsV RL 270 RX7 yX7_differenceMember wsX7_differenceMember) := goodIn_app (goodIn_of _ (by decide +kernel)) ggL_law_X7_differenceMember
set_option maxRecDepth 20000 in
theorem gk_L_differenceDistance_r1 : GoodIn wsL_law wsL_differenceDistance_r1 := goodIn_r _ [270, 1261, 1262, 1263, 2, 1264, 26, 1225, 1226, 1227, 1228, 281, 282, 844, 845, 846, 847, 129, 17, 18, 22, 553, 554, 555] (by decide +kernel) (by decide +kernel)
set_option maxRecDepth 20000 in
theorem gk_L_differenceDistance_r2 : GoodIn wsL_law wsL_differenceDistance_r2 := goodIn_r _ [16, 556, 136, 41, 37, 227, 39, 228, 229, 230, 43, 231, 201, 557, 558, 559, 560, 426, 413, 414, 415, 561, 562, 563] (by decide +kernel) (by decide +kernel)
set_option maxRecDepth 20000 in
theorem gk_L_differenceDistance_r3 : GoodIn wsL_law wsL_differenceDistance_r3 := goodIn_r _ [564, 848, 849, 850, 21, 851, 852, 853, 854, 855, 856, 57, 58, 59, 60, 857, 858, 859, 56, 860, 67, 861, 862, 863] (by decide +kernel) (by decide +kernel)
set_option maxRecDepth 20000 in
theorem gk_L_differenceDistance_r4 : GoodIn wsL_law wsL_differenceDistance_r4 := goodIn_r _ [864, 865, 866, 867, 868, 869, 870, 66, 871, 362, 363, 364, 365, 366, 367, 368, 202, 48, 872, 873, 874, 875, 876, 877] (by decide +kernel) (by decide +kernel)
set_option maxRecDepth 20000 in
theorem gk_L_differenceDistance_r5 : GoodIn wsL_law wsL_differenceDistance_r5 := goodIn_r _ [878, 68, 879, 880, 881, 882, 883, 884, 885, 886, 887, 888, 889, 890, 891, 892, 893, 894, 895, 896, 897, 898, 899, 900] (by decide +kernel) (by decide +kernel)
set_option maxRecDepth 20000 in
theorem gk_L_differenceDistance_r6 : GoodIn wsL_law wsL_differenceDistance_r6 := goodIn_r _ [901, 902, 903, 904, 905, 25, 906, 907, 908, 909, 910, 911, 912, 913, 914, 915, 916, 917, 918, 919, 920, 921, 922, 923] (by decide +kernel) (by decide +kernel)
set_option maxRecDepth 20000 in
theorem gk_L_differenceDistance_r7 : GoodIn wsL_law wsL_differenceDistance_r7 := goodIn_r _ [69, 924, 925, 926, 927, 928, 74, 1265, 1266, 1267, 1268] (by decide +kernel) (by decide +kernel)
set_option maxRecDepth 20000 in
theorem ggL_law_L_differenceDistance : GoodIn wsL_law wsL_differenceDistance := goodIn_ca (goodIn_ca (goodIn_c1 (goodIn_r _ [1260] (by decide +kernel) (by decide +kernel)) (goodIn_app (goodIn_app (goodIn_app (goodIn_app (goodIn_app (goodIn_app (goodIn_app gk_L_differenceDistance_r1 (goodIn_app gk_L_differenceDistance_r2 (goodIn_app gk_L_differenceDistance_r3 (goodIn_app gk_L_differenceDistance_r4 (goodIn_app gk_L_differenceDistance_r5 (goodIn_app gk_L_differenceDistance_r6 gk_L_differenceDistance_r7)))))) (goodIn_sub inlX6 (by decide +kernel))) (goodIn_sub inlX2 (by decide +kernel))) (goodIn_sub inlX0 (by decide +kernel))) (goodIn_sub inlX5 (by decide +kernel))) (goodIn_sub inlX1 (by decide +kernel))) (goodIn_sub inlX4 (by decide +kernel)))) (goodIn_sub (fun _ h => List.mem_append_left _ (List.mem_append_left _ (List.mem_append_left _ (List.mem_append_left _ (List.mem_append_left _ (List.mem_append_left _ (List.mem_append_left _ (List.mem_append_right _ h)))))))) (by decide +kernel))) (goodIn_sub (fun _ h => List.mem_append_left _ (List.mem_append_left _ (List.mem_append_right _ h))) (by decide +kernel))
set_option maxRecDepth 20000 in
theorem gL_law_L_differenceDistance : GoodIn wsL_law (va_wsS RL 271 yL_differenceDistance wsL_differenceDistance) := goodIn_app (goodIn_of _ (by decide +kernel)) ggL_law_L_differenceDistance
set_option maxRecDepth 20000 in
theorem gk_X7_differenceDistance_r1 : GoodIn wsL_law wsX7_differenceDistance_r1 := goodIn_r _ [1237, 1242, 1238, 1239, 1240, 5, 1241, 141, 96, 97, 934, 935, 936, 937, 90, 91, 92, 933, 98, 99, 938, 939, 940, 941] (by decide +kernel) (by decide +kernel)
set_option maxRecDepth 20000 in
theorem gk_X7_differenceDistance_r2 : GoodIn wsL_law wsX7_differenceDistance_r2 := goodIn_r _ [244, 245, 246, 247, 89, 94, 176, 177, 178, 179, 180, 181, 182, 88, 401, 402, 403, 404, 287, 288, 289, 290, 291, 292] (by decide +kernel) (by decide +kernel)
set_option maxRecDepth 20000 in
theorem gk_X7_differenceDistance_r3 : GoodIn wsL_law wsX7_differenceDistance_r3 := goodIn_r _ [293, 294, 295, 296, 297, 95, 942, 943, 944, 945, 946, 658, 659, 947, 948, 949, 950, 951, 433, 417, 414, 418, 952, 953] (by decide +kernel) (by decide +kernel)
set_option maxRecDepth 20000 in
theorem gk_X7_differenceDistance_r4 : GoodIn wsL_law wsX7_differenceDistance_r4 := goodIn_r _ [954, 955, 956, 957, 958, 959, 960, 961, 962, 100, 101, 963, 964, 965, 966, 967, 968, 969, 970, 971, 972, 973, 974, 975] (by decide +kernel) (by decide +kernel)
set_option maxRecDepth 20000 in
theorem gk_X7_differenceDistance_r5 : GoodIn wsL_law wsX7_differenceDistance_r5 := goodIn_r _ [976, 977, 978, 979, 980, 1203, 1204, 1205, 1206, 1207, 1208, 1209, 1210, 1010, 1011, 1012, 1211, 1212, 1213, 1214, 432, 413, 415, 569] (by decide +kernel) (by decide +kernel)
set_option maxRecDepth 20000 in
theorem gk_X7_differenceDistance_r6 : GoodIn wsL_law wsX7_differenceDistance_r6 := goodIn_r _ [570, 571, 572, 40, 573, 574, 575, 576, 1215, 1216, 1217] (by decide +kernel) (by decide +kernel)
set_option maxRecDepth 20000 in
theorem ggL_law_X7_differenceDistance : GoodIn wsL_law wsX7_differenceDistance := goodIn_ca (goodIn_c1 (goodIn_r _ [1272] (by decide +kernel) (by decide +kernel)) (goodIn_app (goodIn_app gk_X7_differenceDistance_r1 (goodIn_app gk_X7_differenceDistance_r2 (goodIn_app gk_X7_differenceDistance_r3 (goodIn_app gk_X7_differenceDistance_r4 (goodIn_app gk_X7_differenceDistance_r5 gk_X7_differenceDistance_r6))))) (goodIn_sub inlX7 (by decide +kernel)))) (goodIn_sub (fun _ h => List.mem_append_left _ (List.mem_append_left _ (List.mem_append_left _ (List.mem_append_left _ (List.mem_append_left _ (List.mem_append_left _ (List.mem_append_left _ (List.mem_append_right _ h)))))))) (by decide +kernel))
set_option maxRecDepth 20000 in
theorem gL_law_X7_differenceDistance : GoodIn wsL_law (wsV RL 273 RX7 yX7_differenceDistance wsX7_differenceDistance) := goodIn_app (goodIn_of _ (by decide +kernel)) ggL_law_X7_differenceDistance
set_option maxRecDepth 20000 in
theorem gk_L_differenceSize_r1 : GoodIn wsL_law wsL_differenceSize_r1 := goodIn_r _ [270, 108, 1276, 1277, 1278, 2, 1279, 26, 22, 1225, 1226, 1227, 1228, 281, 282, 844, 845, 846, 847, 129, 17, 18, 553, 554] (by decide +kernel) (by decide +kernel)
set_option maxRecDepth 20000 in
theorem gk_L_differenceSize_r2 : GoodIn wsL_law wsL_differenceSize_r2 := goodIn_r _ [555, 16, 556, 136, 41, 37, 227, 39, 228, 229, 230, 43, 231, 201, 557, 558, 559, 560, 426, 413, 414, 415, 561, 562] (by decide +kernel) (by decide +kernel)
set_option maxRecDepth 20000 in
theorem gk_L_differenceSize_r3 : GoodIn wsL_law wsL_differenceSize_r3 := goodIn_r _ [563, 564, 848, 849, 850, 21, 851, 852, 853, 854, 855, 856, 57, 58, 59, 60, 857, 858, 859, 56, 860, 67, 861, 862] (by decide +kernel) (by decide +kernel)
set_option maxRecDepth 20000 in
theorem gk_L_differenceSize_r4 : GoodIn wsL_law wsL_differenceSize_r4 := goodIn_r _ [863, 864, 865, 866, 867, 868, 869, 870, 66, 871, 362, 363, 364, 365, 366, 367, 368, 202, 48, 872, 873, 874, 875, 876] (by decide +kernel) (by decide +kernel)
set_option maxRecDepth 20000 in
theorem gk_L_differenceSize_r5 : GoodIn wsL_law wsL_differenceSize_r5 := goodIn_r _ [877, 878, 68, 879, 880, 881, 882, 883, 884, 885, 886, 887, 888, 889, 890, 891, 892, 893, 894, 895, 896, 897, 898, 899] (by decide +kernel) (by decide +kernel)
set_option maxRecDepth 20000 in
theorem gk_L_differenceSize_r6 : GoodIn wsL_law wsL_differenceSize_r6 := goodIn_r _ [900, 901, 902, 903, 904, 905, 25, 906, 907, 908, 909, 910, 911, 912, 913, 914, 915, 916, 917, 918, 919, 920, 921, 922] (by decide +kernel) (by decide +kernel)
set_option maxRecDepth 20000 in
theorem gk_L_differenceSize_r7 : GoodIn wsL_law wsL_differenceSize_r7 := goodIn_r _ [923, 69, 924, 925, 926, 927, 928, 74, 120, 121, 122, 123, 124, 1280, 1281, 1282, 1283, 1284, 1230, 1231, 1232, 1285, 1251, 1252] (by decide +kernel) (by decide +kernel)
set_option maxRecDepth 20000 in
theorem gk_L_differenceSize_r8 : GoodIn wsL_law wsL_differenceSize_r8 := goodIn_r _ [1253] (by decide +kernel) (by decide +kernel)
set_option maxRecDepth 20000 in
theorem ggL_law_L_differenceSize : GoodIn wsL_law wsL_differenceSize := goodIn_ca (goodIn_ca (goodIn_ca (goodIn_c1 (goodIn_r _ [1275] (by decide +kernel) (by decide +kernel)) (goodIn_app (goodIn_app (goodIn_app (goodIn_app (goodIn_app (goodIn_app (goodIn_app gk_L_differenceSize_r1 (goodIn_app gk_L_differenceSize_r2 (goodIn_app gk_L_differenceSize_r3 (goodIn_app gk_L_differenceSize_r4 (goodIn_app gk_L_differenceSize_r5 (goodIn_app gk_L_differenceSize_r6 (goodIn_app gk_L_differenceSize_r7 gk_L_differenceSize_r8))))))) (goodIn_sub inlX6 (by decide +kernel))) (goodIn_sub inlX2 (by decide +kernel))) (goodIn_sub inlX0 (by decide +kernel))) (goodIn_sub inlX5 (by decide +kernel))) (goodIn_sub inlX1 (by decide +kernel))) (goodIn_sub inlX4 (by decide +kernel)))) (goodIn_sub (fun _ h => List.mem_append_left _ (List.mem_append_left _ (List.mem_append_left _ (List.mem_append_left _ (List.mem_append_left _ (List.mem_append_left _ (List.mem_append_left _ (List.mem_append_right _ h)))))))) (by decide +kernel))) (goodIn_sub (fun _ h => List.mem_append_left _ (List.mem_append_left _ (List.mem_append_right _ h))) (by decide +kernel))) (goodIn_sub (fun _ h => List.mem_append_left _ (List.mem_append_left _ (List.mem_append_left _ (List.mem_append_left _ (List.mem_append_left _ (List.mem_append_right _ h)))))) (by decide +kernel))
set_option maxRecDepth 20000 in
theorem gL_law_L_differenceSize : GoodIn wsL_law (va_wsS RL 274 yL_differenceSize wsL_differenceSize) := goodIn_app (goodIn_of _ (by decide +kernel)) ggL_law_L_differenceSize
set_option maxRecDepth 20000 in
theorem gk_X7_differenceSize_r1 : GoodIn wsL_law wsX7_differenceSize_r1 := goodIn_r _ [141, 1237, 97, 96, 1242, 1238, 1239, 1240, 5, 1241, 934, 935, 936, 937, 90, 91, 92, 933, 98, 99, 938, 939, 940, 941] (by decide +kernel) (by decide +kernel)
set_option maxRecDepth 20000 in
theorem gk_X7_differenceSize_r2 : GoodIn wsL_law wsX7_differenceSize_r2 := goodIn_r _ [244, 245, 246, 247, 89, 94, 176, 177, 178, 179, 180, 181, 182, 88, 401, 402, 403, 404, 287, 288, 289, 290, 291, 292] (by decide +kernel) (by decide +kernel)
set_option maxRecDepth 20000 in
theorem gk_X7_differenceSize_r3 : GoodIn wsL_law wsX7_differenceSize_r3 := goodIn_r _ [293, 294, 295, 296, 297, 95, 942, 943, 944, 945, 946, 658, 659, 947, 948, 949, 950, 951, 433, 417, 414, 418, 952, 953] (by decide +kernel) (by decide +kernel)
set_option maxRecDepth 20000 in
theorem gk_X7_differenceSize_r4 : GoodIn wsL_law wsX7_differenceSize_r4 := goodIn_r _ [954, 955, 956, 957, 958, 959, 960, 961, 962, 100, 101, 963, 964, 965, 966, 967, 968, 969, 970, 971, 972, 973, 974, 975] (by decide +kernel) (by decide +kernel)
set_option maxRecDepth 20000 in
theorem gk_X7_differenceSize_r5 : GoodIn wsL_law wsX7_differenceSize_r5 := goodIn_r _ [976, 977, 978, 979, 980, 1203, 1204, 1205, 1206, 1207, 1208, 1209, 1210, 1010, 1011, 1012, 1211, 1212, 1213, 1214, 432, 413, 415, 569] (by decide +kernel) (by decide +kernel)
set_option maxRecDepth 20000 in
theorem gk_X7_differenceSize_r6 : GoodIn wsL_law wsX7_differenceSize_r6 := goodIn_r _ [570, 571, 572, 40, 573, 574, 575, 576, 1215, 1216, 1217, 142, 143, 144] (by decide +kernel) (by decide +kernel)
set_option maxRecDepth 20000 in
theorem ggL_law_X7_differenceSize : GoodIn wsL_law wsX7_differenceSize := goodIn_ca (goodIn_c1 (goodIn_r _ [1289] (by decide +kernel) (by decide +kernel)) (goodIn_app (goodIn_app gk_X7_differenceSize_r1 (goodIn_app gk_X7_differenceSize_r2 (goodIn_app gk_X7_differenceSize_r3 (goodIn_app gk_X7_differenceSize_r4 (goodIn_app gk_X7_differenceSize_r5 gk_X7_differenceSize_r6))))) (goodIn_sub inlX7 (by decide +kernel)))) (goodIn_sub (fun _ h => List.mem_append_left _ (List.mem_append_left _ (List.mem_append_left _ (List.mem_append_left _ (List.mem_append_left _ (List.mem_append_left _ (List.mem_append_left _ (List.mem_append_right _ h)))))))) (by decide +kernel))
set_option maxRecDepth 20000 in
theorem gL_law_X7_differenceSize : GoodIn wsL_law (wsV RL 276 RX7 yX7_differenceSize wsX7_differenceSize) := goodIn_app (goodIn_of _ (by decide +kernel)) ggL_law_X7_differenceSize
theorem dL_law_2286 : decode cL_law 2286 = .ok (.aload_n 1, 1) := by decide +kernel
theorem dL_law_2287 : decode cL_law 2287 = .ok (.aload_n 0, 1) := by decide +kernel
theorem dL_law_2288 : decode cL_law 2288 = .ok (.iload 5, 2) := by decide +kernel
theorem dL_law_2290 : decode cL_law 2290 = .ok (.iconst 1, 1) := by decide +kernel
theorem dL_law_2291 : decode cL_law 2291 = .ok (.iadd, 1) := by decide +kernel
theorem dL_law_2292 : decode cL_law 2292 = .ok (.iaload, 1) := by decide +kernel
theorem dL_law_2293 : decode cL_law 2293 = .ok (.aload_n 3, 1) := by decide +kernel
theorem dL_law_2294 : decode cL_law 2294 = .ok (.invokestatic 265, 3) := by decide +kernel
theorem dL_law_2297 : decode cL_law 2297 = .ok (.istore 6, 2) := by decide +kernel
theorem dL_law_2299 : decode cL_law 2299 = .ok (.aload_n 2, 1) := by decide +kernel
theorem dL_law_2300 : decode cL_law 2300 = .ok (.aload_n 0, 1) := by decide +kernel
theorem dL_law_2301 : decode cL_law 2301 = .ok (.iload 5, 2) := by decide +kernel
theorem dL_law_2303 : decode cL_law 2303 = .ok (.iconst 1, 1) := by decide +kernel
theorem dL_law_2304 : decode cL_law 2304 = .ok (.iadd, 1) := by decide +kernel
theorem dL_law_2305 : decode cL_law 2305 = .ok (.iaload, 1) := by decide +kernel
theorem dL_law_2306 : decode cL_law 2306 = .ok (.invokevirtual 267, 3) := by decide +kernel
theorem dL_law_2309 : decode cL_law 2309 = .ok (.istore 7, 2) := by decide +kernel
theorem dL_law_2311 : decode cL_law 2311 = .ok (.aload_n 2, 1) := by decide +kernel
theorem dL_law_2312 : decode cL_law 2312 = .ok (.invokevirtual 150, 3) := by decide +kernel
theorem dL_law_2315 : decode cL_law 2315 = .ok (.iload 6, 2) := by decide +kernel
theorem dL_law_2317 : decode cL_law 2317 = .ok (.if_icmp .eq 5, 3) := by decide +kernel
theorem dL_law_2322 : decode cL_law 2322 = .ok (.iload 6, 2) := by decide +kernel
theorem dL_law_2324 : decode cL_law 2324 = .ok (.ifCond .ne 15, 3) := by decide +kernel
theorem dL_law_2339 : decode cL_law 2339 = .ok (.goto 381, 3) := by decide +kernel
theorem dL_law_2342 : decode cL_law 2342 = .ok (.aload_n 1, 1) := by decide +kernel
theorem dL_law_2343 : decode cL_law 2343 = .ok (.aload_n 0, 1) := by decide +kernel
theorem dL_law_2344 : decode cL_law 2344 = .ok (.iload 5, 2) := by decide +kernel
theorem dL_law_2346 : decode cL_law 2346 = .ok (.iconst 1, 1) := by decide +kernel
theorem dL_law_2347 : decode cL_law 2347 = .ok (.iadd, 1) := by decide +kernel
theorem dL_law_2348 : decode cL_law 2348 = .ok (.iaload, 1) := by decide +kernel
theorem dL_law_2349 : decode cL_law 2349 = .ok (.aload_n 3, 1) := by decide +kernel
theorem dL_law_2350 : decode cL_law 2350 = .ok (.invokestatic 268, 3) := by decide +kernel
theorem dL_law_2353 : decode cL_law 2353 = .ok (.istore 6, 2) := by decide +kernel
theorem dL_law_2355 : decode cL_law 2355 = .ok (.aload_n 2, 1) := by decide +kernel
theorem dL_law_2356 : decode cL_law 2356 = .ok (.aload_n 0, 1) := by decide +kernel
theorem dL_law_2357 : decode cL_law 2357 = .ok (.iload 5, 2) := by decide +kernel
theorem dL_law_2359 : decode cL_law 2359 = .ok (.iconst 1, 1) := by decide +kernel
theorem dL_law_2360 : decode cL_law 2360 = .ok (.iadd, 1) := by decide +kernel
theorem dL_law_2361 : decode cL_law 2361 = .ok (.iaload, 1) := by decide +kernel
theorem dL_law_2362 : decode cL_law 2362 = .ok (.invokevirtual 270, 3) := by decide +kernel
theorem dL_law_2365 : decode cL_law 2365 = .ok (.istore 7, 2) := by decide +kernel
theorem dL_law_2367 : decode cL_law 2367 = .ok (.aload_n 2, 1) := by decide +kernel
theorem dL_law_2368 : decode cL_law 2368 = .ok (.invokevirtual 150, 3) := by decide +kernel
theorem dL_law_2371 : decode cL_law 2371 = .ok (.iload 6, 2) := by decide +kernel
theorem dL_law_2373 : decode cL_law 2373 = .ok (.if_icmp .eq 5, 3) := by decide +kernel
theorem dL_law_2378 : decode cL_law 2378 = .ok (.iload 6, 2) := by decide +kernel
theorem dL_law_2380 : decode cL_law 2380 = .ok (.ifCond .ne 15, 3) := by decide +kernel
theorem dL_law_2395 : decode cL_law 2395 = .ok (.goto 325, 3) := by decide +kernel
theorem dL_law_2398 : decode cL_law 2398 = .ok (.aload_n 1, 1) := by decide +kernel
theorem dL_law_2399 : decode cL_law 2399 = .ok (.aload_n 0, 1) := by decide +kernel
theorem dL_law_2400 : decode cL_law 2400 = .ok (.iload 5, 2) := by decide +kernel
theorem dL_law_2402 : decode cL_law 2402 = .ok (.iconst 1, 1) := by decide +kernel
theorem dL_law_2403 : decode cL_law 2403 = .ok (.iadd, 1) := by decide +kernel
theorem dL_law_2404 : decode cL_law 2404 = .ok (.iaload, 1) := by decide +kernel
theorem dL_law_2405 : decode cL_law 2405 = .ok (.aload_n 3, 1) := by decide +kernel
theorem dL_law_2406 : decode cL_law 2406 = .ok (.invokestatic 271, 3) := by decide +kernel
theorem dL_law_2409 : decode cL_law 2409 = .ok (.istore 6, 2) := by decide +kernel
theorem dL_law_2411 : decode cL_law 2411 = .ok (.aload_n 2, 1) := by decide +kernel
theorem dL_law_2412 : decode cL_law 2412 = .ok (.aload_n 0, 1) := by decide +kernel
theorem dL_law_2413 : decode cL_law 2413 = .ok (.iload 5, 2) := by decide +kernel
theorem dL_law_2415 : decode cL_law 2415 = .ok (.iconst 1, 1) := by decide +kernel
theorem dL_law_2416 : decode cL_law 2416 = .ok (.iadd, 1) := by decide +kernel
theorem dL_law_2417 : decode cL_law 2417 = .ok (.iaload, 1) := by decide +kernel
theorem dL_law_2418 : decode cL_law 2418 = .ok (.invokevirtual 273, 3) := by decide +kernel
theorem dL_law_2421 : decode cL_law 2421 = .ok (.istore 7, 2) := by decide +kernel
theorem dL_law_2423 : decode cL_law 2423 = .ok (.aload_n 2, 1) := by decide +kernel
theorem dL_law_2424 : decode cL_law 2424 = .ok (.invokevirtual 150, 3) := by decide +kernel
theorem dL_law_2427 : decode cL_law 2427 = .ok (.iload 6, 2) := by decide +kernel
theorem dL_law_2429 : decode cL_law 2429 = .ok (.if_icmp .eq 5, 3) := by decide +kernel
theorem dL_law_2434 : decode cL_law 2434 = .ok (.iload 6, 2) := by decide +kernel
theorem dL_law_2436 : decode cL_law 2436 = .ok (.ifCond .ne 15, 3) := by decide +kernel
theorem dL_law_2451 : decode cL_law 2451 = .ok (.goto 269, 3) := by decide +kernel
theorem dL_law_2454 : decode cL_law 2454 = .ok (.aload_n 1, 1) := by decide +kernel
theorem dL_law_2455 : decode cL_law 2455 = .ok (.aload_n 0, 1) := by decide +kernel
theorem dL_law_2456 : decode cL_law 2456 = .ok (.iload 5, 2) := by decide +kernel
theorem dL_law_2458 : decode cL_law 2458 = .ok (.iconst 1, 1) := by decide +kernel
theorem dL_law_2459 : decode cL_law 2459 = .ok (.iadd, 1) := by decide +kernel
theorem dL_law_2460 : decode cL_law 2460 = .ok (.iaload, 1) := by decide +kernel
theorem dL_law_2461 : decode cL_law 2461 = .ok (.aload_n 0, 1) := by decide +kernel
theorem dL_law_2462 : decode cL_law 2462 = .ok (.iload 5, 2) := by decide +kernel
theorem dL_law_2464 : decode cL_law 2464 = .ok (.iconst 2, 1) := by decide +kernel
theorem dL_law_2465 : decode cL_law 2465 = .ok (.iadd, 1) := by decide +kernel
theorem dL_law_2466 : decode cL_law 2466 = .ok (.iaload, 1) := by decide +kernel
theorem dL_law_2467 : decode cL_law 2467 = .ok (.aload_n 3, 1) := by decide +kernel
theorem dL_law_2468 : decode cL_law 2468 = .ok (.invokestatic 274, 3) := by decide +kernel
theorem dL_law_2471 : decode cL_law 2471 = .ok (.istore 6, 2) := by decide +kernel
theorem dL_law_2473 : decode cL_law 2473 = .ok (.aload_n 2, 1) := by decide +kernel
theorem dL_law_2474 : decode cL_law 2474 = .ok (.aload_n 0, 1) := by decide +kernel
theorem dL_law_2475 : decode cL_law 2475 = .ok (.iload 5, 2) := by decide +kernel
theorem dL_law_2477 : decode cL_law 2477 = .ok (.iconst 1, 1) := by decide +kernel
theorem dL_law_2478 : decode cL_law 2478 = .ok (.iadd, 1) := by decide +kernel
theorem dL_law_2479 : decode cL_law 2479 = .ok (.iaload, 1) := by decide +kernel
theorem dL_law_2480 : decode cL_law 2480 = .ok (.aload_n 0, 1) := by decide +kernel
theorem dL_law_2481 : decode cL_law 2481 = .ok (.iload 5, 2) := by decide +kernel
theorem dL_law_2483 : decode cL_law 2483 = .ok (.iconst 2, 1) := by decide +kernel
theorem dL_law_2484 : decode cL_law 2484 = .ok (.iadd, 1) := by decide +kernel
theorem dL_law_2485 : decode cL_law 2485 = .ok (.iaload, 1) := by decide +kernel
theorem dL_law_2486 : decode cL_law 2486 = .ok (.invokevirtual 276, 3) := by decide +kernel
theorem dL_law_2489 : decode cL_law 2489 = .ok (.istore 7, 2) := by decide +kernel
theorem dL_law_2491 : decode cL_law 2491 = .ok (.aload_n 2, 1) := by decide +kernel
theorem dL_law_2492 : decode cL_law 2492 = .ok (.invokevirtual 150, 3) := by decide +kernel
theorem dL_law_2495 : decode cL_law 2495 = .ok (.iload 6, 2) := by decide +kernel
theorem dL_law_2497 : decode cL_law 2497 = .ok (.if_icmp .eq 5, 3) := by decide +kernel
theorem dL_law_2502 : decode cL_law 2502 = .ok (.iload 6, 2) := by decide +kernel
theorem dL_law_2504 : decode cL_law 2504 = .ok (.ifCond .ne 15, 3) := by decide +kernel
theorem dL_law_2519 : decode cL_law 2519 = .ok (.goto 201, 3) := by decide +kernel
set_option maxHeartbeats 4000000 in
set_option maxRecDepth 100000 in
/-- case 34 of the law: differenceKind, on fresh objects -/
theorem lc_34 {p : Program} {e : Env} {s : State} {m : MethodId} {below : List Frame} {meth : Method} {c : Code} (l : Launch) (hfl : l.stackTraces = false) {b : Nat} {xs : Nat → Int32} (hx : p.tables.exec = Jvm.exec) (hb : c.code = cL_law) (hr : meth.sig.returnType = ret) (hml : c.maxLocals = 9) (hown : s.vm.findClass RL = some m.cls) (hts : ∀ w ∈ wsL_law, w.before #[Value.ref b] s = true) (hlk : meth.locks = false) (A : Nat → Prop) (hAe : ∀ q, A q → s.heap.size ≤ q) (hA : ∀ q : Nat, s.heap.size ≤ q → A q) (hX9 : va_X b 7 xs s s.heap) (hbl : b < s.heap.size) (hN : fN s) (hZ : fZ A s s.heap) (hX : fX s) (dC : Nat → ClassId) (dI : Nat → Nat → Nat) (h0 w d wL wP wS dL dP dS co on onR onL onC onD op opR opL opC opD un unK ma tm k0 kN kA kO kK kV kG kP kC kD kE kF kX kY kT kU oJ oD : Nat) (cI cJ : ClassId) {H : Heap} {locs : List Loc} {ls : Array Slot} (hK : va_K (dC, dI) vwCl [(cI, .int), (cJ, .long)] s) (hP : va_P (dC, dI) vwCl [(h0, .inr (9, [.ref w, .ref d, .ref co, .ref un, .ref ma, .ref tm, .int 0, .int 0, .int 0])), (co, .inr (4, [.ref w, .ref d, .ref on, .ref op, .int 0])), (w, .inr (3, [.int 0, .int 0, .ref wL, .ref wP, .ref wS])), (d, .inr (3, [.int 0, .int 0, .ref dL, .ref dP, .ref dS])), (on, .inr (7, [.ref onR, .ref onL, .ref onC, .ref onD, .int 0])), (onL, .inl (cI, 20, .inl (fun _ => 0))), (onC, .inl (cI, 20, .inl (fun _ => 0))), (op, .inr (7, [.ref opR, .ref opL, .ref opC, .ref opD, .int 0])), (opL, .inl (cI, 20, .inl (fun _ => 0))), (opC, .inl (cI, 20, .inl (fun _ => 0))), (un, .inr (5, [.ref unK, .int 0])), (k0, .inr (10, [.ref kN, .ref kA, .ref kO, .ref kK, .ref kV, .ref kG, .ref kP, .ref kC, .ref kD, .ref kE, .ref kF, .ref kX, .ref kY, .int 0, .ref kT, .ref kU, .int 0, .int 0, .int 0])), (kN, .inl (cI, 2, .inl (fun _ => 0))), (kA, .inl (cI, 2, .inl (fun _ => 0))), (kC, .inl (cI, 20, .inl (fun _ => 0))), (kD, .inl (cI, 20, .inl (fun _ => 0))), (kE, .inl (cI, 20, .inl (fun _ => 0))), (kF, .inl (cI, 20, .inl (fun _ => 0))), (oJ, .inl (cJ, 1, .inr (.inl (fun _ => 0))))] H) (hD : va_D A [(h0, .inr (9, [.ref w, .ref d, .ref co, .ref un, .ref ma, .ref tm, .int 0, .int 0, .int 0])), (co, .inr (4, [.ref w, .ref d, .ref on, .ref op, .int 0])), (w, .inr (3, [.int 0, .int 0, .ref wL, .ref wP, .ref wS])), (d, .inr (3, [.int 0, .int 0, .ref dL, .ref dP, .ref dS])), (on, .inr (7, [.ref onR, .ref onL, .ref onC, .ref onD, .int 0])), (onL, .inl (cI, 20, .inl (fun _ => 0))), (onC, .inl (cI, 20, .inl (fun _ => 0))), (op, .inr (7, [.ref opR, .ref opL, .ref opC, .ref opD, .int 0])), (opL, .inl (cI, 20, .inl (fun _ => 0))), (opC, .inl (cI, 20, .inl (fun _ => 0))), (un, .inr (5, [.ref unK, .int 0])), (k0, .inr (10, [.ref kN, .ref kA, .ref kO, .ref kK, .ref kV, .ref kG, .ref kP, .ref kC, .ref kD, .ref kE, .ref kF, .ref kX, .ref kY, .int 0, .ref kT, .ref kU, .int 0, .int 0, .int 0])), (kN, .inl (cI, 2, .inl (fun _ => 0))), (kA, .inl (cI, 2, .inl (fun _ => 0))), (kC, .inl (cI, 20, .inl (fun _ => 0))), (kD, .inl (cI, 20, .inl (fun _ => 0))), (kE, .inl (cI, 20, .inl (fun _ => 0))), (kF, .inl (cI, 20, .inl (fun _ => 0))), (oJ, .inl (cJ, 1, .inr (.inl (fun _ => 0))))]) (hS : va_S A s.heap H locs) (hl : lv_has ls 9 [(5, .int 0), (4, .ref oD), (3, .ref oJ), (2, .ref k0), (1, .ref h0), (0, .ref b)]) : W p l e room_1 s m #[Value.ref b] below meth c H locs 148 2317 (lw_Z below #[Value.ref b] s) (F0 m 2286 ls []) := by
  have hbA : ¬ A b := fun h => Nat.not_le.mpr hbl (hAe _ h)
  have hX0 := hX
  refine lv_aload_n hx hb dL_law_2286 rfl (lv_at hl 4 rfl) ?_
  refine lv_aload_n hx hb dL_law_2287 rfl (lv_at hl 5 rfl) ?_
  refine lv_iload hx hb dL_law_2288 (lv_at hl 0 rfl) ?_
  refine lv_iconst (v := 1) hx hb dL_law_2290 (by decide) ?_
  refine lv_iadd hx hb dL_law_2291 ?_
  refine lv_topi (fun y1 ey1 => ?_)
  obtain rfl : y1 = 1 := ey1.trans (by decide)
  refine va_sld hx hb hX9 hbl hbA hS (show ¬ (_ ∨ _) by decide) dL_law_2292 ?_
  refine W.eq (g2 := F0 m 2293 ls [.int (xs 1), .ref h0]) rfl ?_
  refine lv_aload_n hx hb dL_law_2293 rfl (lv_at hl 2 rfl) ?_
  have hPc := hP.sub (ws' := [(h0, .inr (9, [.ref w, .ref d, .ref co, .ref un, .ref ma, .ref tm, .int 0, .int 0, .int 0])), (co, .inr (4, [.ref w, .ref d, .ref on, .ref op, .int 0])), (w, .inr (3, [.int 0, .int 0, .ref wL, .ref wP, .ref wS])), (d, .inr (3, [.int 0, .int 0, .ref dL, .ref dP, .ref dS])), (on, .inr (7, [.ref onR, .ref onL, .ref onC, .ref onD, .int 0])), (onL, .inl (cI, 20, .inl (fun _ => 0))), (onC, .inl (cI, 20, .inl (fun _ => 0))), (op, .inr (7, [.ref opR, .ref opL, .ref opC, .ref opD, .int 0])), (opL, .inl (cI, 20, .inl (fun _ => 0))), (opC, .inl (cI, 20, .inl (fun _ => 0))), (un, .inr (5, [.ref unK, .int 0])), (oJ, .inl (cJ, 1, .inr (.inl (fun _ => 0))))]) [0, 1, 2, 3, 4, 5, 6, 7, 8, 9, 10, 18] rfl
  have hDc := hD.sub (ws' := [(h0, .inr (9, [.ref w, .ref d, .ref co, .ref un, .ref ma, .ref tm, .int 0, .int 0, .int 0])), (co, .inr (4, [.ref w, .ref d, .ref on, .ref op, .int 0])), (w, .inr (3, [.int 0, .int 0, .ref wL, .ref wP, .ref wS])), (d, .inr (3, [.int 0, .int 0, .ref dL, .ref dP, .ref dS])), (on, .inr (7, [.ref onR, .ref onL, .ref onC, .ref onD, .int 0])), (onL, .inl (cI, 20, .inl (fun _ => 0))), (onC, .inl (cI, 20, .inl (fun _ => 0))), (op, .inr (7, [.ref opR, .ref opL, .ref opC, .ref opD, .int 0])), (opL, .inl (cI, 20, .inl (fun _ => 0))), (opC, .inl (cI, 20, .inl (fun _ => 0))), (un, .inr (5, [.ref unK, .int 0])), (oJ, .inl (cJ, 1, .inr (.inl (fun _ => 0))))]) [0, 1, 2, 3, 4, 5, 6, 7, 8, 9, 10, 18] (by decide) rfl
  have hKc := hK.sub (tys' := [(cI, .int), (cJ, .long)]) [0, 1] rfl
  have hFc := va_free (wc := [(h0, .inr (9, [.ref w, .ref d, .ref co, .ref un, .ref ma, .ref tm, .int 0, .int 0, .int 0])), (co, .inr (4, [.ref w, .ref d, .ref on, .ref op, .int 0])), (w, .inr (3, [.int 0, .int 0, .ref wL, .ref wP, .ref wS])), (d, .inr (3, [.int 0, .int 0, .ref dL, .ref dP, .ref dS])), (on, .inr (7, [.ref onR, .ref onL, .ref onC, .ref onD, .int 0])), (onL, .inl (cI, 20, .inl (fun _ => 0))), (onC, .inl (cI, 20, .inl (fun _ => 0))), (op, .inr (7, [.ref opR, .ref opL, .ref opC, .ref opD, .int 0])), (opL, .inl (cI, 20, .inl (fun _ => 0))), (opC, .inl (cI, 20, .inl (fun _ => 0))), (un, .inr (5, [.ref unK, .int 0])), (oJ, .inl (cJ, 1, .inr (.inl (fun _ => 0))))]) hD hS hA [0, 1, 2, 3, 4, 5, 6, 7, 8, 9, 10, 18] rfl
  refine vx_calli (vx_runSX (As := [.ref h0, .int (xs 1), .ref oJ]) (rest := []) ⟨hx, hb, hml, hown, hts⟩ (kL_differenceKind l hfl dC dI h0 ma tm un unK co w wL wP wS d dL dP dS on onR onL onC onD op opR opL opC opD cI (fun _ => 0) (fun _ => 0) oJ cJ (xs 1) H.size) (vx_cwSW 3 hts gL_law_L_differenceKind rfl rfl rfl (by decide +kernel) ⟨Nat.le_of_ble_eq_true rfl, Nat.le_of_ble_eq_true rfl⟩) (gPreS hX hN hZ hS (fun q h => hFc q h) hPc hKc hDc) rfl rfl hl.1 rfl (lv_room (Nat.le_of_ble_eq_true rfl)) dL_law_2294 ⟨Nat.le_of_ble_eq_true rfl, Nat.le_of_ble_eq_true rfl⟩) hS (fun q _ h => hFc q h) hFc (fun q _ h => hFc q h) (fun E ce q9 u t H locs ht hvm hpx hE hz1 hk1 hS hq9 hv9 hc9 => ?_) (fun r u t H1 locs ht hvm hw hB hz1 hk1 hS => ?_)
  · skip
    exact hE.elim
  · skip
    obtain ⟨hP1, hK1, hD1⟩ := hB
    rw [ht] at hP1
    have hK1 := va_K.moved hvm.symm hK1
    obtain ⟨u2, rfl⟩ : ∃ z, z = u := ⟨_, rfl⟩
    obtain ⟨hP, hD⟩ := va_join (wr := [(k0, .inr (10, [.ref kN, .ref kA, .ref kO, .ref kK, .ref kV, .ref kG, .ref kP, .ref kC, .ref kD, .ref kE, .ref kF, .ref kX, .ref kY, .int 0, .ref kT, .ref kU, .int 0, .int 0, .int 0])), (kN, .inl (cI, 2, .inl (fun _ => 0))), (kA, .inl (cI, 2, .inl (fun _ => 0))), (kC, .inl (cI, 20, .inl (fun _ => 0))), (kD, .inl (cI, 20, .inl (fun _ => 0))), (kE, .inl (cI, 20, .inl (fun _ => 0))), (kF, .inl (cI, 20, .inl (fun _ => 0)))]) (w1 := [(oJ, .inl (cJ, 1, .inr (.inl u2)))]) hP hD [0, 1, 2, 3, 4, 5, 6, 7, 8, 9, 10, 18] [11, 12, 13, 14, 15, 16, 17] rfl rfl (by decide) (by decide) hk1 hFc hP1 hD1
    generalize H1 = H at hP hS ⊢
    have hP : va_P (dC, dI) vwCl [(k0, .inr (10, [.ref kN, .ref kA, .ref kO, .ref kK, .ref kV, .ref kG, .ref kP, .ref kC, .ref kD, .ref kE, .ref kF, .ref kX, .ref kY, .int 0, .ref kT, .ref kU, .int 0, .int 0, .int 0])), (kN, .inl (cI, 2, .inl (fun _ => 0))), (kA, .inl (cI, 2, .inl (fun _ => 0))), (kC, .inl (cI, 20, .inl (fun _ => 0))), (kD, .inl (cI, 20, .inl (fun _ => 0))), (kE, .inl (cI, 20, .inl (fun _ => 0))), (kF, .inl (cI, 20, .inl (fun _ => 0))), (oJ, .inl (cJ, 1, .inr (.inl u2)))] _ := hP
    have hD : va_D A [(k0, .inr (10, [.ref kN, .ref kA, .ref kO, .ref kK, .ref kV, .ref kG, .ref kP, .ref kC, .ref kD, .ref kE, .ref kF, .ref kX, .ref kY, .int 0, .ref kT, .ref kU, .int 0, .int 0, .int 0])), (kN, .inl (cI, 2, .inl (fun _ => 0))), (kA, .inl (cI, 2, .inl (fun _ => 0))), (kC, .inl (cI, 20, .inl (fun _ => 0))), (kD, .inl (cI, 20, .inl (fun _ => 0))), (kE, .inl (cI, 20, .inl (fun _ => 0))), (kF, .inl (cI, 20, .inl (fun _ => 0))), (oJ, .inl (cJ, 1, .inr (.inl u2)))] := hD
    refine W.widen (k := 149) (n := 2323) (Nat.le_of_ble_eq_true rfl) (Nat.le_of_ble_eq_true rfl) ?_
    subst hw
    refine lv_istore (lv' := [(6, .int 1), (5, .int 0), (4, .ref oD), (3, .ref oJ), (2, .ref k0), (1, .ref h0), (0, .ref b)]) hx hb dL_law_2297 hl (Nat.le_of_ble_eq_true rfl) rfl (fun ls hl => ?_)
    refine lv_aload_n hx hb dL_law_2299 rfl (lv_at hl 4 rfl) ?_
    refine lv_aload_n hx hb dL_law_2300 rfl (lv_at hl 6 rfl) ?_
    refine lv_iload hx hb dL_law_2301 (lv_at hl 1 rfl) ?_
    refine lv_iconst (v := 1) hx hb dL_law_2303 (by decide) ?_
    refine lv_iadd hx hb dL_law_2304 ?_
    refine lv_topi (fun y3 ey3 => ?_)
    obtain rfl : y3 = 1 := ey3.trans (by decide)
    refine va_sld hx hb hX9 hbl hbA hS (show ¬ (_ ∨ _) by decide) dL_law_2305 ?_
    refine W.eq (g2 := F0 m 2306 ls [.int (xs 1), .ref k0]) rfl ?_
    have hPc := hP.sub (ws' := [(k0, .inr (10, [.ref kN, .ref kA, .ref kO, .ref kK, .ref kV, .ref kG, .ref kP, .ref kC, .ref kD, .ref kE, .ref kF, .ref kX, .ref kY, .int 0, .ref kT, .ref kU, .int 0, .int 0, .int 0])), (kN, .inl (cI, 2, .inl (fun _ => 0))), (kA, .inl (cI, 2, .inl (fun _ => 0))), (kC, .inl (cI, 20, .inl (fun _ => 0))), (kD, .inl (cI, 20, .inl (fun _ => 0))), (kE, .inl (cI, 20, .inl (fun _ => 0))), (kF, .inl (cI, 20, .inl (fun _ => 0)))]) [0, 1, 2, 3, 4, 5, 6] rfl
    have hDc := hD.sub (ws' := [(k0, .inr (10, [.ref kN, .ref kA, .ref kO, .ref kK, .ref kV, .ref kG, .ref kP, .ref kC, .ref kD, .ref kE, .ref kF, .ref kX, .ref kY, .int 0, .ref kT, .ref kU, .int 0, .int 0, .int 0])), (kN, .inl (cI, 2, .inl (fun _ => 0))), (kA, .inl (cI, 2, .inl (fun _ => 0))), (kC, .inl (cI, 20, .inl (fun _ => 0))), (kD, .inl (cI, 20, .inl (fun _ => 0))), (kE, .inl (cI, 20, .inl (fun _ => 0))), (kF, .inl (cI, 20, .inl (fun _ => 0)))]) [0, 1, 2, 3, 4, 5, 6] (by decide) rfl
    have hKc := hK.sub (tys' := [(cI, .int)]) [0] rfl
    have hFc := va_free (wc := [(k0, .inr (10, [.ref kN, .ref kA, .ref kO, .ref kK, .ref kV, .ref kG, .ref kP, .ref kC, .ref kD, .ref kE, .ref kF, .ref kX, .ref kY, .int 0, .ref kT, .ref kU, .int 0, .int 0, .int 0])), (kN, .inl (cI, 2, .inl (fun _ => 0))), (kA, .inl (cI, 2, .inl (fun _ => 0))), (kC, .inl (cI, 20, .inl (fun _ => 0))), (kD, .inl (cI, 20, .inl (fun _ => 0))), (kE, .inl (cI, 20, .inl (fun _ => 0))), (kF, .inl (cI, 20, .inl (fun _ => 0)))]) hD hS hA [0, 1, 2, 3, 4, 5, 6] rfl
    refine va_calli (va_runV (As := [.int (xs 1)]) (rest := []) ⟨hx, hb, hml, hown, hts⟩ (kX7_differenceKind l dC dI k0 kN kA kO kK kV kG kP kC kD kE kF kX kY kT kU cI (fun _ => 0) (fun _ => 0) (fun _ => 0) (fun _ => 0) (xs 1) H.size) (cwV 1 hts gL_law_X7_differenceKind rfl rfl rfl (by decide +kernel) ⟨Nat.le_of_ble_eq_true rfl, Nat.le_of_ble_eq_true rfl⟩) (fPreV hN hZ hS (fun q h => hFc q h) hPc hKc hDc (ci := 10) (q0 := 0) rfl rfl) rfl rfl hl.1 rfl (lv_room (Nat.le_of_ble_eq_true rfl)) dL_law_2306 ⟨Nat.le_of_ble_eq_true rfl, Nat.le_of_ble_eq_true rfl⟩) hS (fun q _ h => hFc q h) hFc (fun r u t H1 locs ht hvm hw hB hz1 hk1 hS => ?_)
    obtain ⟨hP1, hK1, hD1⟩ := hB
    rw [ht] at hP1
    have hK1 := va_K.moved hvm.symm hK1
    obtain ⟨u4, rfl⟩ : ∃ z, z = u := ⟨_, rfl⟩
    obtain ⟨hP, hD⟩ := va_join (wr := [(oJ, .inl (cJ, 1, .inr (.inl u2)))]) (w1 := [(k0, .inr (10, [.ref kN, .ref kA, .ref kO, .ref kK, .ref kV, .ref kG, .ref kP, .ref kC, .ref kD, .ref kE, .ref kF, .ref kX, .ref kY, .int 0, .ref kT, .ref kU, .int u4, .int 0, .int 0]))]) hP hD [0, 1, 2, 3, 4, 5, 6] [7] rfl rfl (by decide) (by decide) hk1 hFc hP1 hD1
    generalize H1 = H at hP hS ⊢
    have hP : va_P (dC, dI) vwCl [(oJ, .inl (cJ, 1, .inr (.inl u2))), (k0, .inr (10, [.ref kN, .ref kA, .ref kO, .ref kK, .ref kV, .ref kG, .ref kP, .ref kC, .ref kD, .ref kE, .ref kF, .ref kX, .ref kY, .int 0, .ref kT, .ref kU, .int u4, .int 0, .int 0]))] _ := hP
    have hD : va_D A [(oJ, .inl (cJ, 1, .inr (.inl u2))), (k0, .inr (10, [.ref kN, .ref kA, .ref kO, .ref kK, .ref kV, .ref kG, .ref kP, .ref kC, .ref kD, .ref kE, .ref kF, .ref kX, .ref kY, .int 0, .ref kT, .ref kU, .int u4, .int 0, .int 0]))] := hD
    refine W.widen (k := 151) (n := 2363) (Nat.le_of_ble_eq_true rfl) (Nat.le_of_ble_eq_true rfl) ?_
    obtain ⟨r5, rfl⟩ : ∃ z, z = r := ⟨_, rfl⟩
    subst hw
    have hP : va_P (dC, dI) vwCl [(oJ, .inl (cJ, 1, .inr (.inl u2))), (k0, .inr (10, [.ref kN, .ref kA, .ref kO, .ref kK, .ref kV, .ref kG, .ref kP, .ref kC, .ref kD, .ref kE, .ref kF, .ref kX, .ref kY, .int 0, .ref kT, .ref kU, .int 1, .int 0, .int 0]))] _ := hP
    have hD : va_D A [(oJ, .inl (cJ, 1, .inr (.inl u2))), (k0, .inr (10, [.ref kN, .ref kA, .ref kO, .ref kK, .ref kV, .ref kG, .ref kP, .ref kC, .ref kD, .ref kE, .ref kF, .ref kX, .ref kY, .int 0, .ref kT, .ref kU, .int 1, .int 0, .int 0]))] := hD
    refine lv_istore (lv' := [(7, .int r5), (6, .int 1), (5, .int 0), (4, .ref oD), (3, .ref oJ), (2, .ref k0), (1, .ref h0), (0, .ref b)]) hx hb dL_law_2309 hl (Nat.le_of_ble_eq_true rfl) rfl (fun ls hl => ?_)
    refine lv_aload_n hx hb dL_law_2311 rfl (lv_at hl 5 rfl) ?_
    have hPc := hP.sub (ws' := [(k0, .inr (10, [.ref kN, .ref kA, .ref kO, .ref kK, .ref kV, .ref kG, .ref kP, .ref kC, .ref kD, .ref kE, .ref kF, .ref kX, .ref kY, .int 0, .ref kT, .ref kU, .int 1, .int 0, .int 0]))]) [1] rfl
    have hDc := hD.sub (ws' := [(k0, .inr (10, [.ref kN, .ref kA, .ref kO, .ref kK, .ref kV, .ref kG, .ref kP, .ref kC, .ref kD, .ref kE, .ref kF, .ref kX, .ref kY, .int 0, .ref kT, .ref kU, .int 1, .int 0, .int 0]))]) [1] (by decide) rfl
    have hKc := hK.sub (tys' := []) [] rfl
    have hFc := va_free (wc := [(k0, .inr (10, [.ref kN, .ref kA, .ref kO, .ref kK, .ref kV, .ref kG, .ref kP, .ref kC, .ref kD, .ref kE, .ref kF, .ref kX, .ref kY, .int 0, .ref kT, .ref kU, .int 1, .int 0, .int 0]))]) hD hS hA [1] rfl
    refine va_calli (va_runV (As := []) (rest := []) ⟨hx, hb, hml, hown, hts⟩ (kX7_thrown l dC dI k0 kN kA kO kK kV kG kP kC kD kE kF kX kY kT kU 1 H.size) (cwV 0 hts gL_law_X7_thrown rfl rfl rfl (by decide +kernel) ⟨Nat.le_of_ble_eq_true rfl, Nat.le_of_ble_eq_true rfl⟩) (fPreV hN hZ hS (fun q h => hFc q h) hPc hKc hDc (ci := 10) (q0 := 0) rfl rfl) rfl rfl hl.1 rfl (lv_room (Nat.le_of_ble_eq_true rfl)) dL_law_2312 ⟨Nat.le_of_ble_eq_true rfl, Nat.le_of_ble_eq_true rfl⟩) hS (fun q _ h => hFc q h) hFc (fun r u t H1 locs ht hvm hw hB hz1 hk1 hS => ?_)
    obtain ⟨hP1, hK1, hD1⟩ := hB
    rw [ht] at hP1
    have hK1 := va_K.moved hvm.symm hK1
    obtain ⟨hP, hD⟩ := va_join (wr := [(oJ, .inl (cJ, 1, .inr (.inl u2)))]) (w1 := []) hP hD [1] [0] rfl rfl (by decide) (by decide) hk1 hFc hP1 hD1
    generalize H1 = H at hP hS ⊢
    have hP : va_P (dC, dI) vwCl [(oJ, .inl (cJ, 1, .inr (.inl u2)))] _ := hP
    have hD : va_D A [(oJ, .inl (cJ, 1, .inr (.inl u2)))] := hD
    subst hw
    refine lv_iload hx hb dL_law_2315 (lv_at hl 1 rfl) ?_
    refine lv_icmp_eq (tgt := 2322) hx hb dL_law_2317 (by decide) (fun _ => ?_) (fun h9 => absurd (by decide) h9)
    refine lv_iload hx hb dL_law_2322 (lv_at hl 1 rfl) ?_
    refine lv_if_ne (tgt := 2339) hx hb dL_law_2324 (by decide) (fun _ => ?_) (fun h9 => absurd h9 (by decide))
    refine lv_goto (tgt := 2720) hx hb dL_law_2339 (by decide) ?_
    refine lv_iinc (v := 7) (lv' := [(5, .int 7), (7, .int r5), (6, .int 1), (4, .ref oD), (3, .ref oJ), (2, .ref k0), (1, .ref h0), (0, .ref b)]) hx hb dL_law_2720 hl (k := 2) rfl (by decide) (Nat.le_of_ble_eq_true rfl) rfl (fun ls hl => ?_)
    refine lv_goto (tgt := 28) hx hb dL_law_2723 (by decide) ?_
    refine lv_iload hx hb dL_law_28 (lv_at hl 0 rfl) ?_
    refine lv_aload_n hx hb dL_law_30 rfl (lv_at hl 7 rfl) ?_
    refine va_slen hx hb hX9 hbl hbA hS dL_law_31 ?_
    refine W.eq (g2 := F0 m 32 ls [.int 7, .int 7]) rfl ?_
    refine lv_bipush (v := 7) hx hb dL_law_32 (by decide) ?_
    refine lv_isub hx hb dL_law_34 ?_
    refine lv_topi (fun y6 ey6 => ?_)
    obtain rfl : y6 = 0 := ey6.trans (by decide)
    refine lv_icmp_gt (tgt := 2726) hx hb dL_law_35 (by decide) (fun _ => ?_) (fun h9 => absurd (by decide) h9)
    refine lv_iconst (v := 1) hx hb dL_law_2726 (by decide) ?_
    refine va_forget (fun q hq => hAe _ (hS.2.2 q hq)) ?_
    refine W.widen (k := 603072) (n := 7198826) (Nat.le_of_ble_eq_true rfl) (Nat.le_of_ble_eq_true rfl) ?_
    exact W.base (lw_ret (d0 := s.drawn) (Drawn.sameBut.refl _ _) hx hb hr hlk dL_law_2727)

set_option maxHeartbeats 4000000 in
set_option maxRecDepth 100000 in
/-- case 35 of the law: differenceMember, on fresh objects -/
theorem lc_35 {p : Program} {e : Env} {s : State} {m : MethodId} {below : List Frame} {meth : Method} {c : Code} (l : Launch) (hfl : l.stackTraces = false) {b : Nat} {xs : Nat → Int32} (hx : p.tables.exec = Jvm.exec) (hb : c.code = cL_law) (hr : meth.sig.returnType = ret) (hml : c.maxLocals = 9) (hown : s.vm.findClass RL = some m.cls) (hts : ∀ w ∈ wsL_law, w.before #[Value.ref b] s = true) (hlk : meth.locks = false) (A : Nat → Prop) (hAe : ∀ q, A q → s.heap.size ≤ q) (hA : ∀ q : Nat, s.heap.size ≤ q → A q) (hX9 : va_X b 7 xs s s.heap) (hbl : b < s.heap.size) (hN : fN s) (hZ : fZ A s s.heap) (hX : fX s) (dC : Nat → ClassId) (dI : Nat → Nat → Nat) (h0 w d wL wP wS dL dP dS co on onR onL onC onD op opR opL opC opD un unK ma tm k0 kN kA kO kK kV kG kP kC kD kE kF kX kY kT kU oJ oD : Nat) (cI cJ : ClassId) {H : Heap} {locs : List Loc} {ls : Array Slot} (hK : va_K (dC, dI) vwCl [(cI, .int), (cJ, .long)] s) (hP : va_P (dC, dI) vwCl [(h0, .inr (9, [.ref w, .ref d, .ref co, .ref un, .ref ma, .ref tm, .int 0, .int 0, .int 0])), (co, .inr (4, [.ref w, .ref d, .ref on, .ref op, .int 0])), (w, .inr (3, [.int 0, .int 0, .ref wL, .ref wP, .ref wS])), (d, .inr (3, [.int 0, .int 0, .ref dL, .ref dP, .ref dS])), (on, .inr (7, [.ref onR, .ref onL, .ref onC, .ref onD, .int 0])), (onL, .inl (cI, 20, .inl (fun _ => 0))), (onC, .inl (cI, 20, .inl (fun _ => 0))), (op, .inr (7, [.ref opR, .ref opL, .ref opC, .ref opD, .int 0])), (opL, .inl (cI, 20, .inl (fun _ => 0))), (opC, .inl (cI, 20, .inl (fun _ => 0))), (un, .inr (5, [.ref unK, .int 0])), (k0, .inr (10, [.ref kN, .ref kA, .ref kO, .ref kK, .ref kV, .ref kG, .ref kP, .ref kC, .ref kD, .ref kE, .ref kF, .ref kX, .ref kY, .int 0, .ref kT, .ref kU, .int 0, .int 0, .int 0])), (kN, .inl (cI, 2, .inl (fun _ => 0))), (kA, .inl (cI, 2, .inl (fun _ => 0))), (kC, .inl (cI, 20, .inl (fun _ => 0))), (kD, .inl (cI, 20, .inl (fun _ => 0))), (kE, .inl (cI, 20, .inl (fun _ => 0))), (kF, .inl (cI, 20, .inl (fun _ => 0))), (oJ, .inl (cJ, 1, .inr (.inl (fun _ => 0))))] H) (hD : va_D A [(h0, .inr (9, [.ref w, .ref d, .ref co, .ref un, .ref ma, .ref tm, .int 0, .int 0, .int 0])), (co, .inr (4, [.ref w, .ref d, .ref on, .ref op, .int 0])), (w, .inr (3, [.int 0, .int 0, .ref wL, .ref wP, .ref wS])), (d, .inr (3, [.int 0, .int 0, .ref dL, .ref dP, .ref dS])), (on, .inr (7, [.ref onR, .ref onL, .ref onC, .ref onD, .int 0])), (onL, .inl (cI, 20, .inl (fun _ => 0))), (onC, .inl (cI, 20, .inl (fun _ => 0))), (op, .inr (7, [.ref opR, .ref opL, .ref opC, .ref opD, .int 0])), (opL, .inl (cI, 20, .inl (fun _ => 0))), (opC, .inl (cI, 20, .inl (fun _ => 0))), (un, .inr (5, [.ref unK, .int 0])), (k0, .inr (10, [.ref kN, .ref kA, .ref kO, .ref kK, .ref kV, .ref kG, .ref kP, .ref kC, .ref kD, .ref kE, .ref kF, .ref kX, .ref kY, .int 0, .ref kT, .ref kU, .int 0, .int 0, .int 0])), (kN, .inl (cI, 2, .inl (fun _ => 0))), (kA, .inl (cI, 2, .inl (fun _ => 0))), (kC, .inl (cI, 20, .inl (fun _ => 0))), (kD, .inl (cI, 20, .inl (fun _ => 0))), (kE, .inl (cI, 20, .inl (fun _ => 0))), (kF, .inl (cI, 20, .inl (fun _ => 0))), (oJ, .inl (cJ, 1, .inr (.inl (fun _ => 0))))]) (hS : va_S A s.heap H locs) (hl : lv_has ls 9 [(5, .int 0), (4, .ref oD), (3, .ref oJ), (2, .ref k0), (1, .ref h0), (0, .ref b)]) : W p l e room_1 s m #[Value.ref b] below meth c H locs 148 2317 (lw_Z below #[Value.ref b] s) (F0 m 2342 ls []) := by
  have hbA : ¬ A b := fun h => Nat.not_le.mpr hbl (hAe _ h)
  have hX0 := hX
  refine lv_aload_n hx hb dL_law_2342 rfl (lv_at hl 4 rfl) ?_
  refine lv_aload_n hx hb dL_law_2343 rfl (lv_at hl 5 rfl) ?_
  refine lv_iload hx hb dL_law_2344 (lv_at hl 0 rfl) ?_
  refine lv_iconst (v := 1) hx hb dL_law_2346 (by decide) ?_
  refine lv_iadd hx hb dL_law_2347 ?_
  refine lv_topi (fun y1 ey1 => ?_)
  obtain rfl : y1 = 1 := ey1.trans (by decide)
  refine va_sld hx hb hX9 hbl hbA hS (show ¬ (_ ∨ _) by decide) dL_law_2348 ?_
  refine W.eq (g2 := F0 m 2349 ls [.int (xs 1), .ref h0]) rfl ?_
  refine lv_aload_n hx hb dL_law_2349 rfl (lv_at hl 2 rfl) ?_
  have hPc := hP.sub (ws' := [(h0, .inr (9, [.ref w, .ref d, .ref co, .ref un, .ref ma, .ref tm, .int 0, .int 0, .int 0])), (co, .inr (4, [.ref w, .ref d, .ref on, .ref op, .int 0])), (w, .inr (3, [.int 0, .int 0, .ref wL, .ref wP, .ref wS])), (d, .inr (3, [.int 0, .int 0, .ref dL, .ref dP, .ref dS])), (on, .inr (7, [.ref onR, .ref onL, .ref onC, .ref onD, .int 0])), (onL, .inl (cI, 20, .inl (fun _ => 0))), (onC, .inl (cI, 20, .inl (fun _ => 0))), (op, .inr (7, [.ref opR, .ref opL, .ref opC, .ref opD, .int 0])), (opL, .inl (cI, 20, .inl (fun _ => 0))), (opC, .inl (cI, 20, .inl (fun _ => 0))), (un, .inr (5, [.ref unK, .int 0])), (oJ, .inl (cJ, 1, .inr (.inl (fun _ => 0))))]) [0, 1, 2, 3, 4, 5, 6, 7, 8, 9, 10, 18] rfl
  have hDc := hD.sub (ws' := [(h0, .inr (9, [.ref w, .ref d, .ref co, .ref un, .ref ma, .ref tm, .int 0, .int 0, .int 0])), (co, .inr (4, [.ref w, .ref d, .ref on, .ref op, .int 0])), (w, .inr (3, [.int 0, .int 0, .ref wL, .ref wP, .ref wS])), (d, .inr (3, [.int 0, .int 0, .ref dL, .ref dP, .ref dS])), (on, .inr (7, [.ref onR, .ref onL, .ref onC, .ref onD, .int 0])), (onL, .inl (cI, 20, .inl (fun _ => 0))), (onC, .inl (cI, 20, .inl (fun _ => 0))), (op, .inr (7, [.ref opR, .ref opL, .ref opC, .ref opD, .int 0])), (opL, .inl (cI, 20, .inl (fun _ => 0))), (opC, .inl (cI, 20, .inl (fun _ => 0))), (un, .inr (5, [.ref unK, .int 0])), (oJ, .inl (cJ, 1, .inr (.inl (fun _ => 0))))]) [0, 1, 2, 3, 4, 5, 6, 7, 8, 9, 10, 18] (by decide) rfl
  have hKc := hK.sub (tys' := [(cI, .int), (cJ, .long)]) [0, 1] rfl
  have hFc := va_free (wc := [(h0, .inr (9, [.ref w, .ref d, .ref co, .ref un, .ref ma, .ref tm, .int 0, .int 0, .int 0])), (co, .inr (4, [.ref w, .ref d, .ref on, .ref op, .int 0])), (w, .inr (3, [.int 0, .int 0, .ref wL, .ref wP, .ref wS])), (d, .inr (3, [.int 0, .int 0, .ref dL, .ref dP, .ref dS])), (on, .inr (7, [.ref onR, .ref onL, .ref onC, .ref onD, .int 0])), (onL, .inl (cI, 20, .inl (fun _ => 0))), (onC, .inl (cI, 20, .inl (fun _ => 0))), (op, .inr (7, [.ref opR, .ref opL, .ref opC, .ref opD, .int 0])), (opL, .inl (cI, 20, .inl (fun _ => 0))), (opC, .inl (cI, 20, .inl (fun _ => 0))), (un, .inr (5, [.ref unK, .int 0])), (oJ, .inl (cJ, 1, .inr (.inl (fun _ => 0))))]) hD hS hA [0, 1, 2, 3, 4, 5, 6, 7, 8, 9, 10, 18] rfl
  refine vx_calli (vx_runSX (As := [.ref h0, .int (xs 1), .ref oJ]) (rest := []) ⟨hx, hb, hml, hown, hts⟩ (kL_differenceMember l hfl dC dI h0 ma tm un unK co w wL wP wS d dL dP dS on onR onL onC onD op opR opL opC opD cI (fun _ => 0) (fun _ => 0) oJ cJ (xs 1) H.size) (vx_cwSW 3 hts gL_law_L_differenceMember rfl rfl rfl (by decide +kernel) ⟨Nat.le_of_ble_eq_true rfl, Nat.le_of_ble_eq_true rfl⟩) (gPreS hX hN hZ hS (fun q h => hFc q h) hPc hKc hDc) rfl rfl hl.1 rfl (lv_room (Nat.le_of_ble_eq_true rfl)) dL_law_2350 ⟨Nat.le_of_ble_eq_true rfl, Nat.le_of_ble_eq_true rfl⟩) hS (fun q _ h => hFc q h) hFc (fun q _ h => hFc q h) (fun E ce q9 u t H locs ht hvm hpx hE hz1 hk1 hS hq9 hv9 hc9 => ?_) (fun r u t H1 locs ht hvm hw hB hz1 hk1 hS => ?_)
  · skip
    exact hE.elim
  · skip
    obtain ⟨hP1, hK1, hD1⟩ := hB
    rw [ht] at hP1
    have hK1 := va_K.moved hvm.symm hK1
    obtain ⟨u2, rfl⟩ : ∃ z, z = u := ⟨_, rfl⟩
    obtain ⟨hP, hD⟩ := va_join (wr := [(k0, .inr (10, [.ref kN, .ref kA, .ref kO, .ref kK, .ref kV, .ref kG, .ref kP, .ref kC, .ref kD, .ref kE, .ref kF, .ref kX, .ref kY, .int 0, .ref kT, .ref kU, .int 0, .int 0, .int 0])), (kN, .inl (cI, 2, .inl (fun _ => 0))), (kA, .inl (cI, 2, .inl (fun _ => 0))), (kC, .inl (cI, 20, .inl (fun _ => 0))), (kD, .inl (cI, 20, .inl (fun _ => 0))), (kE, .inl (cI, 20, .inl (fun _ => 0))), (kF, .inl (cI, 20, .inl (fun _ => 0)))]) (w1 := [(oJ, .inl (cJ, 1, .inr (.inl u2)))]) hP hD [0, 1, 2, 3, 4, 5, 6, 7, 8, 9, 10, 18] [11, 12, 13, 14, 15, 16, 17] rfl rfl (by decide) (by decide) hk1 hFc hP1 hD1
    generalize H1 = H at hP hS ⊢
    have hP : va_P (dC, dI) vwCl [(k0, .inr (10, [.ref kN, .ref kA, .ref kO, .ref kK, .ref kV, .ref kG, .ref kP, .ref kC, .ref kD, .ref kE, .ref kF, .ref kX, .ref kY, .int 0, .ref kT, .ref kU, .int 0, .int 0, .int 0])), (kN, .inl (cI, 2, .inl (fun _ => 0))), (kA, .inl (cI, 2, .inl (fun _ => 0))), (kC, .inl (cI, 20, .inl (fun _ => 0))), (kD, .inl (cI, 20, .inl (fun _ => 0))), (kE, .inl (cI, 20, .inl (fun _ => 0))), (kF, .inl (cI, 20, .inl (fun _ => 0))), (oJ, .inl (cJ, 1, .inr (.inl u2)))] _ := hP
    have hD : va_D A [(k0, .inr (10, [.ref kN, .ref kA, .ref kO, .ref kK, .ref kV, .ref kG, .ref kP, .ref kC, .ref kD, .ref kE, .ref kF, .ref kX, .ref kY, .int 0, .ref kT, .ref kU, .int 0, .int 0, .int 0])), (kN, .inl (cI, 2, .inl (fun _ => 0))), (kA, .inl (cI, 2, .inl (fun _ => 0))), (kC, .inl (cI, 20, .inl (fun _ => 0))), (kD, .inl (cI, 20, .inl (fun _ => 0))), (kE, .inl (cI, 20, .inl (fun _ => 0))), (kF, .inl (cI, 20, .inl (fun _ => 0))), (oJ, .inl (cJ, 1, .inr (.inl u2)))] := hD
    refine W.widen (k := 149) (n := 2323) (Nat.le_of_ble_eq_true rfl) (Nat.le_of_ble_eq_true rfl) ?_
    subst hw
    refine lv_istore (lv' := [(6, .int 1), (5, .int 0), (4, .ref oD), (3, .ref oJ), (2, .ref k0), (1, .ref h0), (0, .ref b)]) hx hb dL_law_2353 hl (Nat.le_of_ble_eq_true rfl) rfl (fun ls hl => ?_)
    refine lv_aload_n hx hb dL_law_2355 rfl (lv_at hl 4 rfl) ?_
    refine lv_aload_n hx hb dL_law_2356 rfl (lv_at hl 6 rfl) ?_
    refine lv_iload hx hb dL_law_2357 (lv_at hl 1 rfl) ?_
    refine lv_iconst (v := 1) hx hb dL_law_2359 (by decide) ?_
    refine lv_iadd hx hb dL_law_2360 ?_
    refine lv_topi (fun y3 ey3 => ?_)
    obtain rfl : y3 = 1 := ey3.trans (by decide)
    refine va_sld hx hb hX9 hbl hbA hS (show ¬ (_ ∨ _) by decide) dL_law_2361 ?_
    refine W.eq (g2 := F0 m 2362 ls [.int (xs 1), .ref k0]) rfl ?_
    have hPc := hP.sub (ws' := [(k0, .inr (10, [.ref kN, .ref kA, .ref kO, .ref kK, .ref kV, .ref kG, .ref kP, .ref kC, .ref kD, .ref kE, .ref kF, .ref kX, .ref kY, .int 0, .ref kT, .ref kU, .int 0, .int 0, .int 0])), (kN, .inl (cI, 2, .inl (fun _ => 0))), (kA, .inl (cI, 2, .inl (fun _ => 0))), (kC, .inl (cI, 20, .inl (fun _ => 0))), (kD, .inl (cI, 20, .inl (fun _ => 0))), (kE, .inl (cI, 20, .inl (fun _ => 0))), (kF, .inl (cI, 20, .inl (fun _ => 0)))]) [0, 1, 2, 3, 4, 5, 6] rfl
    have hDc := hD.sub (ws' := [(k0, .inr (10, [.ref kN, .ref kA, .ref kO, .ref kK, .ref kV, .ref kG, .ref kP, .ref kC, .ref kD, .ref kE, .ref kF, .ref kX, .ref kY, .int 0, .ref kT, .ref kU, .int 0, .int 0, .int 0])), (kN, .inl (cI, 2, .inl (fun _ => 0))), (kA, .inl (cI, 2, .inl (fun _ => 0))), (kC, .inl (cI, 20, .inl (fun _ => 0))), (kD, .inl (cI, 20, .inl (fun _ => 0))), (kE, .inl (cI, 20, .inl (fun _ => 0))), (kF, .inl (cI, 20, .inl (fun _ => 0)))]) [0, 1, 2, 3, 4, 5, 6] (by decide) rfl
    have hKc := hK.sub (tys' := [(cI, .int)]) [0] rfl
    have hFc := va_free (wc := [(k0, .inr (10, [.ref kN, .ref kA, .ref kO, .ref kK, .ref kV, .ref kG, .ref kP, .ref kC, .ref kD, .ref kE, .ref kF, .ref kX, .ref kY, .int 0, .ref kT, .ref kU, .int 0, .int 0, .int 0])), (kN, .inl (cI, 2, .inl (fun _ => 0))), (kA, .inl (cI, 2, .inl (fun _ => 0))), (kC, .inl (cI, 20, .inl (fun _ => 0))), (kD, .inl (cI, 20, .inl (fun _ => 0))), (kE, .inl (cI, 20, .inl (fun _ => 0))), (kF, .inl (cI, 20, .inl (fun _ => 0)))]) hD hS hA [0, 1, 2, 3, 4, 5, 6] rfl
    refine va_calli (va_runV (As := [.int (xs 1)]) (rest := []) ⟨hx, hb, hml, hown, hts⟩ (kX7_differenceMember l dC dI k0 kN kA kO kK kV kG kP kC kD kE kF kX kY kT kU cI (fun _ => 0) (fun _ => 0) (fun _ => 0) (fun _ => 0) (xs 1) H.size) (cwV 1 hts gL_law_X7_differenceMember rfl rfl rfl (by decide +kernel) ⟨Nat.le_of_ble_eq_true rfl, Nat.le_of_ble_eq_true rfl⟩) (fPreV hN hZ hS (fun q h => hFc q h) hPc hKc hDc (ci := 10) (q0 := 0) rfl rfl) rfl rfl hl.1 rfl (lv_room (Nat.le_of_ble_eq_true rfl)) dL_law_2362 ⟨Nat.le_of_ble_eq_true rfl, Nat.le_of_ble_eq_true rfl⟩) hS (fun q _ h => hFc q h) hFc (fun r u t H1 locs ht hvm hw hB hz1 hk1 hS => ?_)
    obtain ⟨hP1, hK1, hD1⟩ := hB
    rw [ht] at hP1
    have hK1 := va_K.moved hvm.symm hK1
    obtain ⟨u4, rfl⟩ : ∃ z, z = u := ⟨_, rfl⟩
    obtain ⟨hP, hD⟩ := va_join (wr := [(oJ, .inl (cJ, 1, .inr (.inl u2)))]) (w1 := [(k0, .inr (10, [.ref kN, .ref kA, .ref kO, .ref kK, .ref kV, .ref kG, .ref kP, .ref kC, .ref kD, .ref kE, .ref kF, .ref kX, .ref kY, .int 0, .ref kT, .ref kU, .int u4, .int 0, .int 0]))]) hP hD [0, 1, 2, 3, 4, 5, 6] [7] rfl rfl (by decide) (by decide) hk1 hFc hP1 hD1
    generalize H1 = H at hP hS ⊢
    have hP : va_P (dC, dI) vwCl [(oJ, .inl (cJ, 1, .inr (.inl u2))), (k0, .inr (10, [.ref kN, .ref kA, .ref kO, .ref kK, .ref kV, .ref kG, .ref kP, .ref kC, .ref kD, .ref kE, .ref kF, .ref kX, .ref kY, .int 0, .ref kT, .ref kU, .int u4, .int 0, .int 0]))] _ := hP
    have hD : va_D A [(oJ, .inl (cJ, 1, .inr (.inl u2))), (k0, .inr (10, [.ref kN, .ref kA, .ref kO, .ref kK, .ref kV, .ref kG, .ref kP, .ref kC, .ref kD, .ref kE, .ref kF, .ref kX, .ref kY, .int 0, .ref kT, .ref kU, .int u4, .int 0, .int 0]))] := hD
    refine W.widen (k := 151) (n := 2363) (Nat.le_of_ble_eq_true rfl) (Nat.le_of_ble_eq_true rfl) ?_
    obtain ⟨r5, rfl⟩ : ∃ z, z = r := ⟨_, rfl⟩
    subst hw
    have hP : va_P (dC, dI) vwCl [(oJ, .inl (cJ, 1, .inr (.inl u2))), (k0, .inr (10, [.ref kN, .ref kA, .ref kO, .ref kK, .ref kV, .ref kG, .ref kP, .ref kC, .ref kD, .ref kE, .ref kF, .ref kX, .ref kY, .int 0, .ref kT, .ref kU, .int 1, .int 0, .int 0]))] _ := hP
    have hD : va_D A [(oJ, .inl (cJ, 1, .inr (.inl u2))), (k0, .inr (10, [.ref kN, .ref kA, .ref kO, .ref kK, .ref kV, .ref kG, .ref kP, .ref kC, .ref kD, .ref kE, .ref kF, .ref kX, .ref kY, .int 0, .ref kT, .ref kU, .int 1, .int 0, .int 0]))] := hD
    refine lv_istore (lv' := [(7, .int r5), (6, .int 1), (5, .int 0), (4, .ref oD), (3, .ref oJ), (2, .ref k0), (1, .ref h0), (0, .ref b)]) hx hb dL_law_2365 hl (Nat.le_of_ble_eq_true rfl) rfl (fun ls hl => ?_)
    refine lv_aload_n hx hb dL_law_2367 rfl (lv_at hl 5 rfl) ?_
    have hPc := hP.sub (ws' := [(k0, .inr (10, [.ref kN, .ref kA, .ref kO, .ref kK, .ref kV, .ref kG, .ref kP, .ref kC, .ref kD, .ref kE, .ref kF, .ref kX, .ref kY, .int 0, .ref kT, .ref kU, .int 1, .int 0, .int 0]))]) [1] rfl
    have hDc := hD.sub (ws' := [(k0, .inr (10, [.ref kN, .ref kA, .ref kO, .ref kK, .ref kV, .ref kG, .ref kP, .ref kC, .ref kD, .ref kE, .ref kF, .ref kX, .ref kY, .int 0, .ref kT, .ref kU, .int 1, .int 0, .int 0]))]) [1] (by decide) rfl
    have hKc := hK.sub (tys' := []) [] rfl
    have hFc := va_free (wc := [(k0, .inr (10, [.ref kN, .ref kA, .ref kO, .ref kK, .ref kV, .ref kG, .ref kP, .ref kC, .ref kD, .ref kE, .ref kF, .ref kX, .ref kY, .int 0, .ref kT, .ref kU, .int 1, .int 0, .int 0]))]) hD hS hA [1] rfl
    refine va_calli (va_runV (As := []) (rest := []) ⟨hx, hb, hml, hown, hts⟩ (kX7_thrown l dC dI k0 kN kA kO kK kV kG kP kC kD kE kF kX kY kT kU 1 H.size) (cwV 0 hts gL_law_X7_thrown rfl rfl rfl (by decide +kernel) ⟨Nat.le_of_ble_eq_true rfl, Nat.le_of_ble_eq_true rfl⟩) (fPreV hN hZ hS (fun q h => hFc q h) hPc hKc hDc (ci := 10) (q0 := 0) rfl rfl) rfl rfl hl.1 rfl (lv_room (Nat.le_of_ble_eq_true rfl)) dL_law_2368 ⟨Nat.le_of_ble_eq_true rfl, Nat.le_of_ble_eq_true rfl⟩) hS (fun q _ h => hFc q h) hFc (fun r u t H1 locs ht hvm hw hB hz1 hk1 hS => ?_)
    obtain ⟨hP1, hK1, hD1⟩ := hB
    rw [ht] at hP1
    have hK1 := va_K.moved hvm.symm hK1
    obtain ⟨hP, hD⟩ := va_join (wr := [(oJ, .inl (cJ, 1, .inr (.inl u2)))]) (w1 := []) hP hD [1] [0] rfl rfl (by decide) (by decide) hk1 hFc hP1 hD1
    generalize H1 = H at hP hS ⊢
    have hP : va_P (dC, dI) vwCl [(oJ, .inl (cJ, 1, .inr (.inl u2)))] _ := hP
    have hD : va_D A [(oJ, .inl (cJ, 1, .inr (.inl u2)))] := hD
    subst hw
    refine lv_iload hx hb dL_law_2371 (lv_at hl 1 rfl) ?_
    refine lv_icmp_eq (tgt := 2378) hx hb dL_law_2373 (by decide) (fun _ => ?_) (fun h9 => absurd (by decide) h9)
    refine lv_iload hx hb dL_law_2378 (lv_at hl 1 rfl) ?_
    refine lv_if_ne (tgt := 2395) hx hb dL_law_2380 (by decide) (fun _ => ?_) (fun h9 => absurd h9 (by decide))
    refine lv_goto (tgt := 2720) hx hb dL_law_2395 (by decide) ?_
    refine lv_iinc (v := 7) (lv' := [(5, .int 7), (7, .int r5), (6, .int 1), (4, .ref oD), (3, .ref oJ), (2, .ref k0), (1, .ref h0), (0, .ref b)]) hx hb dL_law_2720 hl (k := 2) rfl (by decide) (Nat.le_of_ble_eq_true rfl) rfl (fun ls hl => ?_)
    refine lv_goto (tgt := 28) hx hb dL_law_2723 (by decide) ?_
    refine lv_iload hx hb dL_law_28 (lv_at hl 0 rfl) ?_
    refine lv_aload_n hx hb dL_law_30 rfl (lv_at hl 7 rfl) ?_
    refine va_slen hx hb hX9 hbl hbA hS dL_law_31 ?_
    refine W.eq (g2 := F0 m 32 ls [.int 7, .int 7]) rfl ?_
    refine lv_bipush (v := 7) hx hb dL_law_32 (by decide) ?_
    refine lv_isub hx hb dL_law_34 ?_
    refine lv_topi (fun y6 ey6 => ?_)
    obtain rfl : y6 = 0 := ey6.trans (by decide)
    refine lv_icmp_gt (tgt := 2726) hx hb dL_law_35 (by decide) (fun _ => ?_) (fun h9 => absurd (by decide) h9)
    refine lv_iconst (v := 1) hx hb dL_law_2726 (by decide) ?_
    refine va_forget (fun q hq => hAe _ (hS.2.2 q hq)) ?_
    refine W.widen (k := 603072) (n := 7198826) (Nat.le_of_ble_eq_true rfl) (Nat.le_of_ble_eq_true rfl) ?_
    exact W.base (lw_ret (d0 := s.drawn) (Drawn.sameBut.refl _ _) hx hb hr hlk dL_law_2727)

set_option maxHeartbeats 4000000 in
set_option maxRecDepth 100000 in
/-- case 36 of the law: differenceDistance, on fresh objects -/
theorem lc_36 {p : Program} {e : Env} {s : State} {m : MethodId} {below : List Frame} {meth : Method} {c : Code} (l : Launch) (hfl : l.stackTraces = false) {b : Nat} {xs : Nat → Int32} (hx : p.tables.exec = Jvm.exec) (hb : c.code = cL_law) (hr : meth.sig.returnType = ret) (hml : c.maxLocals = 9) (hown : s.vm.findClass RL = some m.cls) (hts : ∀ w ∈ wsL_law, w.before #[Value.ref b] s = true) (hlk : meth.locks = false) (A : Nat → Prop) (hAe : ∀ q, A q → s.heap.size ≤ q) (hA : ∀ q : Nat, s.heap.size ≤ q → A q) (hX9 : va_X b 7 xs s s.heap) (hbl : b < s.heap.size) (hN : fN s) (hZ : fZ A s s.heap) (hX : fX s) (dC : Nat → ClassId) (dI : Nat → Nat → Nat) (h0 w d wL wP wS dL dP dS co on onR onL onC onD op opR opL opC opD un unK ma tm k0 kN kA kO kK kV kG kP kC kD kE kF kX kY kT kU oJ oD : Nat) (cI cJ : ClassId) {H : Heap} {locs : List Loc} {ls : Array Slot} (hK : va_K (dC, dI) vwCl [(cI, .int), (cJ, .long)] s) (hP : va_P (dC, dI) vwCl [(h0, .inr (9, [.ref w, .ref d, .ref co, .ref un, .ref ma, .ref tm, .int 0, .int 0, .int 0])), (co, .inr (4, [.ref w, .ref d, .ref on, .ref op, .int 0])), (w, .inr (3, [.int 0, .int 0, .ref wL, .ref wP, .ref wS])), (d, .inr (3, [.int 0, .int 0, .ref dL, .ref dP, .ref dS])), (on, .inr (7, [.ref onR, .ref onL, .ref onC, .ref onD, .int 0])), (onL, .inl (cI, 20, .inl (fun _ => 0))), (onC, .inl (cI, 20, .inl (fun _ => 0))), (op, .inr (7, [.ref opR, .ref opL, .ref opC, .ref opD, .int 0])), (opL, .inl (cI, 20, .inl (fun _ => 0))), (opC, .inl (cI, 20, .inl (fun _ => 0))), (un, .inr (5, [.ref unK, .int 0])), (k0, .inr (10, [.ref kN, .ref kA, .ref kO, .ref kK, .ref kV, .ref kG, .ref kP, .ref kC, .ref kD, .ref kE, .ref kF, .ref kX, .ref kY, .int 0, .ref kT, .ref kU, .int 0, .int 0, .int 0])), (kN, .inl (cI, 2, .inl (fun _ => 0))), (kA, .inl (cI, 2, .inl (fun _ => 0))), (kC, .inl (cI, 20, .inl (fun _ => 0))), (kD, .inl (cI, 20, .inl (fun _ => 0))), (kE, .inl (cI, 20, .inl (fun _ => 0))), (kF, .inl (cI, 20, .inl (fun _ => 0))), (oJ, .inl (cJ, 1, .inr (.inl (fun _ => 0))))] H) (hD : va_D A [(h0, .inr (9, [.ref w, .ref d, .ref co, .ref un, .ref ma, .ref tm, .int 0, .int 0, .int 0])), (co, .inr (4, [.ref w, .ref d, .ref on, .ref op, .int 0])), (w, .inr (3, [.int 0, .int 0, .ref wL, .ref wP, .ref wS])), (d, .inr (3, [.int 0, .int 0, .ref dL, .ref dP, .ref dS])), (on, .inr (7, [.ref onR, .ref onL, .ref onC, .ref onD, .int 0])), (onL, .inl (cI, 20, .inl (fun _ => 0))), (onC, .inl (cI, 20, .inl (fun _ => 0))), (op, .inr (7, [.ref opR, .ref opL, .ref opC, .ref opD, .int 0])), (opL, .inl (cI, 20, .inl (fun _ => 0))), (opC, .inl (cI, 20, .inl (fun _ => 0))), (un, .inr (5, [.ref unK, .int 0])), (k0, .inr (10, [.ref kN, .ref kA, .ref kO, .ref kK, .ref kV, .ref kG, .ref kP, .ref kC, .ref kD, .ref kE, .ref kF, .ref kX, .ref kY, .int 0, .ref kT, .ref kU, .int 0, .int 0, .int 0])), (kN, .inl (cI, 2, .inl (fun _ => 0))), (kA, .inl (cI, 2, .inl (fun _ => 0))), (kC, .inl (cI, 20, .inl (fun _ => 0))), (kD, .inl (cI, 20, .inl (fun _ => 0))), (kE, .inl (cI, 20, .inl (fun _ => 0))), (kF, .inl (cI, 20, .inl (fun _ => 0))), (oJ, .inl (cJ, 1, .inr (.inl (fun _ => 0))))]) (hS : va_S A s.heap H locs) (hl : lv_has ls 9 [(5, .int 0), (4, .ref oD), (3, .ref oJ), (2, .ref k0), (1, .ref h0), (0, .ref b)]) : W p l e room_1 s m #[Value.ref b] below meth c H locs 148 2317 (lw_Z below #[Value.ref b] s) (F0 m 2398 ls []) := by
  have hbA : ¬ A b := fun h => Nat.not_le.mpr hbl (hAe _ h)
  have hX0 := hX
  refine lv_aload_n hx hb dL_law_2398 rfl (lv_at hl 4 rfl) ?_
  refine lv_aload_n hx hb dL_law_2399 rfl (lv_at hl 5 rfl) ?_
  refine lv_iload hx hb dL_law_2400 (lv_at hl 0 rfl) ?_
  refine lv_iconst (v := 1) hx hb dL_law_2402 (by decide) ?_
  refine lv_iadd hx hb dL_law_2403 ?_
  refine lv_topi (fun y1 ey1 => ?_)
  obtain rfl : y1 = 1 := ey1.trans (by decide)
  refine va_sld hx hb hX9 hbl hbA hS (show ¬ (_ ∨ _) by decide) dL_law_2404 ?_
  refine W.eq (g2 := F0 m 2405 ls [.int (xs 1), .ref h0]) rfl ?_
  refine lv_aload_n hx hb dL_law_2405 rfl (lv_at hl 2 rfl) ?_
  have hPc := hP.sub (ws' := [(h0, .inr (9, [.ref w, .ref d, .ref co, .ref un, .ref ma, .ref tm, .int 0, .int 0, .int 0])), (co, .inr (4, [.ref w, .ref d, .ref on, .ref op, .int 0])), (w, .inr (3, [.int 0, .int 0, .ref wL, .ref wP, .ref wS])), (d, .inr (3, [.int 0, .int 0, .ref dL, .ref dP, .ref dS])), (on, .inr (7, [.ref onR, .ref onL, .ref onC, .ref onD, .int 0])), (onL, .inl (cI, 20, .inl (fun _ => 0))), (onC, .inl (cI, 20, .inl (fun _ => 0))), (op, .inr (7, [.ref opR, .ref opL, .ref opC, .ref opD, .int 0])), (opL, .inl (cI, 20, .inl (fun _ => 0))), (opC, .inl (cI, 20, .inl (fun _ => 0))), (un, .inr (5, [.ref unK, .int 0])), (oJ, .inl (cJ, 1, .inr (.inl (fun _ => 0))))]) [0, 1, 2, 3, 4, 5, 6, 7, 8, 9, 10, 18] rfl
  have hDc := hD.sub (ws' := [(h0, .inr (9, [.ref w, .ref d, .ref co, .ref un, .ref ma, .ref tm, .int 0, .int 0, .int 0])), (co, .inr (4, [.ref w, .ref d, .ref on, .ref op, .int 0])), (w, .inr (3, [.int 0, .int 0, .ref wL, .ref wP, .ref wS])), (d, .inr (3, [.int 0, .int 0, .ref dL, .ref dP, .ref dS])), (on, .inr (7, [.ref onR, .ref onL, .ref onC, .ref onD, .int 0])), (onL, .inl (cI, 20, .inl (fun _ => 0))), (onC, .inl (cI, 20, .inl (fun _ => 0))), (op, .inr (7, [.ref opR, .ref opL, .ref opC, .ref opD, .int 0])), (opL, .inl (cI, 20, .inl (fun _ => 0))), (opC, .inl (cI, 20, .inl (fun _ => 0))), (un, .inr (5, [.ref unK, .int 0])), (oJ, .inl (cJ, 1, .inr (.inl (fun _ => 0))))]) [0, 1, 2, 3, 4, 5, 6, 7, 8, 9, 10, 18] (by decide) rfl
  have hKc := hK.sub (tys' := [(cI, .int), (cJ, .long)]) [0, 1] rfl
  have hFc := va_free (wc := [(h0, .inr (9, [.ref w, .ref d, .ref co, .ref un, .ref ma, .ref tm, .int 0, .int 0, .int 0])), (co, .inr (4, [.ref w, .ref d, .ref on, .ref op, .int 0])), (w, .inr (3, [.int 0, .int 0, .ref wL, .ref wP, .ref wS])), (d, .inr (3, [.int 0, .int 0, .ref dL, .ref dP, .ref dS])), (on, .inr (7, [.ref onR, .ref onL, .ref onC, .ref onD, .int 0])), (onL, .inl (cI, 20, .inl (fun _ => 0))), (onC, .inl (cI, 20, .inl (fun _ => 0))), (op, .inr (7, [.ref opR, .ref opL, .ref opC, .ref opD, .int 0])), (opL, .inl (cI, 20, .inl (fun _ => 0))), (opC, .inl (cI, 20, .inl (fun _ => 0))), (un, .inr (5, [.ref unK, .int 0])), (oJ, .inl (cJ, 1, .inr (.inl (fun _ => 0))))]) hD hS hA [0, 1, 2, 3, 4, 5, 6, 7, 8, 9, 10, 18] rfl
  refine vx_calli (vx_runSX (As := [.ref h0, .int (xs 1), .ref oJ]) (rest := []) ⟨hx, hb, hml, hown, hts⟩ (kL_differenceDistance l hfl dC dI h0 ma tm un unK co w wL wP wS d dL dP dS on onR onL onC onD op opR opL opC opD cI (fun _ => 0) (fun _ => 0) oJ cJ (xs 1) H.size) (vx_cwSW 3 hts gL_law_L_differenceDistance rfl rfl rfl (by decide +kernel) ⟨Nat.le_of_ble_eq_true rfl, Nat.le_of_ble_eq_true rfl⟩) (gPreS hX hN hZ hS (fun q h => hFc q h) hPc hKc hDc) rfl rfl hl.1 rfl (lv_room (Nat.le_of_ble_eq_true rfl)) dL_law_2406 ⟨Nat.le_of_ble_eq_true rfl, Nat.le_of_ble_eq_true rfl⟩) hS (fun q _ h => hFc q h) hFc (fun q _ h => hFc q h) (fun E ce q9 u t H locs ht hvm hpx hE hz1 hk1 hS hq9 hv9 hc9 => ?_) (fun r u t H1 locs ht hvm hw hB hz1 hk1 hS => ?_)
  · skip
    exact hE.elim
  · skip
    obtain ⟨hP1, hK1, hD1⟩ := hB
    rw [ht] at hP1
    have hK1 := va_K.moved hvm.symm hK1
    obtain ⟨u2, rfl⟩ : ∃ z, z = u := ⟨_, rfl⟩
    obtain ⟨hP, hD⟩ := va_join (wr := [(k0, .inr (10, [.ref kN, .ref kA, .ref kO, .ref kK, .ref kV, .ref kG, .ref kP, .ref kC, .ref kD, .ref kE, .ref kF, .ref kX, .ref kY, .int 0, .ref kT, .ref kU, .int 0, .int 0, .int 0])), (kN, .inl (cI, 2, .inl (fun _ => 0))), (kA, .inl (cI, 2, .inl (fun _ => 0))), (kC, .inl (cI, 20, .inl (fun _ => 0))), (kD, .inl (cI, 20, .inl (fun _ => 0))), (kE, .inl (cI, 20, .inl (fun _ => 0))), (kF, .inl (cI, 20, .inl (fun _ => 0)))]) (w1 := [(oJ, .inl (cJ, 1, .inr (.inl u2)))]) hP hD [0, 1, 2, 3, 4, 5, 6, 7, 8, 9, 10, 18] [11, 12, 13, 14, 15, 16, 17] rfl rfl (by decide) (by decide) hk1 hFc hP1 hD1
    generalize H1 = H at hP hS ⊢
    have hP : va_P (dC, dI) vwCl [(k0, .inr (10, [.ref kN, .ref kA, .ref kO, .ref kK, .ref kV, .ref kG, .ref kP, .ref kC, .ref kD, .ref kE, .ref kF, .ref kX, .ref kY, .int 0, .ref kT, .ref kU, .int 0, .int 0, .int 0])), (kN, .inl (cI, 2, .inl (fun _ => 0))), (kA, .inl (cI, 2, .inl (fun _ => 0))), (kC, .inl (cI, 20, .inl (fun _ => 0))), (kD, .inl (cI, 20, .inl (fun _ => 0))), (kE, .inl (cI, 20, .inl (fun _ => 0))), (kF, .inl (cI, 20, .inl (fun _ => 0))), (oJ, .inl (cJ, 1, .inr (.inl u2)))] _ := hP
    have hD : va_D A [(k0, .inr (10, [.ref kN, .ref kA, .ref kO, .ref kK, .ref kV, .ref kG, .ref kP, .ref kC, .ref kD, .ref kE, .ref kF, .ref kX, .ref kY, .int 0, .ref kT, .ref kU, .int 0, .int 0, .int 0])), (kN, .inl (cI, 2, .inl (fun _ => 0))), (kA, .inl (cI, 2, .inl (fun _ => 0))), (kC, .inl (cI, 20, .inl (fun _ => 0))), (kD, .inl (cI, 20, .inl (fun _ => 0))), (kE, .inl (cI, 20, .inl (fun _ => 0))), (kF, .inl (cI, 20, .inl (fun _ => 0))), (oJ, .inl (cJ, 1, .inr (.inl u2)))] := hD
    refine W.widen (k := 149) (n := 2323) (Nat.le_of_ble_eq_true rfl) (Nat.le_of_ble_eq_true rfl) ?_
    subst hw
    refine lv_istore (lv' := [(6, .int 1), (5, .int 0), (4, .ref oD), (3, .ref oJ), (2, .ref k0), (1, .ref h0), (0, .ref b)]) hx hb dL_law_2409 hl (Nat.le_of_ble_eq_true rfl) rfl (fun ls hl => ?_)
    refine lv_aload_n hx hb dL_law_2411 rfl (lv_at hl 4 rfl) ?_
    refine lv_aload_n hx hb dL_law_2412 rfl (lv_at hl 6 rfl) ?_
    refine lv_iload hx hb dL_law_2413 (lv_at hl 1 rfl) ?_
    refine lv_iconst (v := 1) hx hb dL_law_2415 (by decide) ?_
    refine lv_iadd hx hb dL_law_2416 ?_
    refine lv_topi (fun y3 ey3 => ?_)
    obtain rfl : y3 = 1 := ey3.trans (by decide)
    refine va_sld hx hb hX9 hbl hbA hS (show ¬ (_ ∨ _) by decide) dL_law_2417 ?_
    refine W.eq (g2 := F0 m 2418 ls [.int (xs 1), .ref k0]) rfl ?_
    have hPc := hP.sub (ws' := [(k0, .inr (10, [.ref kN, .ref kA, .ref kO, .ref kK, .ref kV, .ref kG, .ref kP, .ref kC, .ref kD, .ref kE, .ref kF, .ref kX, .ref kY, .int 0, .ref kT, .ref kU, .int 0, .int 0, .int 0])), (kN, .inl (cI, 2, .inl (fun _ => 0))), (kA, .inl (cI, 2, .inl (fun _ => 0))), (kC, .inl (cI, 20, .inl (fun _ => 0))), (kD, .inl (cI, 20, .inl (fun _ => 0))), (kE, .inl (cI, 20, .inl (fun _ => 0))), (kF, .inl (cI, 20, .inl (fun _ => 0)))]) [0, 1, 2, 3, 4, 5, 6] rfl
    have hDc := hD.sub (ws' := [(k0, .inr (10, [.ref kN, .ref kA, .ref kO, .ref kK, .ref kV, .ref kG, .ref kP, .ref kC, .ref kD, .ref kE, .ref kF, .ref kX, .ref kY, .int 0, .ref kT, .ref kU, .int 0, .int 0, .int 0])), (kN, .inl (cI, 2, .inl (fun _ => 0))), (kA, .inl (cI, 2, .inl (fun _ => 0))), (kC, .inl (cI, 20, .inl (fun _ => 0))), (kD, .inl (cI, 20, .inl (fun _ => 0))), (kE, .inl (cI, 20, .inl (fun _ => 0))), (kF, .inl (cI, 20, .inl (fun _ => 0)))]) [0, 1, 2, 3, 4, 5, 6] (by decide) rfl
    have hKc := hK.sub (tys' := [(cI, .int)]) [0] rfl
    have hFc := va_free (wc := [(k0, .inr (10, [.ref kN, .ref kA, .ref kO, .ref kK, .ref kV, .ref kG, .ref kP, .ref kC, .ref kD, .ref kE, .ref kF, .ref kX, .ref kY, .int 0, .ref kT, .ref kU, .int 0, .int 0, .int 0])), (kN, .inl (cI, 2, .inl (fun _ => 0))), (kA, .inl (cI, 2, .inl (fun _ => 0))), (kC, .inl (cI, 20, .inl (fun _ => 0))), (kD, .inl (cI, 20, .inl (fun _ => 0))), (kE, .inl (cI, 20, .inl (fun _ => 0))), (kF, .inl (cI, 20, .inl (fun _ => 0)))]) hD hS hA [0, 1, 2, 3, 4, 5, 6] rfl
    refine va_calli (va_runV (As := [.int (xs 1)]) (rest := []) ⟨hx, hb, hml, hown, hts⟩ (kX7_differenceDistance l dC dI k0 kN kA kO kK kV kG kP kC kD kE kF kX kY kT kU cI (fun _ => 0) (fun _ => 0) (fun _ => 0) (fun _ => 0) (xs 1) H.size) (cwV 1 hts gL_law_X7_differenceDistance rfl rfl rfl (by decide +kernel) ⟨Nat.le_of_ble_eq_true rfl, Nat.le_of_ble_eq_true rfl⟩) (fPreV hN hZ hS (fun q h => hFc q h) hPc hKc hDc (ci := 10) (q0 := 0) rfl rfl) rfl rfl hl.1 rfl (lv_room (Nat.le_of_ble_eq_true rfl)) dL_law_2418 ⟨Nat.le_of_ble_eq_true rfl, Nat.le_of_ble_eq_true rfl⟩) hS (fun q _ h => hFc q h) hFc (fun r u t H1 locs ht hvm hw hB hz1 hk1 hS => ?_)
    obtain ⟨hP1, hK1, hD1⟩ := hB
    rw [ht] at hP1
    have hK1 := va_K.moved hvm.symm hK1
    obtain ⟨u4, rfl⟩ : ∃ z, z = u := ⟨_, rfl⟩
    obtain ⟨hP, hD⟩ := va_join (wr := [(oJ, .inl (cJ, 1, .inr (.inl u2)))]) (w1 := [(k0, .inr (10, [.ref kN, .ref kA, .ref kO, .ref kK, .ref kV, .ref kG, .ref kP, .ref kC, .ref kD, .ref kE, .ref kF, .ref kX, .ref kY, .int 0, .ref kT, .ref kU, .int u4, .int 0, .int 0]))]) hP hD [0, 1, 2, 3, 4, 5, 6] [7] rfl rfl (by decide) (by decide) hk1 hFc hP1 hD1
    generalize H1 = H at hP hS ⊢
    have hP : va_P (dC, dI) vwCl [(oJ, .inl (cJ, 1, .inr (.inl u2))), (k0, .inr (10, [.ref kN, .ref kA, .ref kO, .ref kK, .ref kV, .ref kG, .ref kP, .ref kC, .ref kD, .ref kE, .ref kF, .ref kX, .ref kY, .int 0, .ref kT, .ref kU, .int u4, .int 0, .int 0]))] _ := hP
    have hD : va_D A [(oJ, .inl (cJ, 1, .inr (.inl u2))), (k0, .inr (10, [.ref kN, .ref kA, .ref kO, .ref kK, .ref kV, .ref kG, .ref kP, .ref kC, .ref kD, .ref kE, .ref kF, .ref kX, .ref kY, .int 0, .ref kT, .ref kU, .int u4, .int 0, .int 0]))] := hD
    refine W.widen (k := 151) (n := 2363) (Nat.le_of_ble_eq_true rfl) (Nat.le_of_ble_eq_true rfl) ?_
    obtain ⟨r5, rfl⟩ : ∃ z, z = r := ⟨_, rfl⟩
    subst hw
    have hP : va_P (dC, dI) vwCl [(oJ, .inl (cJ, 1, .inr (.inl u2))), (k0, .inr (10, [.ref kN, .ref kA, .ref kO, .ref kK, .ref kV, .ref kG, .ref kP, .ref kC, .ref kD, .ref kE, .ref kF, .ref kX, .ref kY, .int 0, .ref kT, .ref kU, .int 1, .int 0, .int 0]))] _ := hP
    have hD : va_D A [(oJ, .inl (cJ, 1, .inr (.inl u2))), (k0, .inr (10, [.ref kN, .ref kA, .ref kO, .ref kK, .ref kV, .ref kG, .ref kP, .ref kC, .ref kD, .ref kE, .ref kF, .ref kX, .ref kY, .int 0, .ref kT, .ref kU, .int 1, .int 0, .int 0]))] := hD
    refine lv_istore (lv' := [(7, .int r5), (6, .int 1), (5, .int 0), (4, .ref oD), (3, .ref oJ), (2, .ref k0), (1, .ref h0), (0, .ref b)]) hx hb dL_law_2421 hl (Nat.le_of_ble_eq_true rfl) rfl (fun ls hl => ?_)
    refine lv_aload_n hx hb dL_law_2423 rfl (lv_at hl 5 rfl) ?_
    have hPc := hP.sub (ws' := [(k0, .inr (10, [.ref kN, .ref kA, .ref kO, .ref kK, .ref kV, .ref kG, .ref kP, .ref kC, .ref kD, .ref kE, .ref kF, .ref kX, .ref kY, .int 0, .ref kT, .ref kU, .int 1, .int 0, .int 0]))]) [1] rfl
    have hDc := hD.sub (ws' := [(k0, .inr (10, [.ref kN, .ref kA, .ref kO, .ref kK, .ref kV, .ref kG, .ref kP, .ref kC, .ref kD, .ref kE, .ref kF, .ref kX, .ref kY, .int 0, .ref kT, .ref kU, .int 1, .int 0, .int 0]))]) [1] (by decide) rfl
    have hKc := hK.sub (tys' := []) [] rfl
    have hFc := va_free (wc := [(k0, .inr (10, [.ref kN, .ref kA, .ref kO, .ref kK, .ref kV, .ref kG, .ref kP, .ref kC, .ref kD, .ref kE, .ref kF, .ref kX, .ref kY, .int 0, .ref kT, .ref kU, .int 1, .int 0, .int 0]))]) hD hS hA [1] rfl
    refine va_calli (va_runV (As := []) (rest := []) ⟨hx, hb, hml, hown, hts⟩ (kX7_thrown l dC dI k0 kN kA kO kK kV kG kP kC kD kE kF kX kY kT kU 1 H.size) (cwV 0 hts gL_law_X7_thrown rfl rfl rfl (by decide +kernel) ⟨Nat.le_of_ble_eq_true rfl, Nat.le_of_ble_eq_true rfl⟩) (fPreV hN hZ hS (fun q h => hFc q h) hPc hKc hDc (ci := 10) (q0 := 0) rfl rfl) rfl rfl hl.1 rfl (lv_room (Nat.le_of_ble_eq_true rfl)) dL_law_2424 ⟨Nat.le_of_ble_eq_true rfl, Nat.le_of_ble_eq_true rfl⟩) hS (fun q _ h => hFc q h) hFc (fun r u t H1 locs ht hvm hw hB hz1 hk1 hS => ?_)
    obtain ⟨hP1, hK1, hD1⟩ := hB
    rw [ht] at hP1
    have hK1 := va_K.moved hvm.symm hK1
    obtain ⟨hP, hD⟩ := va_join (wr := [(oJ, .inl (cJ, 1, .inr (.inl u2)))]) (w1 := []) hP hD [1] [0] rfl rfl (by decide) (by decide) hk1 hFc hP1 hD1
    generalize H1 = H at hP hS ⊢
    have hP : va_P (dC, dI) vwCl [(oJ, .inl (cJ, 1, .inr (.inl u2)))] _ := hP
    have hD : va_D A [(oJ, .inl (cJ, 1, .inr (.inl u2)))] := hD
    subst hw
    refine lv_iload hx hb dL_law_2427 (lv_at hl 1 rfl) ?_
    refine lv_icmp_eq (tgt := 2434) hx hb dL_law_2429 (by decide) (fun _ => ?_) (fun h9 => absurd (by decide) h9)
    refine lv_iload hx hb dL_law_2434 (lv_at hl 1 rfl) ?_
    refine lv_if_ne (tgt := 2451) hx hb dL_law_2436 (by decide) (fun _ => ?_) (fun h9 => absurd h9 (by decide))
    refine lv_goto (tgt := 2720) hx hb dL_law_2451 (by decide) ?_
    refine lv_iinc (v := 7) (lv' := [(5, .int 7), (7, .int r5), (6, .int 1), (4, .ref oD), (3, .ref oJ), (2, .ref k0), (1, .ref h0), (0, .ref b)]) hx hb dL_law_2720 hl (k := 2) rfl (by decide) (Nat.le_of_ble_eq_true rfl) rfl (fun ls hl => ?_)
    refine lv_goto (tgt := 28) hx hb dL_law_2723 (by decide) ?_
    refine lv_iload hx hb dL_law_28 (lv_at hl 0 rfl) ?_
    refine lv_aload_n hx hb dL_law_30 rfl (lv_at hl 7 rfl) ?_
    refine va_slen hx hb hX9 hbl hbA hS dL_law_31 ?_
    refine W.eq (g2 := F0 m 32 ls [.int 7, .int 7]) rfl ?_
    refine lv_bipush (v := 7) hx hb dL_law_32 (by decide) ?_
    refine lv_isub hx hb dL_law_34 ?_
    refine lv_topi (fun y6 ey6 => ?_)
    obtain rfl : y6 = 0 := ey6.trans (by decide)
    refine lv_icmp_gt (tgt := 2726) hx hb dL_law_35 (by decide) (fun _ => ?_) (fun h9 => absurd (by decide) h9)
    refine lv_iconst (v := 1) hx hb dL_law_2726 (by decide) ?_
    refine va_forget (fun q hq => hAe _ (hS.2.2 q hq)) ?_
    refine W.widen (k := 603072) (n := 7198826) (Nat.le_of_ble_eq_true rfl) (Nat.le_of_ble_eq_true rfl) ?_
    exact W.base (lw_ret (d0 := s.drawn) (Drawn.sameBut.refl _ _) hx hb hr hlk dL_law_2727)

set_option maxHeartbeats 4000000 in
set_option maxRecDepth 100000 in
/-- case 37 of the law: differenceSize, on fresh objects -/
theorem lc_37 {p : Program} {e : Env} {s : State} {m : MethodId} {below : List Frame} {meth : Method} {c : Code} (l : Launch) (hfl : l.stackTraces = false) {b : Nat} {xs : Nat → Int32} (hx : p.tables.exec = Jvm.exec) (hb : c.code = cL_law) (hr : meth.sig.returnType = ret) (hml : c.maxLocals = 9) (hown : s.vm.findClass RL = some m.cls) (hts : ∀ w ∈ wsL_law, w.before #[Value.ref b] s = true) (hlk : meth.locks = false) (A : Nat → Prop) (hAe : ∀ q, A q → s.heap.size ≤ q) (hA : ∀ q : Nat, s.heap.size ≤ q → A q) (hX9 : va_X b 7 xs s s.heap) (hbl : b < s.heap.size) (hN : fN s) (hZ : fZ A s s.heap) (hX : fX s) (dC : Nat → ClassId) (dI : Nat → Nat → Nat) (h0 w d wL wP wS dL dP dS co on onR onL onC onD op opR opL opC opD un unK ma tm k0 kN kA kO kK kV kG kP kC kD kE kF kX kY kT kU oJ oD : Nat) (cI cJ : ClassId) {H : Heap} {locs : List Loc} {ls : Array Slot} (hK : va_K (dC, dI) vwCl [(cI, .int), (cJ, .long)] s) (hP : va_P (dC, dI) vwCl [(h0, .inr (9, [.ref w, .ref d, .ref co, .ref un, .ref ma, .ref tm, .int 0, .int 0, .int 0])), (co, .inr (4, [.ref w, .ref d, .ref on, .ref op, .int 0])), (w, .inr (3, [.int 0, .int 0, .ref wL, .ref wP, .ref wS])), (d, .inr (3, [.int 0, .int 0, .ref dL, .ref dP, .ref dS])), (on, .inr (7, [.ref onR, .ref onL, .ref onC, .ref onD, .int 0])), (onL, .inl (cI, 20, .inl (fun _ => 0))), (onC, .inl (cI, 20, .inl (fun _ => 0))), (op, .inr (7, [.ref opR, .ref opL, .ref opC, .ref opD, .int 0])), (opL, .inl (cI, 20, .inl (fun _ => 0))), (opC, .inl (cI, 20, .inl (fun _ => 0))), (un, .inr (5, [.ref unK, .int 0])), (k0, .inr (10, [.ref kN, .ref kA, .ref kO, .ref kK, .ref kV, .ref kG, .ref kP, .ref kC, .ref kD, .ref kE, .ref kF, .ref kX, .ref kY, .int 0, .ref kT, .ref kU, .int 0, .int 0, .int 0])), (kN, .inl (cI, 2, .inl (fun _ => 0))), (kA, .inl (cI, 2, .inl (fun _ => 0))), (kC, .inl (cI, 20, .inl (fun _ => 0))), (kD, .inl (cI, 20, .inl (fun _ => 0))), (kE, .inl (cI, 20, .inl (fun _ => 0))), (kF, .inl (cI, 20, .inl (fun _ => 0))), (oJ, .inl (cJ, 1, .inr (.inl (fun _ => 0))))] H) (hD : va_D A [(h0, .inr (9, [.ref w, .ref d, .ref co, .ref un, .ref ma, .ref tm, .int 0, .int 0, .int 0])), (co, .inr (4, [.ref w, .ref d, .ref on, .ref op, .int 0])), (w, .inr (3, [.int 0, .int 0, .ref wL, .ref wP, .ref wS])), (d, .inr (3, [.int 0, .int 0, .ref dL, .ref dP, .ref dS])), (on, .inr (7, [.ref onR, .ref onL, .ref onC, .ref onD, .int 0])), (onL, .inl (cI, 20, .inl (fun _ => 0))), (onC, .inl (cI, 20, .inl (fun _ => 0))), (op, .inr (7, [.ref opR, .ref opL, .ref opC, .ref opD, .int 0])), (opL, .inl (cI, 20, .inl (fun _ => 0))), (opC, .inl (cI, 20, .inl (fun _ => 0))), (un, .inr (5, [.ref unK, .int 0])), (k0, .inr (10, [.ref kN, .ref kA, .ref kO, .ref kK, .ref kV, .ref kG, .ref kP, .ref kC, .ref kD, .ref kE, .ref kF, .ref kX, .ref kY, .int 0, .ref kT, .ref kU, .int 0, .int 0, .int 0])), (kN, .inl (cI, 2, .inl (fun _ => 0))), (kA, .inl (cI, 2, .inl (fun _ => 0))), (kC, .inl (cI, 20, .inl (fun _ => 0))), (kD, .inl (cI, 20, .inl (fun _ => 0))), (kE, .inl (cI, 20, .inl (fun _ => 0))), (kF, .inl (cI, 20, .inl (fun _ => 0))), (oJ, .inl (cJ, 1, .inr (.inl (fun _ => 0))))]) (hS : va_S A s.heap H locs) (hl : lv_has ls 9 [(5, .int 0), (4, .ref oD), (3, .ref oJ), (2, .ref k0), (1, .ref h0), (0, .ref b)]) : W p l e room_1 s m #[Value.ref b] below meth c H locs 148 2317 (lw_Z below #[Value.ref b] s) (F0 m 2454 ls []) := by
  have hbA : ¬ A b := fun h => Nat.not_le.mpr hbl (hAe _ h)
  have hX0 := hX
  refine lv_aload_n hx hb dL_law_2454 rfl (lv_at hl 4 rfl) ?_
  refine lv_aload_n hx hb dL_law_2455 rfl (lv_at hl 5 rfl) ?_
  refine lv_iload hx hb dL_law_2456 (lv_at hl 0 rfl) ?_
  refine lv_iconst (v := 1) hx hb dL_law_2458 (by decide) ?_
  refine lv_iadd hx hb dL_law_2459 ?_
  refine lv_topi (fun y1 ey1 => ?_)
  obtain rfl : y1 = 1 := ey1.trans (by decide)
  refine va_sld hx hb hX9 hbl hbA hS (show ¬ (_ ∨ _) by decide) dL_law_2460 ?_
  refine W.eq (g2 := F0 m 2461 ls [.int (xs 1), .ref h0]) rfl ?_
  refine lv_aload_n hx hb dL_law_2461 rfl (lv_at hl 5 rfl) ?_
  refine lv_iload hx hb dL_law_2462 (lv_at hl 0 rfl) ?_
  refine lv_iconst (v := 2) hx hb dL_law_2464 (by decide) ?_
  refine lv_iadd hx hb dL_law_2465 ?_
  refine lv_topi (fun y2 ey2 => ?_)
  obtain rfl : y2 = 2 := ey2.trans (by decide)
  refine va_sld hx hb hX9 hbl hbA hS (show ¬ (_ ∨ _) by decide) dL_law_2466 ?_
  refine W.eq (g2 := F0 m 2467 ls [.int (xs 2), .int (xs 1), .ref h0]) rfl ?_
  refine lv_aload_n hx hb dL_law_2467 rfl (lv_at hl 2 rfl) ?_
  have hPc := hP.sub (ws' := [(h0, .inr (9, [.ref w, .ref d, .ref co, .ref un, .ref ma, .ref tm, .int 0, .int 0, .int 0])), (co, .inr (4, [.ref w, .ref d, .ref on, .ref op, .int 0])), (w, .inr (3, [.int 0, .int 0, .ref wL, .ref wP, .ref wS])), (d, .inr (3, [.int 0, .int 0, .ref dL, .ref dP, .ref dS])), (on, .inr (7, [.ref onR, .ref onL, .ref onC, .ref onD, .int 0])), (onL, .inl (cI, 20, .inl (fun _ => 0))), (onC, .inl (cI, 20, .inl (fun _ => 0))), (op, .inr (7, [.ref opR, .ref opL, .ref opC, .ref opD, .int 0])), (opL, .inl (cI, 20, .inl (fun _ => 0))), (opC, .inl (cI, 20, .inl (fun _ => 0))), (un, .inr (5, [.ref unK, .int 0])), (oJ, .inl (cJ, 1, .inr (.inl (fun _ => 0))))]) [0, 1, 2, 3, 4, 5, 6, 7, 8, 9, 10, 18] rfl
  have hDc := hD.sub (ws' := [(h0, .inr (9, [.ref w, .ref d, .ref co, .ref un, .ref ma, .ref tm, .int 0, .int 0, .int 0])), (co, .inr (4, [.ref w, .ref d, .ref on, .ref op, .int 0])), (w, .inr (3, [.int 0, .int 0, .ref wL, .ref wP, .ref wS])), (d, .inr (3, [.int 0, .int 0, .ref dL, .ref dP, .ref dS])), (on, .inr (7, [.ref onR, .ref onL, .ref onC, .ref onD, .int 0])), (onL, .inl (cI, 20, .inl (fun _ => 0))), (onC, .inl (cI, 20, .inl (fun _ => 0))), (op, .inr (7, [.ref opR, .ref opL, .ref opC, .ref opD, .int 0])), (opL, .inl (cI, 20, .inl (fun _ => 0))), (opC, .inl (cI, 20, .inl (fun _ => 0))), (un, .inr (5, [.ref unK, .int 0])), (oJ, .inl (cJ, 1, .inr (.inl (fun _ => 0))))]) [0, 1, 2, 3, 4, 5, 6, 7, 8, 9, 10, 18] (by decide) rfl
  have hKc := hK.sub (tys' := [(cI, .int), (cJ, .long)]) [0, 1] rfl
  have hFc := va_free (wc := [(h0, .inr (9, [.ref w, .ref d, .ref co, .ref un, .ref ma, .ref tm, .int 0, .int 0, .int 0])), (co, .inr (4, [.ref w, .ref d, .ref on, .ref op, .int 0])), (w, .inr (3, [.int 0, .int 0, .ref wL, .ref wP, .ref wS])), (d, .inr (3, [.int 0, .int 0, .ref dL, .ref dP, .ref dS])), (on, .inr (7, [.ref onR, .ref onL, .ref onC, .ref onD, .int 0])), (onL, .inl (cI, 20, .inl (fun _ => 0))), (onC, .inl (cI, 20, .inl (fun _ => 0))), (op, .inr (7, [.ref opR, .ref opL, .ref opC, .ref opD, .int 0])), (opL, .inl (cI, 20, .inl (fun _ => 0))), (opC, .inl (cI, 20, .inl (fun _ => 0))), (un, .inr (5, [.ref unK, .int 0])), (oJ, .inl (cJ, 1, .inr (.inl (fun _ => 0))))]) hD hS hA [0, 1, 2, 3, 4, 5, 6, 7, 8, 9, 10, 18] rfl
  refine vx_calli (vx_runSX (As := [.ref h0, .int (xs 1), .int (xs 2), .ref oJ]) (rest := []) ⟨hx, hb, hml, hown, hts⟩ (kL_differenceSize l hfl dC dI h0 ma tm un unK co w wL wP wS d dL dP dS on onR onL onC onD op opR opL opC opD cI (fun _ => 0) (fun _ => 0) oJ cJ (xs 1) (xs 2) H.size) (vx_cwSW 4 hts gL_law_L_differenceSize rfl rfl rfl (by decide +kernel) ⟨Nat.le_of_ble_eq_true rfl, Nat.le_of_ble_eq_true rfl⟩) (gPreS hX hN hZ hS (fun q h => hFc q h) hPc hKc hDc) rfl rfl hl.1 rfl (lv_room (Nat.le_of_ble_eq_true rfl)) dL_law_2468 ⟨Nat.le_of_ble_eq_true rfl, Nat.le_of_ble_eq_true rfl⟩) hS (fun q _ h => hFc q h) hFc (fun q _ h => hFc q h) (fun E ce q9 u t H locs ht hvm hpx hE hz1 hk1 hS hq9 hv9 hc9 => ?_) (fun r u t H1 locs ht hvm hw hB hz1 hk1 hS => ?_)
  · skip
    exact hE.elim
  · skip
    obtain ⟨hP1, hK1, hD1⟩ := hB
    rw [ht] at hP1
    have hK1 := va_K.moved hvm.symm hK1
    obtain ⟨u3, rfl⟩ : ∃ z, z = u := ⟨_, rfl⟩
    obtain ⟨hP, hD⟩ := va_join (wr := [(k0, .inr (10, [.ref kN, .ref kA, .ref kO, .ref kK, .ref kV, .ref kG, .ref kP, .ref kC, .ref kD, .ref kE, .ref kF, .ref kX, .ref kY, .int 0, .ref kT, .ref kU, .int 0, .int 0, .int 0])), (kN, .inl (cI, 2, .inl (fun _ => 0))), (kA, .inl (cI, 2, .inl (fun _ => 0))), (kC, .inl (cI, 20, .inl (fun _ => 0))), (kD, .inl (cI, 20, .inl (fun _ => 0))), (kE, .inl (cI, 20, .inl (fun _ => 0))), (kF, .inl (cI, 20, .inl (fun _ => 0)))]) (w1 := [(oJ, .inl (cJ, 1, .inr (.inl u3)))]) hP hD [0, 1, 2, 3, 4, 5, 6, 7, 8, 9, 10, 18] [11, 12, 13, 14, 15, 16, 17] rfl rfl (by decide) (by decide) hk1 hFc hP1 hD1
    generalize H1 = H at hP hS ⊢
    have hP : va_P (dC, dI) vwCl [(k0, .inr (10, [.ref kN, .ref kA, .ref kO, .ref kK, .ref kV, .ref kG, .ref kP, .ref kC, .ref kD, .ref kE, .ref kF, .ref kX, .ref kY, .int 0, .ref kT, .ref kU, .int 0, .int 0, .int 0])), (kN, .inl (cI, 2, .inl (fun _ => 0))), (kA, .inl (cI, 2, .inl (fun _ => 0))), (kC, .inl (cI, 20, .inl (fun _ => 0))), (kD, .inl (cI, 20, .inl (fun _ => 0))), (kE, .inl (cI, 20, .inl (fun _ => 0))), (kF, .inl (cI, 20, .inl (fun _ => 0))), (oJ, .inl (cJ, 1, .inr (.inl u3)))] _ := hP
    have hD : va_D A [(k0, .inr (10, [.ref kN, .ref kA, .ref kO, .ref kK, .ref kV, .ref kG, .ref kP, .ref kC, .ref kD, .ref kE, .ref kF, .ref kX, .ref kY, .int 0, .ref kT, .ref kU, .int 0, .int 0, .int 0])), (kN, .inl (cI, 2, .inl (fun _ => 0))), (kA, .inl (cI, 2, .inl (fun _ => 0))), (kC, .inl (cI, 20, .inl (fun _ => 0))), (kD, .inl (cI, 20, .inl (fun _ => 0))), (kE, .inl (cI, 20, .inl (fun _ => 0))), (kF, .inl (cI, 20, .inl (fun _ => 0))), (oJ, .inl (cJ, 1, .inr (.inl u3)))] := hD
    refine W.widen (k := 149) (n := 2323) (Nat.le_of_ble_eq_true rfl) (Nat.le_of_ble_eq_true rfl) ?_
    subst hw
    refine lv_istore (lv' := [(6, .int 1), (5, .int 0), (4, .ref oD), (3, .ref oJ), (2, .ref k0), (1, .ref h0), (0, .ref b)]) hx hb dL_law_2471 hl (Nat.le_of_ble_eq_true rfl) rfl (fun ls hl => ?_)
    refine lv_aload_n hx hb dL_law_2473 rfl (lv_at hl 4 rfl) ?_
    refine lv_aload_n hx hb dL_law_2474 rfl (lv_at hl 6 rfl) ?_
    refine lv_iload hx hb dL_law_2475 (lv_at hl 1 rfl) ?_
    refine lv_iconst (v := 1) hx hb dL_law_2477 (by decide) ?_
    refine lv_iadd hx hb dL_law_2478 ?_
    refine lv_topi (fun y4 ey4 => ?_)
    obtain rfl : y4 = 1 := ey4.trans (by decide)
    refine va_sld hx hb hX9 hbl hbA hS (show ¬ (_ ∨ _) by decide) dL_law_2479 ?_
    refine W.eq (g2 := F0 m 2480 ls [.int (xs 1), .ref k0]) rfl ?_
    refine lv_aload_n hx hb dL_law_2480 rfl (lv_at hl 6 rfl) ?_
    refine lv_iload hx hb dL_law_2481 (lv_at hl 1 rfl) ?_
    refine lv_iconst (v := 2) hx hb dL_law_2483 (by decide) ?_
    refine lv_iadd hx hb dL_law_2484 ?_
    refine lv_topi (fun y5 ey5 => ?_)
    obtain rfl : y5 = 2 := ey5.trans (by decide)
    refine va_sld hx hb hX9 hbl hbA hS (show ¬ (_ ∨ _) by decide) dL_law_2485 ?_
    refine W.eq (g2 := F0 m 2486 ls [.int (xs 2), .int (xs 1), .ref k0]) rfl ?_
    have hPc := hP.sub (ws' := [(k0, .inr (10, [.ref kN, .ref kA, .ref kO, .ref kK, .ref kV, .ref kG, .ref kP, .ref kC, .ref kD, .ref kE, .ref kF, .ref kX, .ref kY, .int 0, .ref kT, .ref kU, .int 0, .int 0, .int 0])), (kN, .inl (cI, 2, .inl (fun _ => 0))), (kA, .inl (cI, 2, .inl (fun _ => 0))), (kC, .inl (cI, 20, .inl (fun _ => 0))), (kD, .inl (cI, 20, .inl (fun _ => 0))), (kE, .inl (cI, 20, .inl (fun _ => 0))), (kF, .inl (cI, 20, .inl (fun _ => 0)))]) [0, 1, 2, 3, 4, 5, 6] rfl
    have hDc := hD.sub (ws' := [(k0, .inr (10, [.ref kN, .ref kA, .ref kO, .ref kK, .ref kV, .ref kG, .ref kP, .ref kC, .ref kD, .ref kE, .ref kF, .ref kX, .ref kY, .int 0, .ref kT, .ref kU, .int 0, .int 0, .int 0])), (kN, .inl (cI, 2, .inl (fun _ => 0))), (kA, .inl (cI, 2, .inl (fun _ => 0))), (kC, .inl (cI, 20, .inl (fun _ => 0))), (kD, .inl (cI, 20, .inl (fun _ => 0))), (kE, .inl (cI, 20, .inl (fun _ => 0))), (kF, .inl (cI, 20, .inl (fun _ => 0)))]) [0, 1, 2, 3, 4, 5, 6] (by decide) rfl
    have hKc := hK.sub (tys' := [(cI, .int)]) [0] rfl
    have hFc := va_free (wc := [(k0, .inr (10, [.ref kN, .ref kA, .ref kO, .ref kK, .ref kV, .ref kG, .ref kP, .ref kC, .ref kD, .ref kE, .ref kF, .ref kX, .ref kY, .int 0, .ref kT, .ref kU, .int 0, .int 0, .int 0])), (kN, .inl (cI, 2, .inl (fun _ => 0))), (kA, .inl (cI, 2, .inl (fun _ => 0))), (kC, .inl (cI, 20, .inl (fun _ => 0))), (kD, .inl (cI, 20, .inl (fun _ => 0))), (kE, .inl (cI, 20, .inl (fun _ => 0))), (kF, .inl (cI, 20, .inl (fun _ => 0)))]) hD hS hA [0, 1, 2, 3, 4, 5, 6] rfl
    refine va_calli (va_runV (As := [.int (xs 1), .int (xs 2)]) (rest := []) ⟨hx, hb, hml, hown, hts⟩ (kX7_differenceSize l dC dI k0 kN kA kO kK kV kG kP kC kD kE kF kX kY kT kU cI (fun _ => 0) (fun _ => 0) (fun _ => 0) (fun _ => 0) (xs 1) (xs 2) H.size) (cwV 2 hts gL_law_X7_differenceSize rfl rfl rfl (by decide +kernel) ⟨Nat.le_of_ble_eq_true rfl, Nat.le_of_ble_eq_true rfl⟩) (fPreV hN hZ hS (fun q h => hFc q h) hPc hKc hDc (ci := 10) (q0 := 0) rfl rfl) rfl rfl hl.1 rfl (lv_room (Nat.le_of_ble_eq_true rfl)) dL_law_2486 ⟨Nat.le_of_ble_eq_true rfl, Nat.le_of_ble_eq_true rfl⟩) hS (fun q _ h => hFc q h) hFc (fun r u t H1 locs ht hvm hw hB hz1 hk1 hS => ?_)
    obtain ⟨hP1, hK1, hD1⟩ := hB
    rw [ht] at hP1
    have hK1 := va_K.moved hvm.symm hK1
    obtain ⟨u6, rfl⟩ : ∃ z, z = u := ⟨_, rfl⟩
    obtain ⟨hP, hD⟩ := va_join (wr := [(oJ, .inl (cJ, 1, .inr (.inl u3)))]) (w1 := [(k0, .inr (10, [.ref kN, .ref kA, .ref kO, .ref kK, .ref kV, .ref kG, .ref kP, .ref kC, .ref kD, .ref kE, .ref kF, .ref kX, .ref kY, .int 0, .ref kT, .ref kU, .int u6, .int 0, .int 0]))]) hP hD [0, 1, 2, 3, 4, 5, 6] [7] rfl rfl (by decide) (by decide) hk1 hFc hP1 hD1
    generalize H1 = H at hP hS ⊢
    have hP : va_P (dC, dI) vwCl [(oJ, .inl (cJ, 1, .inr (.inl u3))), (k0, .inr (10, [.ref kN, .ref kA, .ref kO, .ref kK, .ref kV, .ref kG, .ref kP, .ref kC, .ref kD, .ref kE, .ref kF, .ref kX, .ref kY, .int 0, .ref kT, .ref kU, .int u6, .int 0, .int 0]))] _ := hP
    have hD : va_D A [(oJ, .inl (cJ, 1, .inr (.inl u3))), (k0, .inr (10, [.ref kN, .ref kA, .ref kO, .ref kK, .ref kV, .ref kG, .ref kP, .ref kC, .ref kD, .ref kE, .ref kF, .ref kX, .ref kY, .int 0, .ref kT, .ref kU, .int u6, .int 0, .int 0]))] := hD
    refine W.widen (k := 151) (n := 2363) (Nat.le_of_ble_eq_true rfl) (Nat.le_of_ble_eq_true rfl) ?_
    obtain ⟨r7, rfl⟩ : ∃ z, z = r := ⟨_, rfl⟩
    subst hw
    have hP : va_P (dC, dI) vwCl [(oJ, .inl (cJ, 1, .inr (.inl u3))), (k0, .inr (10, [.ref kN, .ref kA, .ref kO, .ref kK, .ref kV, .ref kG, .ref kP, .ref kC, .ref kD, .ref kE, .ref kF, .ref kX, .ref kY, .int 0, .ref kT, .ref kU, .int 1, .int 0, .int 0]))] _ := hP
    have hD : va_D A [(oJ, .inl (cJ, 1, .inr (.inl u3))), (k0, .inr (10, [.ref kN, .ref kA, .ref kO, .ref kK, .ref kV, .ref kG, .ref kP, .ref kC, .ref kD, .ref kE, .ref kF, .ref kX, .ref kY, .int 0, .ref kT, .ref kU, .int 1, .int 0, .int 0]))] := hD
    refine lv_istore (lv' := [(7, .int r7), (6, .int 1), (5, .int 0), (4, .ref oD), (3, .ref oJ), (2, .ref k0), (1, .ref h0), (0, .ref b)]) hx hb dL_law_2489 hl (Nat.le_of_ble_eq_true rfl) rfl (fun ls hl => ?_)
    refine lv_aload_n hx hb dL_law_2491 rfl (lv_at hl 5 rfl) ?_
    have hPc := hP.sub (ws' := [(k0, .inr (10, [.ref kN, .ref kA, .ref kO, .ref kK, .ref kV, .ref kG, .ref kP, .ref kC, .ref kD, .ref kE, .ref kF, .ref kX, .ref kY, .int 0, .ref kT, .ref kU, .int 1, .int 0, .int 0]))]) [1] rfl
    have hDc := hD.sub (ws' := [(k0, .inr (10, [.ref kN, .ref kA, .ref kO, .ref kK, .ref kV, .ref kG, .ref kP, .ref kC, .ref kD, .ref kE, .ref kF, .ref kX, .ref kY, .int 0, .ref kT, .ref kU, .int 1, .int 0, .int 0]))]) [1] (by decide) rfl
    have hKc := hK.sub (tys' := []) [] rfl
    have hFc := va_free (wc := [(k0, .inr (10, [.ref kN, .ref kA, .ref kO, .ref kK, .ref kV, .ref kG, .ref kP, .ref kC, .ref kD, .ref kE, .ref kF, .ref kX, .ref kY, .int 0, .ref kT, .ref kU, .int 1, .int 0, .int 0]))]) hD hS hA [1] rfl
    refine va_calli (va_runV (As := []) (rest := []) ⟨hx, hb, hml, hown, hts⟩ (kX7_thrown l dC dI k0 kN kA kO kK kV kG kP kC kD kE kF kX kY kT kU 1 H.size) (cwV 0 hts gL_law_X7_thrown rfl rfl rfl (by decide +kernel) ⟨Nat.le_of_ble_eq_true rfl, Nat.le_of_ble_eq_true rfl⟩) (fPreV hN hZ hS (fun q h => hFc q h) hPc hKc hDc (ci := 10) (q0 := 0) rfl rfl) rfl rfl hl.1 rfl (lv_room (Nat.le_of_ble_eq_true rfl)) dL_law_2492 ⟨Nat.le_of_ble_eq_true rfl, Nat.le_of_ble_eq_true rfl⟩) hS (fun q _ h => hFc q h) hFc (fun r u t H1 locs ht hvm hw hB hz1 hk1 hS => ?_)
    obtain ⟨hP1, hK1, hD1⟩ := hB
    rw [ht] at hP1
    have hK1 := va_K.moved hvm.symm hK1
    obtain ⟨hP, hD⟩ := va_join (wr := [(oJ, .inl (cJ, 1, .inr (.inl u3)))]) (w1 := []) hP hD [1] [0] rfl rfl (by decide) (by decide) hk1 hFc hP1 hD1
    generalize H1 = H at hP hS ⊢
    have hP : va_P (dC, dI) vwCl [(oJ, .inl (cJ, 1, .inr (.inl u3)))] _ := hP
    have hD : va_D A [(oJ, .inl (cJ, 1, .inr (.inl u3)))] := hD
    subst hw
    refine lv_iload hx hb dL_law_2495 (lv_at hl 1 rfl) ?_
    refine lv_icmp_eq (tgt := 2502) hx hb dL_law_2497 (by decide) (fun _ => ?_) (fun h9 => absurd (by decide) h9)
    refine lv_iload hx hb dL_law_2502 (lv_at hl 1 rfl) ?_
    refine lv_if_ne (tgt := 2519) hx hb dL_law_2504 (by decide) (fun _ => ?_) (fun h9 => absurd h9 (by decide))
    refine lv_goto (tgt := 2720) hx hb dL_law_2519 (by decide) ?_
    refine lv_iinc (v := 7) (lv' := [(5, .int 7), (7, .int r7), (6, .int 1), (4, .ref oD), (3, .ref oJ), (2, .ref k0), (1, .ref h0), (0, .ref b)]) hx hb dL_law_2720 hl (k := 2) rfl (by decide) (Nat.le_of_ble_eq_true rfl) rfl (fun ls hl => ?_)
    refine lv_goto (tgt := 28) hx hb dL_law_2723 (by decide) ?_
    refine lv_iload hx hb dL_law_28 (lv_at hl 0 rfl) ?_
    refine lv_aload_n hx hb dL_law_30 rfl (lv_at hl 7 rfl) ?_
    refine va_slen hx hb hX9 hbl hbA hS dL_law_31 ?_
    refine W.eq (g2 := F0 m 32 ls [.int 7, .int 7]) rfl ?_
    refine lv_bipush (v := 7) hx hb dL_law_32 (by decide) ?_
    refine lv_isub hx hb dL_law_34 ?_
    refine lv_topi (fun y8 ey8 => ?_)
    obtain rfl : y8 = 0 := ey8.trans (by decide)
    refine lv_icmp_gt (tgt := 2726) hx hb dL_law_35 (by decide) (fun _ => ?_) (fun h9 => absurd (by decide) h9)
    refine lv_iconst (v := 1) hx hb dL_law_2726 (by decide) ?_
    refine va_forget (fun q hq => hAe _ (hS.2.2 q hq)) ?_
    refine W.widen (k := 603072) (n := 7198826) (Nat.le_of_ble_eq_true rfl) (Nat.le_of_ble_eq_true rfl) ?_
    exact W.base (lw_ret (d0 := s.drawn) (Drawn.sameBut.refl _ _) hx hb hr hlk dL_law_2727)
