set_option maxRecDepth 20000 in
theorem ggL_law_X6_rounds : GoodIn wsL_law wsX6_rounds := goodIn_ca (goodIn_r _ [843, 22, 844, 845, 846, 2, 847, 129, 17, 18, 26, 553, 554, 555, 16, 556, 136, 41, 37, 227, 39, 228, 229, 230, 43, 231, 201, 557, 558, 559, 560, 426, 413, 414, 415, 561, 562, 563, 564, 848, 849, 850, 21, 851, 852, 853, 854, 855, 856, 57, 58, 59, 60, 857, 858, 859, 56, 860, 67, 861, 862, 863, 864, 865, 866, 867, 868, 869, 870, 66, 871, 362, 363, 364, 365, 366, 367, 368, 202, 48, 872, 873, 874, 875, 876, 877, 878, 68, 879, 880, 881, 882, 883, 884, 885, 886, 887, 888, 889, 890, 891, 892, 893, 894, 895, 896, 897, 898, 899, 900, 901, 902, 903, 904, 905, 25, 906, 907, 908, 909, 910, 911, 912, 913, 914, 915, 916, 917, 918, 919, 920, 921, 922, 923, 69, 924, 925, 926, 927, 928, 74, 1327, 1328, 1329, 1330, 1331, 1332, 1333, 1334, 1335, 1360, 1361, 1362, 1363, 1364, 1355, 1356, 1357, 1358, 1359, 1373, 1374, 1375, 1376, 1377, 1378, 1379, 1380, 1381, 1382, 1383, 1365, 1366] (by decide +kernel) (by decide +kernel)) (goodIn_sub (fun _ h => List.mem_append_left _ (List.mem_append_left _ (List.mem_append_left _ (List.mem_append_left _ (List.mem_append_left _ (List.mem_append_left _ (List.mem_append_left _ (List.mem_append_right _ h)))))))) (by decide +kernel))
set_option maxRecDepth 20000 in
theorem gL_law_X6_rounds : GoodIn wsL_law (wsV RL 220 RX6 yX6_rounds wsX6_rounds) := goodIn_app (goodIn_of _ (by decide +kernel)) ggL_law_X6_rounds
set_option maxRecDepth 20000 in
theorem ggL_law_X7_rounds : GoodIn wsL_law wsX7_rounds := goodIn_ca (goodIn_r _ [932, 141, 933, 934, 935, 936, 5, 937, 96, 90, 97, 91, 92, 98, 99, 938, 939, 940, 941, 244, 245, 246, 247, 89, 94, 176, 177, 178, 179, 180, 181, 182, 88, 401, 402, 403, 404, 287, 288, 289, 290, 291, 292, 293, 294, 295, 296, 297, 95, 942, 943, 944, 945, 946, 658, 659, 947, 948, 949, 950, 951, 433, 417, 414, 418, 952, 953, 954, 955, 956, 957, 958, 959, 960, 961, 962, 100, 101, 963, 964, 965, 966, 967, 968, 969, 970, 971, 972, 973, 974, 975, 976, 977, 978, 979, 980, 1336, 1337, 1338, 1339, 1340, 1341, 1342, 1343, 1344, 1345, 1346, 1347, 1348, 1349, 1350, 1351, 1352, 1353, 1354] (by decide +kernel) (by decide +kernel)) (goodIn_sub (fun _ h => List.mem_append_left _ (List.mem_append_left _ (List.mem_append_left _ (List.mem_append_left _ (List.mem_append_left _ (List.mem_append_left _ (List.mem_append_left _ (List.mem_append_right _ h)))))))) (by decide +kernel))
set_option maxRecDepth 20000 in
theorem gL_law_X7_rounds : GoodIn wsL_law (wsV RL 223 RX7 yX7_rounds wsX7_rounds) := goodIn_app (goodIn_of _ (by decide +kernel)) ggL_law_X7_rounds
set_option maxRecDepth 20000 in
theorem ggL_law_X6_netClasses : GoodIn wsL_law wsX6_netClasses := goodIn_ca (goodIn_r _ [984, 22, 844, 845, 846, 2, 847, 129, 17, 18, 26, 553, 554, 555, 16, 556, 136, 41, 37, 227, 39, 228, 229, 230, 43, 231, 201, 557, 558, 559, 560, 426, 413, 414, 415, 561, 562, 563, 564, 848, 849, 850, 21, 851, 852, 853, 854, 855, 856, 57, 58, 59, 60, 857, 858, 859, 56, 860, 67, 861, 862, 863, 864, 865, 866, 867, 868, 869, 870, 66, 871, 362, 363, 364, 365, 366, 367, 368, 202, 48, 872, 873, 874, 875, 876, 877, 878, 68, 879, 880, 881, 882, 883, 884, 885, 886, 887, 888, 889, 890, 891, 892, 893, 894, 895, 896, 897, 898, 899, 900, 901, 902, 903, 904, 905, 25, 906, 907, 908, 909, 910, 911, 912, 913, 914, 915, 916, 917, 918, 919, 920, 921, 922, 923, 69, 924, 925, 926, 927, 928, 74, 1327, 1328, 1329, 1330, 1331, 1332, 1333, 1334, 1335, 1360, 1361, 1362, 1363, 1364, 1379, 1380, 1381, 1382, 1383, 1355, 1356, 1357, 1358, 1359, 1373, 1374, 1375, 1376, 1377, 1378, 1365, 1366] (by decide +kernel) (by decide +kernel)) (goodIn_sub (fun _ h => List.mem_append_left _ (List.mem_append_left _ (List.mem_append_left _ (List.mem_append_left _ (List.mem_append_left _ (List.mem_append_left _ (List.mem_append_left _ (List.mem_append_right _ h)))))))) (by decide +kernel))
set_option maxRecDepth 20000 in
theorem gL_law_X6_netClasses : GoodIn wsL_law (wsV RL 224 RX6 yX6_netClasses wsX6_netClasses) := goodIn_app (goodIn_of _ (by decide +kernel)) ggL_law_X6_netClasses
set_option maxRecDepth 20000 in
theorem ggL_law_X7_netClasses : GoodIn wsL_law wsX7_netClasses := goodIn_ca (goodIn_r _ [988, 141, 96, 934, 935, 936, 5, 937, 90, 97, 91, 92, 933, 98, 99, 938, 939, 940, 941, 244, 245, 246, 247, 89, 94, 176, 177, 178, 179, 180, 181, 182, 88, 401, 402, 403, 404, 287, 288, 289, 290, 291, 292, 293, 294, 295, 296, 297, 95, 942, 943, 944, 945, 946, 658, 659, 947, 948, 949, 950, 951, 433, 417, 414, 418, 952, 953, 954, 955, 956, 957, 958, 959, 960, 961, 962, 100, 101, 963, 964, 965, 966, 967, 968, 969, 970, 971, 972, 973, 974, 975, 976, 977, 978, 979, 980, 1336, 1337, 1338, 1339, 1340, 1341, 1342, 1343, 1344, 1345, 1346, 1347, 1348, 1349, 1350, 1351, 1352, 1353, 1354] (by decide +kernel) (by decide +kernel)) (goodIn_sub (fun _ h => List.mem_append_left _ (List.mem_append_left _ (List.mem_append_left _ (List.mem_append_left _ (List.mem_append_left _ (List.mem_append_left _ (List.mem_append_left _ (List.mem_append_right _ h)))))))) (by decide +kernel))
set_option maxRecDepth 20000 in
theorem gL_law_X7_netClasses : GoodIn wsL_law (wsV RL 227 RX7 yX7_netClasses wsX7_netClasses) := goodIn_app (goodIn_of _ (by decide +kernel)) ggL_law_X7_netClasses
set_option maxRecDepth 20000 in
theorem ggL_law_X6_partClasses : GoodIn wsL_law wsX6_partClasses := goodIn_ca (goodIn_r _ [992, 22, 844, 845, 846, 2, 847, 129, 17, 18, 26, 553, 554, 555, 16, 556, 136, 41, 37, 227, 39, 228, 229, 230, 43, 231, 201, 557, 558, 559, 560, 426, 413, 414, 415, 561, 562, 563, 564, 848, 849, 850, 21, 851, 852, 853, 854, 855, 856, 57, 58, 59, 60, 857, 858, 859, 56, 860, 67, 861, 862, 863, 864, 865, 866, 867, 868, 869, 870, 66, 871, 362, 363, 364, 365, 366, 367, 368, 202, 48, 872, 873, 874, 875, 876, 877, 878, 68, 879, 880, 881, 882, 883, 884, 885, 886, 887, 888, 889, 890, 891, 892, 893, 894, 895, 896, 897, 898, 899, 900, 901, 902, 903, 904, 905, 25, 906, 907, 908, 909, 910, 911, 912, 913, 914, 915, 916, 917, 918, 919, 920, 921, 922, 923, 69, 924, 925, 926, 927, 928, 74, 1327, 1328, 1329, 1330, 1331, 1332, 1333, 1334, 1335, 1360, 1361, 1362, 1363, 1364, 1379, 1380, 1381, 1382, 1383, 1355, 1356, 1357, 1358, 1359, 1373, 1374, 1375, 1376, 1377, 1378, 1365, 1366] (by decide +kernel) (by decide +kernel)) (goodIn_sub (fun _ h => List.mem_append_left _ (List.mem_append_left _ (List.mem_append_left _ (List.mem_append_left _ (List.mem_append_left _ (List.mem_append_left _ (List.mem_append_left _ (List.mem_append_right _ h)))))))) (by decide +kernel))
set_option maxRecDepth 20000 in
theorem gL_law_X6_partClasses : GoodIn wsL_law (wsV RL 228 RX6 yX6_partClasses wsX6_partClasses) := goodIn_app (goodIn_of _ (by decide +kernel)) ggL_law_X6_partClasses
set_option maxRecDepth 20000 in
theorem ggL_law_X7_partClasses : GoodIn wsL_law wsX7_partClasses := goodIn_ca (goodIn_r _ [996, 141, 97, 934, 935, 936, 5, 937, 96, 90, 91, 92, 933, 98, 99, 938, 939, 940, 941, 244, 245, 246, 247, 89, 94, 176, 177, 178, 179, 180, 181, 182, 88, 401, 402, 403, 404, 287, 288, 289, 290, 291, 292, 293, 294, 295, 296, 297, 95, 942, 943, 944, 945, 946, 658, 659, 947, 948, 949, 950, 951, 433, 417, 414, 418, 952, 953, 954, 955, 956, 957, 958, 959, 960, 961, 962, 100, 101, 963, 964, 965, 966, 967, 968, 969, 970, 971, 972, 973, 974, 975, 976, 977, 978, 979, 980, 1336, 1337, 1338, 1339, 1340, 1341, 1342, 1343, 1344, 1345, 1346, 1347, 1348, 1349, 1350, 1351, 1352, 1353, 1354] (by decide +kernel) (by decide +kernel)) (goodIn_sub (fun _ h => List.mem_append_left _ (List.mem_append_left _ (List.mem_append_left _ (List.mem_append_left _ (List.mem_append_left _ (List.mem_append_left _ (List.mem_append_left _ (List.mem_append_right _ h)))))))) (by decide +kernel))
set_option maxRecDepth 20000 in
theorem gL_law_X7_partClasses : GoodIn wsL_law (wsV RL 231 RX7 yX7_partClasses wsX7_partClasses) := goodIn_app (goodIn_of _ (by decide +kernel)) ggL_law_X7_partClasses
set_option maxRecDepth 20000 in
theorem ggL_law_L_netsLike : GoodIn wsL_law wsL_netsLike := goodIn_ca (goodIn_ca (goodIn_ca (goodIn_r _ [999, 108, 152, 1000, 1001, 1002, 2, 1003, 22, 116, 117, 118, 119, 17, 18, 120, 121, 122, 123, 124, 157, 158, 159, 160, 161, 162, 163, 164, 16, 165, 136, 844, 845, 846, 847, 129, 26, 553, 554, 555, 556, 41, 37, 227, 39, 228, 229, 230, 43, 231, 201, 557, 558, 559, 560, 426, 413, 414, 415, 561, 562, 563, 564, 848, 849, 850, 21, 851, 852, 853, 854, 855, 856, 57, 58, 59, 60, 857, 858, 859, 56, 860, 67, 861, 862, 863, 864, 865, 866, 867, 868, 869, 870, 66, 871, 362, 363, 364, 365, 366, 367, 368, 202, 48, 872, 873, 874, 875, 876, 877, 878, 68, 879, 880, 881, 882, 883, 884, 885, 886, 887, 888, 889, 890, 891, 892, 893, 894, 895, 896, 897, 898, 899, 900, 901, 902, 903, 904, 905, 25, 906, 907, 908, 909, 910, 911, 912, 913, 914, 915, 916, 917, 918, 919, 920, 921, 922, 923, 69, 924, 925, 926, 927, 928, 74, 1004, 1005, 1327, 1328, 1329, 1330, 1331, 1332, 1333, 1334, 1335, 1360, 1361, 1362, 1363, 1364, 1379, 1380, 1381, 1382, 1383, 1355, 1356, 1357, 1358, 1359, 1373, 1374, 1375, 1376, 1377, 1378, 1365, 1366] (by decide +kernel) (by decide +kernel)) (goodIn_sub (fun _ h => List.mem_append_left _ (List.mem_append_left _ (List.mem_append_left _ (List.mem_append_left _ (List.mem_append_left _ (List.mem_append_left _ (List.mem_append_left _ (List.mem_append_right _ h)))))))) (by decide +kernel))) (goodIn_sub (fun _ h => List.mem_append_left _ (List.mem_append_left _ (List.mem_append_left _ (List.mem_append_left _ (List.mem_append_left _ (List.mem_append_right _ h)))))) (by decide +kernel))) (goodIn_sub (fun _ h => List.mem_append_left _ (List.mem_append_left _ (List.mem_append_left _ (List.mem_append_left _ (List.mem_append_right _ h))))) (by decide +kernel))
set_option maxRecDepth 20000 in
theorem gL_law_L_netsLike : GoodIn wsL_law (va_wsS RL 232 yL_netsLike wsL_netsLike) := goodIn_app (goodIn_of _ (by decide +kernel)) ggL_law_L_netsLike
set_option maxRecDepth 20000 in
theorem ggL_law_X7_netsLike : GoodIn wsL_law wsX7_netsLike := goodIn_ca (goodIn_r _ [1009, 141, 96, 142, 143, 5, 144, 179, 180, 181, 182, 88, 176, 177, 178, 934, 935, 936, 937, 90, 97, 91, 92, 933, 98, 99, 938, 939, 940, 941, 244, 245, 246, 247, 89, 94, 401, 402, 403, 404, 287, 288, 289, 290, 291, 292, 293, 294, 295, 296, 297, 95, 942, 943, 944, 945, 946, 658, 659, 947, 948, 949, 950, 951, 433, 417, 414, 418, 952, 953, 954, 955, 956, 957, 958, 959, 960, 961, 962, 100, 101, 963, 964, 965, 966, 967, 968, 969, 970, 971, 972, 973, 974, 975, 976, 977, 978, 979, 980, 1010, 1011, 1012, 1336, 1337, 1338, 1339, 1340, 1341, 1342, 1343, 1344, 1345, 1346, 1347, 1348, 1349, 1350, 1351, 1352, 1353, 1354] (by decide +kernel) (by decide +kernel)) (goodIn_sub (fun _ h => List.mem_append_left _ (List.mem_append_left _ (List.mem_append_left _ (List.mem_append_left _ (List.mem_append_left _ (List.mem_append_left _ (List.mem_append_left _ (List.mem_append_right _ h)))))))) (by decide +kernel))
set_option maxRecDepth 20000 in
theorem gL_law_X7_netsLike : GoodIn wsL_law (wsV RL 234 RX7 yX7_netsLike wsX7_netsLike) := goodIn_app (goodIn_of _ (by decide +kernel)) ggL_law_X7_netsLike
set_option maxRecDepth 20000 in
theorem ggL_law_L_partsLike : GoodIn wsL_law wsL_partsLike := goodIn_ca (goodIn_ca (goodIn_ca (goodIn_r _ [1015, 108, 152, 1016, 1017, 1018, 2, 1019, 22, 116, 117, 118, 119, 17, 18, 120, 121, 122, 123, 124, 220, 221, 222, 160, 161, 223, 224, 225, 16, 226, 227, 39, 228, 229, 230, 43, 231, 201, 844, 845, 846, 847, 129, 26, 553, 554, 555, 556, 136, 41, 37, 557, 558, 559, 560, 426, 413, 414, 415, 561, 562, 563, 564, 848, 849, 850, 21, 851, 852, 853, 854, 855, 856, 57, 58, 59, 60, 857, 858, 859, 56, 860, 67, 861, 862, 863, 864, 865, 866, 867, 868, 869, 870, 66, 871, 362, 363, 364, 365, 366, 367, 368, 202, 48, 872, 873, 874, 875, 876, 877, 878, 68, 879, 880, 881, 882, 883, 884, 885, 886, 887, 888, 889, 890, 891, 892, 893, 894, 895, 896, 897, 898, 899, 900, 901, 902, 903, 904, 905, 25, 906, 907, 908, 909, 910, 911, 912, 913, 914, 915, 916, 917, 918, 919, 920, 921, 922, 923, 69, 924, 925, 926, 927, 928, 74, 1004, 1005, 1327, 1328, 1329, 1330, 1331, 1332, 1333, 1334, 1335, 1360, 1361, 1362, 1363, 1364, 1379, 1380, 1381, 1382, 1383, 1355, 1356, 1357, 1358, 1359, 1373, 1374, 1375, 1376, 1377, 1378, 1365, 1366] (by decide +kernel) (by decide +kernel)) (goodIn_sub (fun _ h => List.mem_append_left _ (List.mem_append_left _ (List.mem_append_left _ (List.mem_append_left _ (List.mem_append_left _ (List.mem_append_left _ (List.mem_append_left _ (List.mem_append_right _ h)))))))) (by decide +kernel))) (goodIn_sub (fun _ h => List.mem_append_left _ (List.mem_append_left _ (List.mem_append_left _ (List.mem_append_left _ (List.mem_append_left _ (List.mem_append_right _ h)))))) (by decide +kernel))) (goodIn_sub (fun _ h => List.mem_append_left _ (List.mem_append_left _ (List.mem_append_left _ (List.mem_append_left _ (List.mem_append_right _ h))))) (by decide +kernel))
set_option maxRecDepth 20000 in
theorem gL_law_L_partsLike : GoodIn wsL_law (va_wsS RL 235 yL_partsLike wsL_partsLike) := goodIn_app (goodIn_of _ (by decide +kernel)) ggL_law_L_partsLike
set_option maxRecDepth 20000 in
theorem ggL_law_X7_partsLike : GoodIn wsL_law wsX7_partsLike := goodIn_ca (goodIn_r _ [1023, 141, 97, 142, 143, 5, 144, 244, 245, 246, 247, 89, 94, 176, 177, 178, 934, 935, 936, 937, 96, 90, 91, 92, 933, 98, 99, 938, 939, 940, 941, 179, 180, 181, 182, 88, 401, 402, 403, 404, 287, 288, 289, 290, 291, 292, 293, 294, 295, 296, 297, 95, 942, 943, 944, 945, 946, 658, 659, 947, 948, 949, 950, 951, 433, 417, 414, 418, 952, 953, 954, 955, 956, 957, 958, 959, 960, 961, 962, 100, 101, 963, 964, 965, 966, 967, 968, 969, 970, 971, 972, 973, 974, 975, 976, 977, 978, 979, 980, 1010, 1011, 1012, 1336, 1337, 1338, 1339, 1340, 1341, 1342, 1343, 1344, 1345, 1346, 1347, 1348, 1349, 1350, 1351, 1352, 1353, 1354] (by decide +kernel) (by decide +kernel)) (goodIn_sub (fun _ h => List.mem_append_left _ (List.mem_append_left _ (List.mem_append_left _ (List.mem_append_left _ (List.mem_append_left _ (List.mem_append_left _ (List.mem_append_left _ (List.mem_append_right _ h)))))))) (by decide +kernel))
set_option maxRecDepth 20000 in
theorem gL_law_X7_partsLike : GoodIn wsL_law (wsV RL 237 RX7 yX7_partsLike wsX7_partsLike) := goodIn_app (goodIn_of _ (by decide +kernel)) ggL_law_X7_partsLike
set_option maxRecDepth 20000 in
theorem ggL_law_L_areAlike : GoodIn wsL_law wsL_areAlike := goodIn_ca (goodIn_ca (goodIn_r _ [1026, 152, 1027, 1028, 1029, 2, 1030, 17, 18, 22, 157, 158, 159, 160, 161, 162, 163, 164, 16, 165, 136, 844, 845, 846, 847, 129, 26, 553, 554, 555, 556, 41, 37, 227, 39, 228, 229, 230, 43, 231, 201, 557, 558, 559, 560, 426, 413, 414, 415, 561, 562, 563, 564, 848, 849, 850, 21, 851, 852, 853, 854, 855, 856, 57, 58, 59, 60, 857, 858, 859, 56, 860, 67, 861, 862, 863, 864, 865, 866, 867, 868, 869, 870, 66, 871, 362, 363, 364, 365, 366, 367, 368, 202, 48, 872, 873, 874, 875, 876, 877, 878, 68, 879, 880, 881, 882, 883, 884, 885, 886, 887, 888, 889, 890, 891, 892, 893, 894, 895, 896, 897, 898, 899, 900, 901, 902, 903, 904, 905, 25, 906, 907, 908, 909, 910, 911, 912, 913, 914, 915, 916, 917, 918, 919, 920, 921, 922, 923, 69, 924, 925, 926, 927, 928, 74, 1031, 1032, 1033, 1034, 1327, 1328, 1329, 1330, 1331, 1332, 1333, 1334, 1335, 1360, 1361, 1362, 1363, 1364, 1355, 1356, 1357, 1358, 1359, 1373, 1374, 1375, 1376, 1377, 1378, 1379, 1380, 1381, 1382, 1383, 1365, 1366] (by decide +kernel) (by decide +kernel)) (goodIn_sub (fun _ h => List.mem_append_left _ (List.mem_append_left _ (List.mem_append_left _ (List.mem_append_left _ (List.mem_append_left _ (List.mem_append_left _ (List.mem_append_left _ (List.mem_append_right _ h)))))))) (by decide +kernel))) (goodIn_sub (fun _ h => List.mem_append_left _ (List.mem_append_left _ (List.mem_append_left _ (List.mem_append_left _ (List.mem_append_right _ h))))) (by decide +kernel))
set_option maxRecDepth 20000 in
theorem gL_law_L_areAlike : GoodIn wsL_law (va_wsS RL 238 yL_areAlike wsL_areAlike) := goodIn_app (goodIn_of _ (by decide +kernel)) ggL_law_L_areAlike
set_option maxRecDepth 20000 in
theorem ggL_law_X7_areAlike : GoodIn wsL_law wsX7_areAlike := goodIn_ca (goodIn_r _ [1038, 141, 96, 179, 180, 181, 5, 182, 88, 176, 177, 178, 934, 935, 936, 937, 90, 97, 91, 92, 933, 98, 99, 938, 939, 940, 941, 244, 245, 246, 247, 89, 94, 401, 402, 403, 404, 287, 288, 289, 290, 291, 292, 293, 294, 295, 296, 297, 95, 942, 943, 944, 945, 946, 658, 659, 947, 948, 949, 950, 951, 433, 417, 414, 418, 952, 953, 954, 955, 956, 957, 958, 959, 960, 961, 962, 100, 101, 963, 964, 965, 966, 967, 968, 969, 970, 971, 972, 973, 974, 975, 976, 977, 978, 979, 980, 1336, 1337, 1338, 1339, 1340, 1341, 1342, 1343, 1344, 1345, 1346, 1347, 1348, 1349, 1350, 1351, 1352, 1353, 1354] (by decide +kernel) (by decide +kernel)) (goodIn_sub (fun _ h => List.mem_append_left _ (List.mem_append_left _ (List.mem_append_left _ (List.mem_append_left _ (List.mem_append_left _ (List.mem_append_left _ (List.mem_append_left _ (List.mem_append_right _ h)))))))) (by decide +kernel))
set_option maxRecDepth 20000 in
theorem gL_law_X7_areAlike : GoodIn wsL_law (wsV RL 240 RX7 yX7_areAlike wsX7_areAlike) := goodIn_app (goodIn_of _ (by decide +kernel)) ggL_law_X7_areAlike
set_option maxRecDepth 20000 in
theorem ggL_law_X6_isMatched : GoodIn wsL_law wsX6_isMatched := goodIn_ca (goodIn_r _ [1042, 30, 1043, 1044, 1045, 2, 1046, 130, 22, 26, 844, 845, 846, 847, 129, 17, 18, 553, 554, 555, 16, 556, 136, 41, 37, 227, 39, 228, 229, 230, 43, 231, 201, 557, 558, 559, 560, 426, 413, 414, 415, 561, 562, 563, 564, 848, 849, 850, 21, 851, 852, 853, 854, 855, 856, 57, 58, 59, 60, 857, 858, 859, 56, 860, 67, 861, 862, 863, 864, 865, 866, 867, 868, 869, 870, 66, 871, 362, 363, 364, 365, 366, 367, 368, 202, 48, 872, 873, 874, 875, 876, 877, 878, 68, 879, 880, 881, 882, 883, 884, 885, 886, 887, 888, 889, 890, 891, 892, 893, 894, 895, 896, 897, 898, 899, 900, 901, 902, 903, 904, 905, 25, 906, 907, 908, 909, 910, 911, 912, 913, 914, 915, 916, 917, 918, 919, 920, 921, 922, 923, 69, 924, 925, 926, 927, 928, 74, 1047, 1048, 1049, 29, 1050, 1051, 1052, 1053, 1054, 1055, 79, 80, 1056, 1057, 1058, 82, 83, 1059, 1060, 1061, 1062, 81, 1063, 1064, 1065, 1066, 1067, 1068, 1069, 1070, 1071, 1072, 1073, 1074, 1075, 203, 1076, 1032, 1033, 1034, 1077, 1078, 1079, 1080, 1081, 1082, 1083, 1084, 1327, 1328, 1329, 1330, 1331, 1332, 1333, 1334, 1335, 1367, 1368, 1369, 1370, 1371, 1372, 1360, 1361, 1362, 1363, 1364, 1365, 1366, 1355, 1356, 1357, 1358, 1359, 1373, 1374, 1375, 1376, 1377, 1378, 1379, 1380, 1381, 1382, 1383] (by decide +kernel) (by decide +kernel)) (goodIn_sub (fun _ h => List.mem_append_left _ (List.mem_append_left _ (List.mem_append_left _ (List.mem_append_left _ (List.mem_append_left _ (List.mem_append_left _ (List.mem_append_left _ (List.mem_append_right _ h)))))))) (by decide +kernel))
set_option maxRecDepth 20000 in
theorem gL_law_X6_isMatched : GoodIn wsL_law (wsV RL 241 RX6 yX6_isMatched wsX6_isMatched) := goodIn_app (goodIn_of _ (by decide +kernel)) ggL_law_X6_isMatched
set_option maxRecDepth 20000 in
theorem ggL_law_X7_isMatched : GoodIn wsL_law wsX7_isMatched := goodIn_ca (goodIn_r _ [1088, 141, 1089, 1090, 1091, 5, 1092, 88, 934, 935, 936, 937, 96, 90, 97, 91, 92, 933, 98, 99, 938, 939, 940, 941, 244, 245, 246, 247, 89, 94, 176, 177, 178, 179, 180, 181, 182, 401, 402, 403, 404, 287, 288, 289, 290, 291, 292, 293, 294, 295, 296, 297, 95, 942, 943, 944, 945, 946, 658, 659, 947, 948, 949, 950, 951, 433, 417, 414, 418, 952, 953, 954, 955, 956, 957, 958, 959, 960, 961, 962, 100, 101, 963, 964, 965, 966, 967, 968, 969, 970, 971, 972, 973, 974, 975, 976, 977, 978, 979, 980, 248, 249, 250, 251, 1093, 1094, 1095, 1096, 102, 1097, 1098, 1099, 1100, 93, 103, 1101, 1102, 1103, 1104, 1105, 1106, 1107, 1108, 263, 264, 265, 266, 1336, 1337, 1338, 1339, 1340, 1341, 1342, 1343, 1344, 1345, 1346, 1347, 1348, 1349, 1350, 1351, 1352, 1353, 1354] (by decide +kernel) (by decide +kernel)) (goodIn_sub (fun _ h => List.mem_append_left _ (List.mem_append_left _ (List.mem_append_left _ (List.mem_append_left _ (List.mem_append_left _ (List.mem_append_left _ (List.mem_append_left _ (List.mem_append_right _ h)))))))) (by decide +kernel))
set_option maxRecDepth 20000 in
theorem gL_law_X7_isMatched : GoodIn wsL_law (wsV RL 244 RX7 yX7_isMatched wsX7_isMatched) := goodIn_app (goodIn_of _ (by decide +kernel)) ggL_law_X7_isMatched
set_option maxRecDepth 20000 in
theorem ggL_law_L_isMatchedByTrying : GoodIn wsL_law wsL_isMatchedByTrying := goodIn_ca (goodIn_ca (goodIn_r _ [1111, 271, 1112, 1113, 1114, 2, 1115, 31, 1116, 1117, 1118, 1119, 276, 277, 17, 18, 1120, 1121, 1122, 1123, 131, 1124, 1125, 1126, 29, 1127, 82, 83, 1051, 1052, 1053, 1054, 1055, 79, 80, 1128, 233, 234, 16, 235, 227, 39, 228, 229, 230, 43, 231, 201, 1129, 1130, 1131, 1132, 1133, 1134, 1135, 1059, 1060, 1061, 1062, 81, 1063, 1064, 1065, 1066, 1067, 1068, 1069, 1070, 1071, 1072, 1073, 1074, 1075, 203, 1077, 1078, 1079, 1080, 1081, 1082, 1083, 1084, 1327, 1328, 1329, 1330, 1331, 1332, 1333, 1334, 1335, 1367, 1368, 1369, 1370, 1371, 1372, 1355, 1356, 1357, 1358, 1359, 1373, 1374, 1375, 1376, 1377, 1378] (by decide +kernel) (by decide +kernel)) (goodIn_sub (fun _ h => List.mem_append_left _ (List.mem_append_left _ (List.mem_append_left _ (List.mem_append_left _ (List.mem_append_left _ (List.mem_append_left _ (List.mem_append_left _ (List.mem_append_right _ h)))))))) (by decide +kernel))) (goodIn_sub (fun _ h => List.mem_append_left _ (List.mem_append_left _ (List.mem_append_left _ (List.mem_append_right _ h)))) (by decide +kernel))
set_option maxRecDepth 20000 in
theorem gL_law_L_isMatchedByTrying : GoodIn wsL_law (va_wsS RL 245 yL_isMatchedByTrying wsL_isMatchedByTrying) := goodIn_app (goodIn_of _ (by decide +kernel)) ggL_law_L_isMatchedByTrying
set_option maxRecDepth 20000 in
theorem ggL_law_X7_isMatchedByTrying : GoodIn wsL_law wsX7_isMatchedByTrying := goodIn_ca (goodIn_r _ [1139, 141, 1140, 1141, 1142, 5, 1143, 88, 1089, 1090, 1091, 1092, 934, 935, 936, 937, 96, 90, 97, 91, 92, 933, 98, 99, 938, 939, 940, 941, 244, 245, 246, 247, 89, 94, 176, 177, 178, 179, 180, 181, 182, 401, 402, 403, 404, 287, 288, 289, 290, 291, 292, 293, 294, 295, 296, 297, 95, 942, 943, 944, 945, 946, 658, 659, 947, 948, 949, 950, 951, 433, 417, 414, 418, 952, 953, 954, 955, 956, 957, 958, 959, 960, 961, 962, 100, 101, 963, 964, 965, 966, 967, 968, 969, 970, 971, 972, 973, 974, 975, 976, 977, 978, 979, 980, 248, 249, 250, 251, 1093, 1094, 1095, 1096, 102, 1097, 1098, 1099, 1100, 93, 103, 1101, 1102, 1103, 1104, 1105, 1106, 1107, 1108, 263, 264, 265, 266, 1336, 1337, 1338, 1339, 1340, 1341, 1342, 1343, 1344, 1345, 1346, 1347, 1348, 1349, 1350, 1351, 1352, 1353, 1354] (by decide +kernel) (by decide +kernel)) (goodIn_sub (fun _ h => List.mem_append_left _ (List.mem_append_left _ (List.mem_append_left _ (List.mem_append_left _ (List.mem_append_left _ (List.mem_append_left _ (List.mem_append_left _ (List.mem_append_right _ h)))))))) (by decide +kernel))
set_option maxRecDepth 20000 in
theorem gL_law_X7_isMatchedByTrying : GoodIn wsL_law (wsV RL 248 RX7 yX7_isMatchedByTrying wsX7_isMatchedByTrying) := goodIn_app (goodIn_of _ (by decide +kernel)) ggL_law_X7_isMatchedByTrying
set_option maxRecDepth 20000 in
theorem ggL_law_L_matchedNet : GoodIn wsL_law wsL_matchedNet := goodIn_ca (goodIn_ca (goodIn_ca (goodIn_r _ [1146, 152, 109, 1147, 1148, 1149, 2, 1150, 17, 30, 157, 158, 159, 160, 161, 162, 163, 164, 16, 165, 136, 1043, 1044, 1045, 1046, 130, 22, 26, 844, 845, 846, 847, 129, 18, 553, 554, 555, 556, 41, 37, 227, 39, 228, 229, 230, 43, 231, 201, 557, 558, 559, 560, 426, 413, 414, 415, 561, 562, 563, 564, 848, 849, 850, 21, 851, 852, 853, 854, 855, 856, 57, 58, 59, 60, 857, 858, 859, 56, 860, 67, 861, 862, 863, 864, 865, 866, 867, 868, 869, 870, 66, 871, 362, 363, 364, 365, 366, 367, 368, 202, 48, 872, 873, 874, 875, 876, 877, 878, 68, 879, 880, 881, 882, 883, 884, 885, 886, 887, 888, 889, 890, 891, 892, 893, 894, 895, 896, 897, 898, 899, 900, 901, 902, 903, 904, 905, 25, 906, 907, 908, 909, 910, 911, 912, 913, 914, 915, 916, 917, 918, 919, 920, 921, 922, 923, 69, 924, 925, 926, 927, 928, 74, 1047, 1048, 1049, 29, 1050, 1051, 1052, 1053, 1054, 1055, 79, 80, 1056, 1057, 1058, 82, 83, 1059, 1060, 1061, 1062, 81, 1063, 1064, 1065, 1066, 1067, 1068, 1069, 1070, 1071, 1072, 1073, 1074, 1075, 203, 1076, 1032, 1033, 1034, 1077, 1078, 1079, 1080, 1081, 1082, 1083, 1084, 1151, 1152, 1153, 114, 115, 1327, 1328, 1329, 1330, 1331, 1332, 1333, 1334, 1335, 1367, 1368, 1369, 1370, 1371, 1372, 1355, 1356, 1357, 1358, 1359, 1360, 1361, 1362, 1363, 1364, 1365, 1366, 1373, 1374, 1375, 1376, 1377, 1378, 1379, 1380, 1381, 1382, 1383] (by decide +kernel) (by decide +kernel)) (goodIn_sub (fun _ h => List.mem_append_left _ (List.mem_append_left _ (List.mem_append_left _ (List.mem_append_left _ (List.mem_append_left _ (List.mem_append_left _ (List.mem_append_left _ (List.mem_append_right _ h)))))))) (by decide +kernel))) (goodIn_sub (fun _ h => List.mem_append_left _ (List.mem_append_left _ (List.mem_append_left _ (List.mem_append_left _ (List.mem_append_right _ h))))) (by decide +kernel))) (goodIn_sub (fun _ h => List.mem_append_left _ (List.mem_append_left _ (List.mem_append_left _ (List.mem_append_left _ (List.mem_append_left _ (List.mem_append_left _ (List.mem_append_right _ h))))))) (by decide +kernel))
set_option maxRecDepth 20000 in
theorem gL_law_L_matchedNet : GoodIn wsL_law (va_wsS RL 249 yL_matchedNet wsL_matchedNet) := goodIn_app (goodIn_of _ (by decide +kernel)) ggL_law_L_matchedNet
set_option maxRecDepth 20000 in
theorem ggL_law_X7_matchedNet : GoodIn wsL_law wsX7_matchedNet := goodIn_ca (goodIn_r _ [1157, 141, 102, 179, 180, 181, 5, 182, 88, 176, 177, 178, 1089, 1090, 1091, 1092, 934, 935, 936, 937, 96, 90, 97, 91, 92, 933, 98, 99, 938, 939, 940, 941, 244, 245, 246, 247, 89, 94, 401, 402, 403, 404, 287, 288, 289, 290, 291, 292, 293, 294, 295, 296, 297, 95, 942, 943, 944, 945, 946, 658, 659, 947, 948, 949, 950, 951, 433, 417, 414, 418, 952, 953, 954, 955, 956, 957, 958, 959, 960, 961, 962, 100, 101, 963, 964, 965, 966, 967, 968, 969, 970, 971, 972, 973, 974, 975, 976, 977, 978, 979, 980, 248, 249, 250, 251, 1093, 1094, 1095, 1096, 1097, 1098, 1099, 1100, 93, 103, 1101, 1102, 1103, 1104, 1105, 1106, 1107, 1108, 263, 264, 265, 266, 1336, 1337, 1338, 1339, 1340, 1341, 1342, 1343, 1344, 1345, 1346, 1347, 1348, 1349, 1350, 1351, 1352, 1353, 1354] (by decide +kernel) (by decide +kernel)) (goodIn_sub (fun _ h => List.mem_append_left _ (List.mem_append_left _ (List.mem_append_left _ (List.mem_append_left _ (List.mem_append_left _ (List.mem_append_left _ (List.mem_append_left _ (List.mem_append_right _ h)))))))) (by decide +kernel))
set_option maxRecDepth 20000 in
theorem gL_law_X7_matchedNet : GoodIn wsL_law (wsV RL 251 RX7 yX7_matchedNet wsX7_matchedNet) := goodIn_app (goodIn_of _ (by decide +kernel)) ggL_law_X7_matchedNet
set_option maxRecDepth 20000 in
theorem ggL_law_L_netByTrying : GoodIn wsL_law wsL_netByTrying := goodIn_ca (goodIn_ca (goodIn_ca (goodIn_ca (goodIn_r _ [1160, 152, 271, 109, 1161, 1162, 1163, 2, 1164, 17, 31, 157, 158, 159, 160, 161, 162, 163, 164, 16, 165, 136, 1116, 1117, 1118, 1119, 276, 277, 18, 1120, 1121, 1122, 1123, 131, 1124, 1125, 1126, 29, 1127, 82, 83, 1051, 1052, 1053, 1054, 1055, 79, 80, 1128, 233, 234, 235, 227, 39, 228, 229, 230, 43, 231, 201, 1129, 1130, 1131, 1132, 1133, 1134, 1135, 1059, 1060, 1061, 1062, 81, 1063, 1064, 1065, 1066, 1067, 1068, 1069, 1070, 1071, 1072, 1073, 1074, 1075, 203, 1077, 1078, 1079, 1080, 1081, 1082, 1083, 1084, 1151, 1152, 1153, 114, 115, 1327, 1328, 1329, 1330, 1331, 1332, 1333, 1334, 1335, 1367, 1368, 1369, 1370, 1371, 1372, 1355, 1356, 1357, 1358, 1359, 1373, 1374, 1375, 1376, 1377, 1378] (by decide +kernel) (by decide +kernel)) (goodIn_sub (fun _ h => List.mem_append_left _ (List.mem_append_left _ (List.mem_append_left _ (List.mem_append_left _ (List.mem_append_left _ (List.mem_append_left _ (List.mem_append_left _ (List.mem_append_right _ h)))))))) (by decide +kernel))) (goodIn_sub (fun _ h => List.mem_append_left _ (List.mem_append_left _ (List.mem_append_left _ (List.mem_append_left _ (List.mem_append_right _ h))))) (by decide +kernel))) (goodIn_sub (fun _ h => List.mem_append_left _ (List.mem_append_left _ (List.mem_append_left _ (List.mem_append_right _ h)))) (by decide +kernel))) (goodIn_sub (fun _ h => List.mem_append_left _ (List.mem_append_left _ (List.mem_append_left _ (List.mem_append_left _ (List.mem_append_left _ (List.mem_append_left _ (List.mem_append_right _ h))))))) (by decide +kernel))
set_option maxRecDepth 20000 in
theorem gL_law_L_netByTrying : GoodIn wsL_law (va_wsS RL 252 yL_netByTrying wsL_netByTrying) := goodIn_app (goodIn_of _ (by decide +kernel)) ggL_law_L_netByTrying
set_option maxRecDepth 20000 in
theorem ggL_law_X7_netByTrying : GoodIn wsL_law wsX7_netByTrying := goodIn_ca (goodIn_r _ [1168, 141, 102, 179, 180, 181, 5, 182, 88, 176, 177, 178, 1140, 1141, 1142, 1143, 1089, 1090, 1091, 1092, 934, 935, 936, 937, 96, 90, 97, 91, 92, 933, 98, 99, 938, 939, 940, 941, 244, 245, 246, 247, 89, 94, 401, 402, 403, 404, 287, 288, 289, 290, 291, 292, 293, 294, 295, 296, 297, 95, 942, 943, 944, 945, 946, 658, 659, 947, 948, 949, 950, 951, 433, 417, 414, 418, 952, 953, 954, 955, 956, 957, 958, 959, 960, 961, 962, 100, 101, 963, 964, 965, 966, 967, 968, 969, 970, 971, 972, 973, 974, 975, 976, 977, 978, 979, 980, 248, 249, 250, 251, 1093, 1094, 1095, 1096, 1097, 1098, 1099, 1100, 93, 103, 1101, 1102, 1103, 1104, 1105, 1106, 1107, 1108, 263, 264, 265, 266, 1336, 1337, 1338, 1339, 1340, 1341, 1342, 1343, 1344, 1345, 1346, 1347, 1348, 1349, 1350, 1351, 1352, 1353, 1354] (by decide +kernel) (by decide +kernel)) (goodIn_sub (fun _ h => List.mem_append_left _ (List.mem_append_left _ (List.mem_append_left _ (List.mem_append_left _ (List.mem_append_left _ (List.mem_append_left _ (List.mem_append_left _ (List.mem_append_right _ h)))))))) (by decide +kernel))
set_option maxRecDepth 20000 in
theorem gL_law_X7_netByTrying : GoodIn wsL_law (wsV RL 254 RX7 yX7_netByTrying wsX7_netByTrying) := goodIn_app (goodIn_of _ (by decide +kernel)) ggL_law_X7_netByTrying
set_option maxRecDepth 20000 in
theorem ggL_law_L_matchedPart : GoodIn wsL_law wsL_matchedPart := goodIn_ca (goodIn_ca (goodIn_ca (goodIn_r _ [1171, 152, 109, 1172, 1173, 1174, 2, 1175, 17, 30, 220, 221, 222, 160, 161, 223, 224, 225, 16, 226, 227, 39, 228, 229, 230, 43, 231, 201, 1043, 1044, 1045, 1046, 130, 22, 26, 844, 845, 846, 847, 129, 18, 553, 554, 555, 556, 136, 41, 37, 557, 558, 559, 560, 426, 413, 414, 415, 561, 562, 563, 564, 848, 849, 850, 21, 851, 852, 853, 854, 855, 856, 57, 58, 59, 60, 857, 858, 859, 56, 860, 67, 861, 862, 863, 864, 865, 866, 867, 868, 869, 870, 66, 871, 362, 363, 364, 365, 366, 367, 368, 202, 48, 872, 873, 874, 875, 876, 877, 878, 68, 879, 880, 881, 882, 883, 884, 885, 886, 887, 888, 889, 890, 891, 892, 893, 894, 895, 896, 897, 898, 899, 900, 901, 902, 903, 904, 905, 25, 906, 907, 908, 909, 910, 911, 912, 913, 914, 915, 916, 917, 918, 919, 920, 921, 922, 923, 69, 924, 925, 926, 927, 928, 74, 1047, 1048, 1049, 29, 1050, 1051, 1052, 1053, 1054, 1055, 79, 80, 1056, 1057, 1058, 82, 83, 1059, 1060, 1061, 1062, 81, 1063, 1064, 1065, 1066, 1067, 1068, 1069, 1070, 1071, 1072, 1073, 1074, 1075, 203, 1076, 1032, 1033, 1034, 1077, 1078, 1079, 1080, 1081, 1082, 1083, 1084, 1151, 1152, 1153, 114, 115, 1327, 1328, 1329, 1330, 1331, 1332, 1333, 1334, 1335, 1367, 1368, 1369, 1370, 1371, 1372, 1355, 1356, 1357, 1358, 1359, 1373, 1374, 1375, 1376, 1377, 1378, 1360, 1361, 1362, 1363, 1364, 1365, 1366, 1379, 1380, 1381, 1382, 1383] (by decide +kernel) (by decide +kernel)) (goodIn_sub (fun _ h => List.mem_append_left _ (List.mem_append_left _ (List.mem_append_left _ (List.mem_append_left _ (List.mem_append_left _ (List.mem_append_left _ (List.mem_append_left _ (List.mem_append_right _ h)))))))) (by decide +kernel))) (goodIn_sub (fun _ h => List.mem_append_left _ (List.mem_append_left _ (List.mem_append_left _ (List.mem_append_left _ (List.mem_append_right _ h))))) (by decide +kernel))) (goodIn_sub (fun _ h => List.mem_append_left _ (List.mem_append_left _ (List.mem_append_left _ (List.mem_append_left _ (List.mem_append_left _ (List.mem_append_left _ (List.mem_append_right _ h))))))) (by decide +kernel))
set_option maxRecDepth 20000 in
theorem gL_law_L_matchedPart : GoodIn wsL_law (va_wsS RL 255 yL_matchedPart wsL_matchedPart) := goodIn_app (goodIn_of _ (by decide +kernel)) ggL_law_L_matchedPart
set_option maxRecDepth 20000 in
theorem ggL_law_X7_matchedPart : GoodIn wsL_law wsX7_matchedPart := goodIn_ca (goodIn_r _ [1179, 141, 103, 244, 245, 246, 5, 247, 89, 94, 176, 177, 178, 1089, 1090, 1091, 1092, 88, 934, 935, 936, 937, 96, 90, 97, 91, 92, 933, 98, 99, 938, 939, 940, 941, 179, 180, 181, 182, 401, 402, 403, 404, 287, 288, 289, 290, 291, 292, 293, 294, 295, 296, 297, 95, 942, 943, 944, 945, 946, 658, 659, 947, 948, 949, 950, 951, 433, 417, 414, 418, 952, 953, 954, 955, 956, 957, 958, 959, 960, 961, 962, 100, 101, 963, 964, 965, 966, 967, 968, 969, 970, 971, 972, 973, 974, 975, 976, 977, 978, 979, 980, 248, 249, 250, 251, 1093, 1094, 1095, 1096, 102, 1097, 1098, 1099, 1100, 93, 1101, 1102, 1103, 1104, 1105, 1106, 1107, 1108, 263, 264, 265, 266, 1336, 1337, 1338, 1339, 1340, 1341, 1342, 1343, 1344, 1345, 1346, 1347, 1348, 1349, 1350, 1351, 1352, 1353, 1354] (by decide +kernel) (by decide +kernel)) (goodIn_sub (fun _ h => List.mem_append_left _ (List.mem_append_left _ (List.mem_append_left _ (List.mem_append_left _ (List.mem_append_left _ (List.mem_append_left _ (List.mem_append_left _ (List.mem_append_right _ h)))))))) (by decide +kernel))
set_option maxRecDepth 20000 in
theorem gL_law_X7_matchedPart : GoodIn wsL_law (wsV RL 257 RX7 yX7_matchedPart wsX7_matchedPart) := goodIn_app (goodIn_of _ (by decide +kernel)) ggL_law_X7_matchedPart
set_option maxRecDepth 20000 in
theorem ggL_law_L_matchedPin : GoodIn wsL_law wsL_matchedPin := goodIn_ca (goodIn_ca (goodIn_ca (goodIn_ca (goodIn_r _ [1182, 152, 270, 109, 1183, 1184, 1185, 2, 1186, 17, 30, 220, 221, 222, 160, 161, 223, 224, 225, 16, 226, 227, 39, 228, 229, 230, 43, 231, 201, 278, 279, 280, 281, 282, 1043, 1044, 1045, 1046, 130, 22, 26, 844, 845, 846, 847, 129, 18, 553, 554, 555, 556, 136, 41, 37, 557, 558, 559, 560, 426, 413, 414, 415, 561, 562, 563, 564, 848, 849, 850, 21, 851, 852, 853, 854, 855, 856, 57, 58, 59, 60, 857, 858, 859, 56, 860, 67, 861, 862, 863, 864, 865, 866, 867, 868, 869, 870, 66, 871, 362, 363, 364, 365, 366, 367, 368, 202, 48, 872, 873, 874, 875, 876, 877, 878, 68, 879, 880, 881, 882, 883, 884, 885, 886, 887, 888, 889, 890, 891, 892, 893, 894, 895, 896, 897, 898, 899, 900, 901, 902, 903, 904, 905, 25, 906, 907, 908, 909, 910, 911, 912, 913, 914, 915, 916, 917, 918, 919, 920, 921, 922, 923, 69, 924, 925, 926, 927, 928, 74, 1047, 1048, 1049, 29, 1050, 1051, 1052, 1053, 1054, 1055, 79, 80, 1056, 1057, 1058, 82, 83, 1059, 1060, 1061, 1062, 81, 1063, 1064, 1065, 1066, 1067, 1068, 1069, 1070, 1071, 1072, 1073, 1074, 1075, 203, 1076, 1032, 1033, 1034, 1077, 1078, 1079, 1080, 1081, 1082, 1083, 1084, 1151, 1152, 1153, 114, 115, 1187, 1188, 1189, 1190, 1327, 1328, 1329, 1330, 1331, 1332, 1333, 1334, 1335, 1355, 1356, 1357, 1358, 1359, 1373, 1374, 1375, 1376, 1377, 1378, 1360, 1361, 1362, 1363, 1364, 1365, 1366, 1379, 1380, 1381, 1382, 1383, 1367, 1368, 1369, 1370, 1371, 1372] (by decide +kernel) (by decide +kernel)) (goodIn_sub (fun _ h => List.mem_append_left _ (List.mem_append_left _ (List.mem_append_left _ (List.mem_append_left _ (List.mem_append_left _ (List.mem_append_left _ (List.mem_append_left _ (List.mem_append_right _ h)))))))) (by decide +kernel))) (goodIn_sub (fun _ h => List.mem_append_left _ (List.mem_append_left _ (List.mem_append_left _ (List.mem_append_left _ (List.mem_append_right _ h))))) (by decide +kernel))) (goodIn_sub (fun _ h => List.mem_append_left _ (List.mem_append_left _ (List.mem_append_right _ h))) (by decide +kernel))) (goodIn_sub (fun _ h => List.mem_append_left _ (List.mem_append_left _ (List.mem_append_left _ (List.mem_append_left _ (List.mem_append_left _ (List.mem_append_left _ (List.mem_append_right _ h))))))) (by decide +kernel))
set_option maxRecDepth 20000 in
theorem gL_law_L_matchedPin : GoodIn wsL_law (va_wsS RL 258 yL_matchedPin wsL_matchedPin) := goodIn_app (goodIn_of _ (by decide +kernel)) ggL_law_L_matchedPin
set_option maxRecDepth 20000 in
theorem ggL_law_X7_matchedPin : GoodIn wsL_law wsX7_matchedPin := goodIn_ca (goodIn_r _ [1194, 141, 102, 103, 244, 245, 246, 5, 247, 89, 94, 176, 177, 178, 287, 288, 289, 290, 91, 291, 292, 293, 1089, 1090, 1091, 1092, 88, 934, 935, 936, 937, 96, 90, 97, 92, 933, 98, 99, 938, 939, 940, 941, 179, 180, 181, 182, 401, 402, 403, 404, 294, 295, 296, 297, 95, 942, 943, 944, 945, 946, 658, 659, 947, 948, 949, 950, 951, 433, 417, 414, 418, 952, 953, 954, 955, 956, 957, 958, 959, 960, 961, 962, 100, 101, 963, 964, 965, 966, 967, 968, 969, 970, 971, 972, 973, 974, 975, 976, 977, 978, 979, 980, 248, 249, 250, 251, 1093, 1094, 1095, 1096, 1097, 1098, 1099, 1100, 93, 1101, 1102, 1103, 1104, 1105, 1106, 1107, 1108, 263, 264, 265, 266, 1336, 1337, 1338, 1339, 1340, 1341, 1342, 1343, 1344, 1345, 1346, 1347, 1348, 1349, 1350, 1351, 1352, 1353, 1354] (by decide +kernel) (by decide +kernel)) (goodIn_sub (fun _ h => List.mem_append_left _ (List.mem_append_left _ (List.mem_append_left _ (List.mem_append_left _ (List.mem_append_left _ (List.mem_append_left _ (List.mem_append_left _ (List.mem_append_right _ h)))))))) (by decide +kernel))
set_option maxRecDepth 20000 in
theorem gL_law_X7_matchedPin : GoodIn wsL_law (wsV RL 260 RX7 yX7_matchedPin wsX7_matchedPin) := goodIn_app (goodIn_of _ (by decide +kernel)) ggL_law_X7_matchedPin
set_option maxRecDepth 20000 in
theorem ggL_law_X6_differences : GoodIn wsL_law wsX6_differences := goodIn_ca (goodIn_r _ [1198, 26, 844, 845, 846, 2, 847, 129, 17, 18, 22, 553, 554, 555, 16, 556, 136, 41, 37, 227, 39, 228, 229, 230, 43, 231, 201, 557, 558, 559, 560, 426, 413, 414, 415, 561, 562, 563, 564, 848, 849, 850, 21, 851, 852, 853, 854, 855, 856, 57, 58, 59, 60, 857, 858, 859, 56, 860, 67, 861, 862, 863, 864, 865, 866, 867, 868, 869, 870, 66, 871, 362, 363, 364, 365, 366, 367, 368, 202, 48, 872, 873, 874, 875, 876, 877, 878, 68, 879, 880, 881, 882, 883, 884, 885, 886, 887, 888, 889, 890, 891, 892, 893, 894, 895, 896, 897, 898, 899, 900, 901, 902, 903, 904, 905, 25, 906, 907, 908, 909, 910, 911, 912, 913, 914, 915, 916, 917, 918, 919, 920, 921, 922, 923, 69, 924, 925, 926, 927, 928, 74, 1327, 1328, 1329, 1330, 1331, 1332, 1333, 1334, 1335, 1365, 1366, 1355, 1356, 1357, 1358, 1359, 1373, 1374, 1375, 1376, 1377, 1378, 1360, 1361, 1362, 1363, 1364, 1379, 1380, 1381, 1382, 1383] (by decide +kernel) (by decide +kernel)) (goodIn_sub (fun _ h => List.mem_append_left _ (List.mem_append_left _ (List.mem_append_left _ (List.mem_append_left _ (List.mem_append_left _ (List.mem_append_left _ (List.mem_append_left _ (List.mem_append_right _ h)))))))) (by decide +kernel))
set_option maxRecDepth 20000 in
theorem gL_law_X6_differences : GoodIn wsL_law (wsV RL 261 RX6 yX6_differences wsX6_differences) := goodIn_app (goodIn_of _ (by decide +kernel)) ggL_law_X6_differences
set_option maxRecDepth 20000 in
theorem ggL_law_X7_differences : GoodIn wsL_law wsX7_differences := goodIn_ca (goodIn_r _ [1202, 141, 934, 935, 936, 5, 937, 96, 90, 97, 91, 92, 933, 98, 99, 938, 939, 940, 941, 244, 245, 246, 247, 89, 94, 176, 177, 178, 179, 180, 181, 182, 88, 401, 402, 403, 404, 287, 288, 289, 290, 291, 292, 293, 294, 295, 296, 297, 95, 942, 943, 944, 945, 946, 658, 659, 947, 948, 949, 950, 951, 433, 417, 414, 418, 952, 953, 954, 955, 956, 957, 958, 959, 960, 961, 962, 100, 101, 963, 964, 965, 966, 967, 968, 969, 970, 971, 972, 973, 974, 975, 976, 977, 978, 979, 980, 1203, 1204, 1205, 1206, 1207, 1208, 1209, 1210, 1010, 1011, 1012, 1211, 1212, 1213, 1214, 432, 413, 415, 569, 570, 571, 572, 40, 573, 574, 575, 576, 1215, 1216, 1217, 1336, 1337, 1338, 1339, 1340, 1341, 1342, 1343, 1344, 1345, 1346, 1347, 1348, 1349, 1350, 1351, 1352, 1353, 1354] (by decide +kernel) (by decide +kernel)) (goodIn_sub (fun _ h => List.mem_append_left _ (List.mem_append_left _ (List.mem_append_left _ (List.mem_append_left _ (List.mem_append_left _ (List.mem_append_left _ (List.mem_append_left _ (List.mem_append_right _ h)))))))) (by decide +kernel))
set_option maxRecDepth 20000 in
theorem gL_law_X7_differences : GoodIn wsL_law (wsV RL 264 RX7 yX7_differences wsX7_differences) := goodIn_app (goodIn_of _ (by decide +kernel)) ggL_law_X7_differences
set_option maxRecDepth 20000 in
theorem ggL_law_L_differenceKind : GoodIn wsL_law wsL_differenceKind := goodIn_ca (goodIn_ca (goodIn_r _ [1220, 270, 1221, 1222, 1223, 2, 1224, 26, 1225, 1226, 1227, 1228, 281, 282, 844, 845, 846, 847, 129, 17, 18, 22, 553, 554, 555, 16, 556, 136, 41, 37, 227, 39, 228, 229, 230, 43, 231, 201, 557, 558, 559, 560, 426, 413, 414, 415, 561, 562, 563, 564, 848, 849, 850, 21, 851, 852, 853, 854, 855, 856, 57, 58, 59, 60, 857, 858, 859, 56, 860, 67, 861, 862, 863, 864, 865, 866, 867, 868, 869, 870, 66, 871, 362, 363, 364, 365, 366, 367, 368, 202, 48, 872, 873, 874, 875, 876, 877, 878, 68, 879, 880, 881, 882, 883, 884, 885, 886, 887, 888, 889, 890, 891, 892, 893, 894, 895, 896, 897, 898, 899, 900, 901, 902, 903, 904, 905, 25, 906, 907, 908, 909, 910, 911, 912, 913, 914, 915, 916, 917, 918, 919, 920, 921, 922, 923, 69, 924, 925, 926, 927, 928, 74, 1229, 1230, 1231, 1232, 1327, 1328, 1329, 1330, 1331, 1332, 1333, 1334, 1335, 1365, 1366, 1355, 1356, 1357, 1358, 1359, 1373, 1374, 1375, 1376, 1377, 1378, 1360, 1361, 1362, 1363, 1364, 1379, 1380, 1381, 1382, 1383] (by decide +kernel) (by decide +kernel)) (goodIn_sub (fun _ h => List.mem_append_left _ (List.mem_append_left _ (List.mem_append_left _ (List.mem_append_left _ (List.mem_append_left _ (List.mem_append_left _ (List.mem_append_left _ (List.mem_append_right _ h)))))))) (by decide +kernel))) (goodIn_sub (fun _ h => List.mem_append_left _ (List.mem_append_left _ (List.mem_append_right _ h))) (by decide +kernel))
set_option maxRecDepth 20000 in
theorem gL_law_L_differenceKind : GoodIn wsL_law (va_wsS RL 265 yL_differenceKind wsL_differenceKind) := goodIn_app (goodIn_of _ (by decide +kernel)) ggL_law_L_differenceKind
set_option maxRecDepth 20000 in
theorem ggL_law_X7_differenceKind : GoodIn wsL_law wsX7_differenceKind := goodIn_ca (goodIn_r _ [1236, 1237, 1238, 1239, 1240, 5, 1241, 141, 96, 97, 1242, 934, 935, 936, 937, 90, 91, 92, 933, 98, 99, 938, 939, 940, 941, 244, 245, 246, 247, 89, 94, 176, 177, 178, 179, 180, 181, 182, 88, 401, 402, 403, 404, 287, 288, 289, 290, 291, 292, 293, 294, 295, 296, 297, 95, 942, 943, 944, 945, 946, 658, 659, 947, 948, 949, 950, 951, 433, 417, 414, 418, 952, 953, 954, 955, 956, 957, 958, 959, 960, 961, 962, 100, 101, 963, 964, 965, 966, 967, 968, 969, 970, 971, 972, 973, 974, 975, 976, 977, 978, 979, 980, 1203, 1204, 1205, 1206, 1207, 1208, 1209, 1210, 1010, 1011, 1012, 1211, 1212, 1213, 1214, 432, 413, 415, 569, 570, 571, 572, 40, 573, 574, 575, 576, 1215, 1216, 1217, 1336, 1337, 1338, 1339, 1340, 1341, 1342, 1343, 1344, 1345, 1346, 1347, 1348, 1349, 1350, 1351, 1352, 1353, 1354] (by decide +kernel) (by decide +kernel)) (goodIn_sub (fun _ h => List.mem_append_left _ (List.mem_append_left _ (List.mem_append_left _ (List.mem_append_left _ (List.mem_append_left _ (List.mem_append_left _ (List.mem_append_left _ (List.mem_append_right _ h)))))))) (by decide +kernel))
set_option maxRecDepth 20000 in
theorem gL_law_X7_differenceKind : GoodIn wsL_law (wsV RL 267 RX7 yX7_differenceKind wsX7_differenceKind) := goodIn_app (goodIn_of _ (by decide +kernel)) ggL_law_X7_differenceKind
set_option maxRecDepth 20000 in
theorem ggL_law_L_differenceMember : GoodIn wsL_law wsL_differenceMember := goodIn_ca (goodIn_ca (goodIn_r _ [1245, 270, 1246, 1247, 1248, 2, 1249, 26, 1225, 1226, 1227, 1228, 281, 282, 844, 845, 846, 847, 129, 17, 18, 22, 553, 554, 555, 16, 556, 136, 41, 37, 227, 39, 228, 229, 230, 43, 231, 201, 557, 558, 559, 560, 426, 413, 414, 415, 561, 562, 563, 564, 848, 849, 850, 21, 851, 852, 853, 854, 855, 856, 57, 58, 59, 60, 857, 858, 859, 56, 860, 67, 861, 862, 863, 864, 865, 866, 867, 868, 869, 870, 66, 871, 362, 363, 364, 365, 366, 367, 368, 202, 48, 872, 873, 874, 875, 876, 877, 878, 68, 879, 880, 881, 882, 883, 884, 885, 886, 887, 888, 889, 890, 891, 892, 893, 894, 895, 896, 897, 898, 899, 900, 901, 902, 903, 904, 905, 25, 906, 907, 908, 909, 910, 911, 912, 913, 914, 915, 916, 917, 918, 919, 920, 921, 922, 923, 69, 924, 925, 926, 927, 928, 74, 1250, 1251, 1252, 1253, 1327, 1328, 1329, 1330, 1331, 1332, 1333, 1334, 1335, 1365, 1366, 1355, 1356, 1357, 1358, 1359, 1373, 1374, 1375, 1376, 1377, 1378, 1360, 1361, 1362, 1363, 1364, 1379, 1380, 1381, 1382, 1383] (by decide +kernel) (by decide +kernel)) (goodIn_sub (fun _ h => List.mem_append_left _ (List.mem_append_left _ (List.mem_append_left _ (List.mem_append_left _ (List.mem_append_left _ (List.mem_append_left _ (List.mem_append_left _ (List.mem_append_right _ h)))))))) (by decide +kernel))) (goodIn_sub (fun _ h => List.mem_append_left _ (List.mem_append_left _ (List.mem_append_right _ h))) (by decide +kernel))
set_option maxRecDepth 20000 in
theorem gL_law_L_differenceMember : GoodIn wsL_law (va_wsS RL 268 yL_differenceMember wsL_differenceMember) := goodIn_app (goodIn_of _ (by decide +kernel)) ggL_law_L_differenceMember
set_option maxRecDepth 20000 in
theorem ggL_law_X7_differenceMember : GoodIn wsL_law wsX7_differenceMember := goodIn_ca (goodIn_r _ [1257, 1237, 97, 96, 1242, 1238, 1239, 1240, 5, 1241, 141, 934, 935, 936, 937, 90, 91, 92, 933, 98, 99, 938, 939, 940, 941, 244, 245, 246, 247, 89, 94, 176, 177, 178, 179, 180, 181, 182, 88, 401, 402, 403, 404, 287, 288, 289, 290, 291, 292, 293, 294, 295, 296, 297, 95, 942, 943, 944, 945, 946, 658, 659, 947, 948, 949, 950, 951, 433, 417, 414, 418, 952, 953, 954, 955, 956, 957, 958, 959, 960, 961, 962, 100, 101, 963, 964, 965, 966, 967, 968, 969, 970, 971, 972, 973, 974, 975, 976, 977, 978, 979, 980, 1203, 1204, 1205, 1206, 1207, 1208, 1209, 1210, 1010, 1011, 1012, 1211, 1212, 1213, 1214, 432, 413, 415, 569, 570, 571, 572, 40, 573, 574, 575, 576, 1215, 1216, 1217, 1336, 1337, 1338, 1339, 1340, 1341, 1342, 1343, 1344, 1345, 1346, 1347, 1348, 1349, 1350, 1351, 1352, 1353, 1354] (by decide +kernel) (by decide +kernel)) (goodIn_sub (fun _ h => List.mem_append_left _ (List.mem_append_left _ (List.mem_append_left _ (List.mem_append_left _ (List.mem_append_left _ (List.mem_append_left _ (List.mem_append_left _ (List.mem_append_right _ h)))))))) (by decide +kernel))
set_option maxRecDepth 20000 in
theorem gL_law_X7_differenceMember : GoodIn wsL_law (wsV RL 270 RX7 yX7_differenceMember wsX7_differenceMember) := goodIn_app (goodIn_of _ (by decide +kernel)) ggL_law_X7_differenceMember
set_option maxRecDepth 20000 in
theorem ggL_law_L_differenceDistance : GoodIn wsL_law wsL_differenceDistance := goodIn_ca (goodIn_ca (goodIn_r _ [1260, 270, 1261, 1262, 1263, 2, 1264, 26, 1225, 1226, 1227, 1228, 281, 282, 844, 845, 846, 847, 129, 17, 18, 22, 553, 554, 555, 16, 556, 136, 41, 37, 227, 39, 228, 229, 230, 43, 231, 201, 557, 558, 559, 560, 426, 413, 414, 415, 561, 562, 563, 564, 848, 849, 850, 21, 851, 852, 853, 854, 855, 856, 57, 58, 59, 60, 857, 858, 859, 56, 860, 67, 861, 862, 863, 864, 865, 866, 867, 868, 869, 870, 66, 871, 362, 363, 364, 365, 366, 367, 368, 202, 48, 872, 873, 874, 875, 876, 877, 878, 68, 879, 880, 881, 882, 883, 884, 885, 886, 887, 888, 889, 890, 891, 892, 893, 894, 895, 896, 897, 898, 899, 900, 901, 902, 903, 904, 905, 25, 906, 907, 908, 909, 910, 911, 912, 913, 914, 915, 916, 917, 918, 919, 920, 921, 922, 923, 69, 924, 925, 926, 927, 928, 74, 1265, 1266, 1267, 1268, 1327, 1328, 1329, 1330, 1331, 1332, 1333, 1334, 1335, 1365, 1366, 1355, 1356, 1357, 1358, 1359, 1373, 1374, 1375, 1376, 1377, 1378, 1360, 1361, 1362, 1363, 1364, 1379, 1380, 1381, 1382, 1383] (by decide +kernel) (by decide +kernel)) (goodIn_sub (fun _ h => List.mem_append_left _ (List.mem_append_left _ (List.mem_append_left _ (List.mem_append_left _ (List.mem_append_left _ (List.mem_append_left _ (List.mem_append_left _ (List.mem_append_right _ h)))))))) (by decide +kernel))) (goodIn_sub (fun _ h => List.mem_append_left _ (List.mem_append_left _ (List.mem_append_right _ h))) (by decide +kernel))
set_option maxRecDepth 20000 in
theorem gL_law_L_differenceDistance : GoodIn wsL_law (va_wsS RL 271 yL_differenceDistance wsL_differenceDistance) := goodIn_app (goodIn_of _ (by decide +kernel)) ggL_law_L_differenceDistance
set_option maxRecDepth 20000 in
theorem ggL_law_X7_differenceDistance : GoodIn wsL_law wsX7_differenceDistance := goodIn_ca (goodIn_r _ [1272, 1237, 1242, 1238, 1239, 1240, 5, 1241, 141, 96, 97, 934, 935, 936, 937, 90, 91, 92, 933, 98, 99, 938, 939, 940, 941, 244, 245, 246, 247, 89, 94, 176, 177, 178, 179, 180, 181, 182, 88, 401, 402, 403, 404, 287, 288, 289, 290, 291, 292, 293, 294, 295, 296, 297, 95, 942, 943, 944, 945, 946, 658, 659, 947, 948, 949, 950, 951, 433, 417, 414, 418, 952, 953, 954, 955, 956, 957, 958, 959, 960, 961, 962, 100, 101, 963, 964, 965, 966, 967, 968, 969, 970, 971, 972, 973, 974, 975, 976, 977, 978, 979, 980, 1203, 1204, 1205, 1206, 1207, 1208, 1209, 1210, 1010, 1011, 1012, 1211, 1212, 1213, 1214, 432, 413, 415, 569, 570, 571, 572, 40, 573, 574, 575, 576, 1215, 1216, 1217, 1336, 1337, 1338, 1339, 1340, 1341, 1342, 1343, 1344, 1345, 1346, 1347, 1348, 1349, 1350, 1351, 1352, 1353, 1354] (by decide +kernel) (by decide +kernel)) (goodIn_sub (fun _ h => List.mem_append_left _ (List.mem_append_left _ (List.mem_append_left _ (List.mem_append_left _ (List.mem_append_left _ (List.mem_append_left _ (List.mem_append_left _ (List.mem_append_right _ h)))))))) (by decide +kernel))
set_option maxRecDepth 20000 in
theorem gL_law_X7_differenceDistance : GoodIn wsL_law (wsV RL 273 RX7 yX7_differenceDistance wsX7_differenceDistance) := goodIn_app (goodIn_of _ (by decide +kernel)) ggL_law_X7_differenceDistance
set_option maxRecDepth 20000 in
theorem ggL_law_L_differenceSize : GoodIn wsL_law wsL_differenceSize := goodIn_ca (goodIn_ca (goodIn_ca (goodIn_r _ [1275, 270, 108, 1276, 1277, 1278, 2, 1279, 26, 22, 1225, 1226, 1227, 1228, 281, 282, 844, 845, 846, 847, 129, 17, 18, 553, 554, 555, 16, 556, 136, 41, 37, 227, 39, 228, 229, 230, 43, 231, 201, 557, 558, 559, 560, 426, 413, 414, 415, 561, 562, 563, 564, 848, 849, 850, 21, 851, 852, 853, 854, 855, 856, 57, 58, 59, 60, 857, 858, 859, 56, 860, 67, 861, 862, 863, 864, 865, 866, 867, 868, 869, 870, 66, 871, 362, 363, 364, 365, 366, 367, 368, 202, 48, 872, 873, 874, 875, 876, 877, 878, 68, 879, 880, 881, 882, 883, 884, 885, 886, 887, 888, 889, 890, 891, 892, 893, 894, 895, 896, 897, 898, 899, 900, 901, 902, 903, 904, 905, 25, 906, 907, 908, 909, 910, 911, 912, 913, 914, 915, 916, 917, 918, 919, 920, 921, 922, 923, 69, 924, 925, 926, 927, 928, 74, 120, 121, 122, 123, 124, 1280, 1281, 1282, 1283, 1284, 1230, 1231, 1232, 1285, 1251, 1252, 1253, 1327, 1328, 1329, 1330, 1331, 1332, 1333, 1334, 1335, 1365, 1366, 1355, 1356, 1357, 1358, 1359, 1373, 1374, 1375, 1376, 1377, 1378, 1360, 1361, 1362, 1363, 1364, 1379, 1380, 1381, 1382, 1383] (by decide +kernel) (by decide +kernel)) (goodIn_sub (fun _ h => List.mem_append_left _ (List.mem_append_left _ (List.mem_append_left _ (List.mem_append_left _ (List.mem_append_left _ (List.mem_append_left _ (List.mem_append_left _ (List.mem_append_right _ h)))))))) (by decide +kernel))) (goodIn_sub (fun _ h => List.mem_append_left _ (List.mem_append_left _ (List.mem_append_right _ h))) (by decide +kernel))) (goodIn_sub (fun _ h => List.mem_append_left _ (List.mem_append_left _ (List.mem_append_left _ (List.mem_append_left _ (List.mem_append_left _ (List.mem_append_right _ h)))))) (by decide +kernel))
set_option maxRecDepth 20000 in
theorem gL_law_L_differenceSize : GoodIn wsL_law (va_wsS RL 274 yL_differenceSize wsL_differenceSize) := goodIn_app (goodIn_of _ (by decide +kernel)) ggL_law_L_differenceSize
set_option maxRecDepth 20000 in
theorem ggL_law_X7_differenceSize : GoodIn wsL_law wsX7_differenceSize := goodIn_ca (goodIn_r _ [1289, 141, 1237, 97, 96, 1242, 1238, 1239, 1240, 5, 1241, 934, 935, 936, 937, 90, 91, 92, 933, 98, 99, 938, 939, 940, 941, 244, 245, 246, 247, 89, 94, 176, 177, 178, 179, 180, 181, 182, 88, 401, 402, 403, 404, 287, 288, 289, 290, 291, 292, 293, 294, 295, 296, 297, 95, 942, 943, 944, 945, 946, 658, 659, 947, 948, 949, 950, 951, 433, 417, 414, 418, 952, 953, 954, 955, 956, 957, 958, 959, 960, 961, 962, 100, 101, 963, 964, 965, 966, 967, 968, 969, 970, 971, 972, 973, 974, 975, 976, 977, 978, 979, 980, 1203, 1204, 1205, 1206, 1207, 1208, 1209, 1210, 1010, 1011, 1012, 1211, 1212, 1213, 1214, 432, 413, 415, 569, 570, 571, 572, 40, 573, 574, 575, 576, 1215, 1216, 1217, 142, 143, 144, 1336, 1337, 1338, 1339, 1340, 1341, 1342, 1343, 1344, 1345, 1346, 1347, 1348, 1349, 1350, 1351, 1352, 1353, 1354] (by decide +kernel) (by decide +kernel)) (goodIn_sub (fun _ h => List.mem_append_left _ (List.mem_append_left _ (List.mem_append_left _ (List.mem_append_left _ (List.mem_append_left _ (List.mem_append_left _ (List.mem_append_left _ (List.mem_append_right _ h)))))))) (by decide +kernel))
set_option maxRecDepth 20000 in
theorem gL_law_X7_differenceSize : GoodIn wsL_law (wsV RL 276 RX7 yX7_differenceSize wsX7_differenceSize) := goodIn_app (goodIn_of _ (by decide +kernel)) ggL_law_X7_differenceSize
set_option maxRecDepth 20000 in
theorem ggL_law_L_equalShare : GoodIn wsL_law wsL_equalShare := goodIn_ca (goodIn_ca (goodIn_r _ [1292, 1293, 1294, 1295, 1296, 2, 1297, 1298, 1299, 22, 26, 844, 845, 846, 847, 129, 17, 18, 553, 554, 555, 16, 556, 136, 41, 37, 227, 39, 228, 229, 230, 43, 231, 201, 557, 558, 559, 560, 426, 413, 414, 415, 561, 562, 563, 564, 848, 849, 850, 21, 851, 852, 853, 854, 855, 856, 57, 58, 59, 60, 857, 858, 859, 56, 860, 67, 861, 862, 863, 864, 865, 866, 867, 868, 869, 870, 66, 871, 362, 363, 364, 365, 366, 367, 368, 202, 48, 872, 873, 874, 875, 876, 877, 878, 68, 879, 880, 881, 882, 883, 884, 885, 886, 887, 888, 889, 890, 891, 892, 893, 894, 895, 896, 897, 898, 899, 900, 901, 902, 903, 904, 905, 25, 906, 907, 908, 909, 910, 911, 912, 913, 914, 915, 916, 917, 918, 919, 920, 921, 922, 923, 69, 924, 925, 926, 927, 928, 74, 1300, 1327, 1328, 1329, 1330, 1331, 1332, 1333, 1334, 1335, 1365, 1366, 1355, 1356, 1357, 1358, 1359, 1373, 1374, 1375, 1376, 1377, 1378, 1360, 1361, 1362, 1363, 1364, 1379, 1380, 1381, 1382, 1383] (by decide +kernel) (by decide +kernel)) (goodIn_sub (fun _ h => List.mem_append_left _ (List.mem_append_left _ (List.mem_append_left _ (List.mem_append_left _ (List.mem_append_left _ (List.mem_append_left _ (List.mem_append_left _ (List.mem_append_right _ h)))))))) (by decide +kernel))) (goodIn_sub (fun _ h => List.mem_append_right _ h) (by decide +kernel))
set_option maxRecDepth 20000 in
theorem gL_law_L_equalShare : GoodIn wsL_law (va_wsS RL 277 yL_equalShare wsL_equalShare) := goodIn_app (goodIn_of _ (by decide +kernel)) ggL_law_L_equalShare
set_option maxRecDepth 20000 in
theorem ggL_law_X7_equalShare : GoodIn wsL_law wsX7_equalShare := goodIn_ca (goodIn_r _ [1304, 96, 97, 141, 934, 935, 936, 5, 937, 90, 91, 92, 933, 98, 99, 938, 939, 940, 941, 244, 245, 246, 247, 89, 94, 176, 177, 178, 179, 180, 181, 182, 88, 401, 402, 403, 404, 287, 288, 289, 290, 291, 292, 293, 294, 295, 296, 297, 95, 942, 943, 944, 945, 946, 658, 659, 947, 948, 949, 950, 951, 433, 417, 414, 418, 952, 953, 954, 955, 956, 957, 958, 959, 960, 961, 962, 100, 101, 963, 964, 965, 966, 967, 968, 969, 970, 971, 972, 973, 974, 975, 976, 977, 978, 979, 980, 1203, 1204, 1205, 1206, 1207, 1208, 1209, 1210, 1010, 1011, 1012, 1211, 1212, 1213, 1214, 432, 413, 415, 569, 570, 571, 572, 40, 573, 574, 575, 576, 1215, 1216, 1217, 1336, 1337, 1338, 1339, 1340, 1341, 1342, 1343, 1344, 1345, 1346, 1347, 1348, 1349, 1350, 1351, 1352, 1353, 1354] (by decide +kernel) (by decide +kernel)) (goodIn_sub (fun _ h => List.mem_append_left _ (List.mem_append_left _ (List.mem_append_left _ (List.mem_append_left _ (List.mem_append_left _ (List.mem_append_left _ (List.mem_append_left _ (List.mem_append_right _ h)))))))) (by decide +kernel))
set_option maxRecDepth 20000 in
theorem gL_law_X7_equalShare : GoodIn wsL_law (wsV RL 280 RX7 yX7_equalShare wsX7_equalShare) := goodIn_app (goodIn_of _ (by decide +kernel)) ggL_law_X7_equalShare
set_option maxRecDepth 20000 in
theorem ggL_law_L_meanDistance : GoodIn wsL_law wsL_meanDistance := goodIn_ca (goodIn_ca (goodIn_ca (goodIn_r _ [1307, 108, 1293, 1308, 1309, 1310, 2, 1311, 1298, 1299, 116, 117, 118, 119, 17, 18, 120, 121, 122, 123, 124, 553, 554, 555, 16, 556, 136, 41, 37, 227, 39, 228, 229, 230, 43, 231, 201, 557, 558, 559, 560, 426, 413, 414, 415, 561, 562, 563, 564, 1355, 1356, 1357, 1358, 1359, 1327, 1328, 1329, 1330, 1331, 1332, 1333, 1334, 1335, 1373, 1374, 1375, 1376, 1377, 1378] (by decide +kernel) (by decide +kernel)) (goodIn_sub (fun _ h => List.mem_append_left _ (List.mem_append_left _ (List.mem_append_left _ (List.mem_append_left _ (List.mem_append_left _ (List.mem_append_left _ (List.mem_append_left _ (List.mem_append_right _ h)))))))) (by decide +kernel))) (goodIn_sub (fun _ h => List.mem_append_right _ h) (by decide +kernel))) (goodIn_sub (fun _ h => List.mem_append_left _ (List.mem_append_left _ (List.mem_append_left _ (List.mem_append_left _ (List.mem_append_left _ (List.mem_append_right _ h)))))) (by decide +kernel))
set_option maxRecDepth 20000 in
theorem gL_law_L_meanDistance : GoodIn wsL_law (va_wsS RL 281 yL_meanDistance wsL_meanDistance) := goodIn_app (goodIn_of _ (by decide +kernel)) ggL_law_L_meanDistance
set_option maxRecDepth 20000 in
theorem ggL_law_X7_meanDistance : GoodIn wsL_law wsX7_meanDistance := goodIn_ca (goodIn_r _ [1315, 141, 88, 142, 143, 5, 144, 569, 570, 571, 572, 40, 90, 89, 432, 413, 414, 415, 244, 245, 246, 247, 94, 176, 177, 178, 573, 574, 575, 576, 287, 288, 289, 290, 91, 291, 292, 293, 294, 295, 296, 297, 95, 1336, 1337, 1338, 1339, 1340, 1341, 1342, 1343, 1344, 1345, 1346, 1347, 1348, 1349, 1350, 1351, 1352, 1353, 1354] (by decide +kernel) (by decide +kernel)) (goodIn_sub (fun _ h => List.mem_append_left _ (List.mem_append_left _ (List.mem_append_left _ (List.mem_append_left _ (List.mem_append_left _ (List.mem_append_left _ (List.mem_append_left _ (List.mem_append_right _ h)))))))) (by decide +kernel))
set_option maxRecDepth 20000 in
theorem gL_law_X7_meanDistance : GoodIn wsL_law (wsV RL 284 RX7 yX7_meanDistance wsX7_meanDistance) := goodIn_app (goodIn_of _ (by decide +kernel)) ggL_law_X7_meanDistance
set_option maxRecDepth 20000 in
theorem ggL_law_L_valueSum : GoodIn wsL_law wsL_valueSum := goodIn_ca (goodIn_ca (goodIn_r _ [1318, 108, 1319, 1320, 1321, 2, 1322, 116, 117, 118, 119, 17, 18, 120, 121, 122, 123, 124, 1355, 1356, 1357, 1358, 1359, 1373, 1374, 1375, 1376, 1377, 1378, 1327, 1328, 1329, 1330, 1331, 1332, 1333, 1334, 1335] (by decide +kernel) (by decide +kernel)) (goodIn_sub (fun _ h => List.mem_append_left _ (List.mem_append_left _ (List.mem_append_left _ (List.mem_append_left _ (List.mem_append_left _ (List.mem_append_left _ (List.mem_append_left _ (List.mem_append_right _ h)))))))) (by decide +kernel))) (goodIn_sub (fun _ h => List.mem_append_left _ (List.mem_append_left _ (List.mem_append_left _ (List.mem_append_left _ (List.mem_append_left _ (List.mem_append_right _ h)))))) (by decide +kernel))
set_option maxRecDepth 20000 in
theorem gL_law_L_valueSum : GoodIn wsL_law (va_wsS RL 285 yL_valueSum wsL_valueSum) := goodIn_app (goodIn_of _ (by decide +kernel)) ggL_law_L_valueSum
set_option maxRecDepth 20000 in
theorem ggL_law_X7_valueSum : GoodIn wsL_law wsX7_valueSum := goodIn_ca (goodIn_r _ [1326, 141, 89, 142, 143, 5, 144, 244, 245, 246, 247, 94, 176, 177, 178, 263, 264, 265, 266, 92, 1336, 1337, 1338, 1339, 1340, 1341, 1342, 1343, 1344, 1345, 1346, 1347, 1348, 1349, 1350, 1351, 1352, 1353, 1354] (by decide +kernel) (by decide +kernel)) (goodIn_sub (fun _ h => List.mem_append_left _ (List.mem_append_left _ (List.mem_append_left _ (List.mem_append_left _ (List.mem_append_left _ (List.mem_append_left _ (List.mem_append_left _ (List.mem_append_right _ h)))))))) (by decide +kernel))
set_option maxRecDepth 20000 in
theorem gL_law_X7_valueSum : GoodIn wsL_law (wsV RL 287 RX7 yX7_valueSum wsX7_valueSum) := goodIn_app (goodIn_of _ (by decide +kernel)) ggL_law_X7_valueSum
theorem dL_law_1699 : decode cL_law 1699 = .ok (.aload_n 1, 1) := by decide +kernel
theorem dL_law_1700 : decode cL_law 1700 = .ok (.invokevirtual 220, 3) := by decide +kernel
theorem dL_law_1703 : decode cL_law 1703 = .ok (.aload_n 2, 1) := by decide +kernel
theorem dL_law_1704 : decode cL_law 1704 = .ok (.invokevirtual 223, 3) := by decide +kernel
theorem dL_law_1707 : decode cL_law 1707 = .ok (.if_icmp .eq 1013, 3) := by decide +kernel
theorem dL_law_1712 : decode cL_law 1712 = .ok (.aload_n 1, 1) := by decide +kernel
theorem dL_law_1713 : decode cL_law 1713 = .ok (.invokevirtual 224, 3) := by decide +kernel
theorem dL_law_1716 : decode cL_law 1716 = .ok (.aload_n 2, 1) := by decide +kernel
theorem dL_law_1717 : decode cL_law 1717 = .ok (.invokevirtual 227, 3) := by decide +kernel
theorem dL_law_1720 : decode cL_law 1720 = .ok (.if_icmp .eq 1000, 3) := by decide +kernel
theorem dL_law_1725 : decode cL_law 1725 = .ok (.aload_n 1, 1) := by decide +kernel
theorem dL_law_1726 : decode cL_law 1726 = .ok (.invokevirtual 228, 3) := by decide +kernel
theorem dL_law_1729 : decode cL_law 1729 = .ok (.aload_n 2, 1) := by decide +kernel
theorem dL_law_1730 : decode cL_law 1730 = .ok (.invokevirtual 231, 3) := by decide +kernel
theorem dL_law_1733 : decode cL_law 1733 = .ok (.if_icmp .eq 987, 3) := by decide +kernel
theorem dL_law_1738 : decode cL_law 1738 = .ok (.aload_n 1, 1) := by decide +kernel
theorem dL_law_1739 : decode cL_law 1739 = .ok (.aload_n 0, 1) := by decide +kernel
theorem dL_law_1740 : decode cL_law 1740 = .ok (.iload 5, 2) := by decide +kernel
theorem dL_law_1742 : decode cL_law 1742 = .ok (.iconst 1, 1) := by decide +kernel
theorem dL_law_1743 : decode cL_law 1743 = .ok (.iadd, 1) := by decide +kernel
theorem dL_law_1744 : decode cL_law 1744 = .ok (.iaload, 1) := by decide +kernel
theorem dL_law_1745 : decode cL_law 1745 = .ok (.aload_n 0, 1) := by decide +kernel
theorem dL_law_1746 : decode cL_law 1746 = .ok (.iload 5, 2) := by decide +kernel
theorem dL_law_1748 : decode cL_law 1748 = .ok (.iconst 2, 1) := by decide +kernel
theorem dL_law_1749 : decode cL_law 1749 = .ok (.iadd, 1) := by decide +kernel
theorem dL_law_1750 : decode cL_law 1750 = .ok (.iaload, 1) := by decide +kernel
theorem dL_law_1751 : decode cL_law 1751 = .ok (.aload_n 0, 1) := by decide +kernel
theorem dL_law_1752 : decode cL_law 1752 = .ok (.iload 5, 2) := by decide +kernel
theorem dL_law_1754 : decode cL_law 1754 = .ok (.iconst 3, 1) := by decide +kernel
theorem dL_law_1755 : decode cL_law 1755 = .ok (.iadd, 1) := by decide +kernel
theorem dL_law_1756 : decode cL_law 1756 = .ok (.iaload, 1) := by decide +kernel
theorem dL_law_1757 : decode cL_law 1757 = .ok (.aload_n 3, 1) := by decide +kernel
theorem dL_law_1758 : decode cL_law 1758 = .ok (.invokestatic 232, 3) := by decide +kernel
theorem dL_law_1761 : decode cL_law 1761 = .ok (.istore 6, 2) := by decide +kernel
theorem dL_law_1763 : decode cL_law 1763 = .ok (.aload_n 2, 1) := by decide +kernel
theorem dL_law_1764 : decode cL_law 1764 = .ok (.aload_n 0, 1) := by decide +kernel
theorem dL_law_1765 : decode cL_law 1765 = .ok (.iload 5, 2) := by decide +kernel
theorem dL_law_1767 : decode cL_law 1767 = .ok (.iconst 1, 1) := by decide +kernel
theorem dL_law_1768 : decode cL_law 1768 = .ok (.iadd, 1) := by decide +kernel
theorem dL_law_1769 : decode cL_law 1769 = .ok (.iaload, 1) := by decide +kernel
theorem dL_law_1770 : decode cL_law 1770 = .ok (.aload_n 0, 1) := by decide +kernel
theorem dL_law_1771 : decode cL_law 1771 = .ok (.iload 5, 2) := by decide +kernel
theorem dL_law_1773 : decode cL_law 1773 = .ok (.iconst 2, 1) := by decide +kernel
theorem dL_law_1774 : decode cL_law 1774 = .ok (.iadd, 1) := by decide +kernel
theorem dL_law_1775 : decode cL_law 1775 = .ok (.iaload, 1) := by decide +kernel
theorem dL_law_1776 : decode cL_law 1776 = .ok (.aload_n 0, 1) := by decide +kernel
theorem dL_law_1777 : decode cL_law 1777 = .ok (.iload 5, 2) := by decide +kernel
theorem dL_law_1779 : decode cL_law 1779 = .ok (.iconst 3, 1) := by decide +kernel
theorem dL_law_1780 : decode cL_law 1780 = .ok (.iadd, 1) := by decide +kernel
theorem dL_law_1781 : decode cL_law 1781 = .ok (.iaload, 1) := by decide +kernel
theorem dL_law_1782 : decode cL_law 1782 = .ok (.invokevirtual 234, 3) := by decide +kernel
theorem dL_law_1785 : decode cL_law 1785 = .ok (.istore 7, 2) := by decide +kernel
theorem dL_law_1787 : decode cL_law 1787 = .ok (.aload_n 2, 1) := by decide +kernel
theorem dL_law_1788 : decode cL_law 1788 = .ok (.invokevirtual 150, 3) := by decide +kernel
theorem dL_law_1791 : decode cL_law 1791 = .ok (.iload 6, 2) := by decide +kernel
theorem dL_law_1793 : decode cL_law 1793 = .ok (.if_icmp .eq 5, 3) := by decide +kernel
theorem dL_law_1798 : decode cL_law 1798 = .ok (.iload 6, 2) := by decide +kernel
theorem dL_law_1800 : decode cL_law 1800 = .ok (.ifCond .ne 15, 3) := by decide +kernel
theorem dL_law_1815 : decode cL_law 1815 = .ok (.goto 905, 3) := by decide +kernel
theorem dL_law_1818 : decode cL_law 1818 = .ok (.aload_n 1, 1) := by decide +kernel
theorem dL_law_1819 : decode cL_law 1819 = .ok (.aload_n 0, 1) := by decide +kernel
theorem dL_law_1820 : decode cL_law 1820 = .ok (.iload 5, 2) := by decide +kernel
theorem dL_law_1822 : decode cL_law 1822 = .ok (.iconst 1, 1) := by decide +kernel
theorem dL_law_1823 : decode cL_law 1823 = .ok (.iadd, 1) := by decide +kernel
theorem dL_law_1824 : decode cL_law 1824 = .ok (.iaload, 1) := by decide +kernel
theorem dL_law_1825 : decode cL_law 1825 = .ok (.aload_n 0, 1) := by decide +kernel
theorem dL_law_1826 : decode cL_law 1826 = .ok (.iload 5, 2) := by decide +kernel
theorem dL_law_1828 : decode cL_law 1828 = .ok (.iconst 2, 1) := by decide +kernel
theorem dL_law_1829 : decode cL_law 1829 = .ok (.iadd, 1) := by decide +kernel
theorem dL_law_1830 : decode cL_law 1830 = .ok (.iaload, 1) := by decide +kernel
theorem dL_law_1831 : decode cL_law 1831 = .ok (.aload_n 0, 1) := by decide +kernel
theorem dL_law_1832 : decode cL_law 1832 = .ok (.iload 5, 2) := by decide +kernel
theorem dL_law_1834 : decode cL_law 1834 = .ok (.iconst 3, 1) := by decide +kernel
theorem dL_law_1835 : decode cL_law 1835 = .ok (.iadd, 1) := by decide +kernel
theorem dL_law_1836 : decode cL_law 1836 = .ok (.iaload, 1) := by decide +kernel
theorem dL_law_1837 : decode cL_law 1837 = .ok (.aload_n 3, 1) := by decide +kernel
theorem dL_law_1838 : decode cL_law 1838 = .ok (.invokestatic 235, 3) := by decide +kernel
theorem dL_law_1841 : decode cL_law 1841 = .ok (.istore 6, 2) := by decide +kernel
theorem dL_law_1843 : decode cL_law 1843 = .ok (.aload_n 2, 1) := by decide +kernel
theorem dL_law_1844 : decode cL_law 1844 = .ok (.aload_n 0, 1) := by decide +kernel
theorem dL_law_1845 : decode cL_law 1845 = .ok (.iload 5, 2) := by decide +kernel
theorem dL_law_1847 : decode cL_law 1847 = .ok (.iconst 1, 1) := by decide +kernel
theorem dL_law_1848 : decode cL_law 1848 = .ok (.iadd, 1) := by decide +kernel
theorem dL_law_1849 : decode cL_law 1849 = .ok (.iaload, 1) := by decide +kernel
theorem dL_law_1850 : decode cL_law 1850 = .ok (.aload_n 0, 1) := by decide +kernel
theorem dL_law_1851 : decode cL_law 1851 = .ok (.iload 5, 2) := by decide +kernel
theorem dL_law_1853 : decode cL_law 1853 = .ok (.iconst 2, 1) := by decide +kernel
theorem dL_law_1854 : decode cL_law 1854 = .ok (.iadd, 1) := by decide +kernel
theorem dL_law_1855 : decode cL_law 1855 = .ok (.iaload, 1) := by decide +kernel
theorem dL_law_1856 : decode cL_law 1856 = .ok (.aload_n 0, 1) := by decide +kernel
theorem dL_law_1857 : decode cL_law 1857 = .ok (.iload 5, 2) := by decide +kernel
theorem dL_law_1859 : decode cL_law 1859 = .ok (.iconst 3, 1) := by decide +kernel
theorem dL_law_1860 : decode cL_law 1860 = .ok (.iadd, 1) := by decide +kernel
theorem dL_law_1861 : decode cL_law 1861 = .ok (.iaload, 1) := by decide +kernel
theorem dL_law_1862 : decode cL_law 1862 = .ok (.invokevirtual 237, 3) := by decide +kernel
theorem dL_law_1865 : decode cL_law 1865 = .ok (.istore 7, 2) := by decide +kernel
theorem dL_law_1867 : decode cL_law 1867 = .ok (.aload_n 2, 1) := by decide +kernel
theorem dL_law_1868 : decode cL_law 1868 = .ok (.invokevirtual 150, 3) := by decide +kernel
theorem dL_law_1871 : decode cL_law 1871 = .ok (.iload 6, 2) := by decide +kernel
theorem dL_law_1873 : decode cL_law 1873 = .ok (.if_icmp .eq 5, 3) := by decide +kernel
theorem dL_law_1878 : decode cL_law 1878 = .ok (.iload 6, 2) := by decide +kernel
theorem dL_law_1880 : decode cL_law 1880 = .ok (.ifCond .ne 15, 3) := by decide +kernel
theorem dL_law_1895 : decode cL_law 1895 = .ok (.goto 825, 3) := by decide +kernel
theorem dL_law_1898 : decode cL_law 1898 = .ok (.aload_n 1, 1) := by decide +kernel
theorem dL_law_1899 : decode cL_law 1899 = .ok (.aload_n 0, 1) := by decide +kernel
theorem dL_law_1900 : decode cL_law 1900 = .ok (.iload 5, 2) := by decide +kernel
theorem dL_law_1902 : decode cL_law 1902 = .ok (.iconst 1, 1) := by decide +kernel
theorem dL_law_1903 : decode cL_law 1903 = .ok (.iadd, 1) := by decide +kernel
theorem dL_law_1904 : decode cL_law 1904 = .ok (.iaload, 1) := by decide +kernel
theorem dL_law_1905 : decode cL_law 1905 = .ok (.aload_n 0, 1) := by decide +kernel
theorem dL_law_1906 : decode cL_law 1906 = .ok (.iload 5, 2) := by decide +kernel
theorem dL_law_1908 : decode cL_law 1908 = .ok (.iconst 2, 1) := by decide +kernel
theorem dL_law_1909 : decode cL_law 1909 = .ok (.iadd, 1) := by decide +kernel
theorem dL_law_1910 : decode cL_law 1910 = .ok (.iaload, 1) := by decide +kernel
theorem dL_law_1911 : decode cL_law 1911 = .ok (.aload_n 3, 1) := by decide +kernel
theorem dL_law_1912 : decode cL_law 1912 = .ok (.invokestatic 238, 3) := by decide +kernel
theorem dL_law_1915 : decode cL_law 1915 = .ok (.istore 6, 2) := by decide +kernel
theorem dL_law_1917 : decode cL_law 1917 = .ok (.aload_n 2, 1) := by decide +kernel
theorem dL_law_1918 : decode cL_law 1918 = .ok (.aload_n 0, 1) := by decide +kernel
theorem dL_law_1919 : decode cL_law 1919 = .ok (.iload 5, 2) := by decide +kernel
theorem dL_law_1921 : decode cL_law 1921 = .ok (.iconst 1, 1) := by decide +kernel
theorem dL_law_1922 : decode cL_law 1922 = .ok (.iadd, 1) := by decide +kernel
theorem dL_law_1923 : decode cL_law 1923 = .ok (.iaload, 1) := by decide +kernel
theorem dL_law_1924 : decode cL_law 1924 = .ok (.aload_n 0, 1) := by decide +kernel
theorem dL_law_1925 : decode cL_law 1925 = .ok (.iload 5, 2) := by decide +kernel
theorem dL_law_1927 : decode cL_law 1927 = .ok (.iconst 2, 1) := by decide +kernel
theorem dL_law_1928 : decode cL_law 1928 = .ok (.iadd, 1) := by decide +kernel
theorem dL_law_1929 : decode cL_law 1929 = .ok (.iaload, 1) := by decide +kernel
theorem dL_law_1930 : decode cL_law 1930 = .ok (.invokevirtual 240, 3) := by decide +kernel
theorem dL_law_1933 : decode cL_law 1933 = .ok (.istore 7, 2) := by decide +kernel
theorem dL_law_1935 : decode cL_law 1935 = .ok (.aload_n 2, 1) := by decide +kernel
theorem dL_law_1936 : decode cL_law 1936 = .ok (.invokevirtual 150, 3) := by decide +kernel
theorem dL_law_1939 : decode cL_law 1939 = .ok (.iload 6, 2) := by decide +kernel
theorem dL_law_1941 : decode cL_law 1941 = .ok (.if_icmp .eq 5, 3) := by decide +kernel
theorem dL_law_1946 : decode cL_law 1946 = .ok (.iload 6, 2) := by decide +kernel
theorem dL_law_1948 : decode cL_law 1948 = .ok (.ifCond .ne 22, 3) := by decide +kernel
theorem dL_law_1970 : decode cL_law 1970 = .ok (.goto 750, 3) := by decide +kernel
theorem dL_law_1973 : decode cL_law 1973 = .ok (.aload_n 1, 1) := by decide +kernel
theorem dL_law_1974 : decode cL_law 1974 = .ok (.invokevirtual 241, 3) := by decide +kernel
theorem dL_law_1977 : decode cL_law 1977 = .ok (.aload_n 2, 1) := by decide +kernel
theorem dL_law_1978 : decode cL_law 1978 = .ok (.invokevirtual 244, 3) := by decide +kernel
theorem dL_law_1981 : decode cL_law 1981 = .ok (.if_icmp .eq 739, 3) := by decide +kernel
theorem dL_law_1986 : decode cL_law 1986 = .ok (.aload_n 1, 1) := by decide +kernel
theorem dL_law_1987 : decode cL_law 1987 = .ok (.aload_n 3, 1) := by decide +kernel
theorem dL_law_1988 : decode cL_law 1988 = .ok (.invokestatic 245, 3) := by decide +kernel
theorem dL_law_1991 : decode cL_law 1991 = .ok (.istore 6, 2) := by decide +kernel
theorem dL_law_1993 : decode cL_law 1993 = .ok (.aload_n 2, 1) := by decide +kernel
theorem dL_law_1994 : decode cL_law 1994 = .ok (.invokevirtual 248, 3) := by decide +kernel
theorem dL_law_1997 : decode cL_law 1997 = .ok (.istore 7, 2) := by decide +kernel
theorem dL_law_1999 : decode cL_law 1999 = .ok (.aload_n 2, 1) := by decide +kernel
theorem dL_law_2000 : decode cL_law 2000 = .ok (.invokevirtual 150, 3) := by decide +kernel
theorem dL_law_2003 : decode cL_law 2003 = .ok (.iload 6, 2) := by decide +kernel
theorem dL_law_2005 : decode cL_law 2005 = .ok (.if_icmp .eq 5, 3) := by decide +kernel
theorem dL_law_2010 : decode cL_law 2010 = .ok (.iload 6, 2) := by decide +kernel
theorem dL_law_2012 : decode cL_law 2012 = .ok (.ifCond .ne 22, 3) := by decide +kernel
theorem dL_law_2015 : decode cL_law 2015 = .ok (.aload_n 3, 1) := by decide +kernel
theorem dL_law_2016 : decode cL_law 2016 = .ok (.iconst 0, 1) := by decide +kernel
theorem dL_law_2017 : decode cL_law 2017 = .ok (.laload, 1) := by decide +kernel
theorem dL_law_2018 : decode cL_law 2018 = .ok (.iload 7, 2) := by decide +kernel
theorem dL_law_2020 : decode cL_law 2020 = .ok (.ifCond .eq 7, 3) := by decide +kernel
theorem dL_law_2023 : decode cL_law 2023 = .ok (.lconst 1, 1) := by decide +kernel
theorem dL_law_2024 : decode cL_law 2024 = .ok (.goto 4, 3) := by decide +kernel
theorem dL_law_2028 : decode cL_law 2028 = .ok (.lcmp, 1) := by decide +kernel
theorem dL_law_2029 : decode cL_law 2029 = .ok (.ifCond .eq 5, 3) := by decide +kernel
theorem dL_law_2034 : decode cL_law 2034 = .ok (.goto 686, 3) := by decide +kernel
theorem dL_law_2037 : decode cL_law 2037 = .ok (.aload_n 1, 1) := by decide +kernel
theorem dL_law_2038 : decode cL_law 2038 = .ok (.aload_n 0, 1) := by decide +kernel
theorem dL_law_2039 : decode cL_law 2039 = .ok (.iload 5, 2) := by decide +kernel
theorem dL_law_2041 : decode cL_law 2041 = .ok (.iconst 1, 1) := by decide +kernel
theorem dL_law_2042 : decode cL_law 2042 = .ok (.iadd, 1) := by decide +kernel
theorem dL_law_2043 : decode cL_law 2043 = .ok (.iaload, 1) := by decide +kernel
theorem dL_law_2044 : decode cL_law 2044 = .ok (.aload_n 3, 1) := by decide +kernel
theorem dL_law_2045 : decode cL_law 2045 = .ok (.invokestatic 249, 3) := by decide +kernel
theorem dL_law_2048 : decode cL_law 2048 = .ok (.istore 6, 2) := by decide +kernel
theorem dL_law_2050 : decode cL_law 2050 = .ok (.aload_n 2, 1) := by decide +kernel
theorem dL_law_2051 : decode cL_law 2051 = .ok (.aload_n 0, 1) := by decide +kernel
theorem dL_law_2052 : decode cL_law 2052 = .ok (.iload 5, 2) := by decide +kernel
theorem dL_law_2054 : decode cL_law 2054 = .ok (.iconst 1, 1) := by decide +kernel
theorem dL_law_2055 : decode cL_law 2055 = .ok (.iadd, 1) := by decide +kernel
theorem dL_law_2056 : decode cL_law 2056 = .ok (.iaload, 1) := by decide +kernel
theorem dL_law_2057 : decode cL_law 2057 = .ok (.invokevirtual 251, 3) := by decide +kernel
theorem dL_law_2060 : decode cL_law 2060 = .ok (.istore 7, 2) := by decide +kernel
theorem dL_law_2062 : decode cL_law 2062 = .ok (.aload_n 2, 1) := by decide +kernel
theorem dL_law_2063 : decode cL_law 2063 = .ok (.invokevirtual 150, 3) := by decide +kernel
theorem dL_law_2066 : decode cL_law 2066 = .ok (.iload 6, 2) := by decide +kernel
theorem dL_law_2068 : decode cL_law 2068 = .ok (.if_icmp .eq 5, 3) := by decide +kernel
theorem dL_law_2073 : decode cL_law 2073 = .ok (.iload 6, 2) := by decide +kernel
theorem dL_law_2075 : decode cL_law 2075 = .ok (.ifCond .ne 15, 3) := by decide +kernel
theorem dL_law_2090 : decode cL_law 2090 = .ok (.goto 630, 3) := by decide +kernel
theorem dL_law_2093 : decode cL_law 2093 = .ok (.aload_n 1, 1) := by decide +kernel
theorem dL_law_2094 : decode cL_law 2094 = .ok (.aload_n 0, 1) := by decide +kernel
theorem dL_law_2095 : decode cL_law 2095 = .ok (.iload 5, 2) := by decide +kernel
theorem dL_law_2097 : decode cL_law 2097 = .ok (.iconst 1, 1) := by decide +kernel
theorem dL_law_2098 : decode cL_law 2098 = .ok (.iadd, 1) := by decide +kernel
theorem dL_law_2099 : decode cL_law 2099 = .ok (.iaload, 1) := by decide +kernel
theorem dL_law_2100 : decode cL_law 2100 = .ok (.aload_n 3, 1) := by decide +kernel
theorem dL_law_2101 : decode cL_law 2101 = .ok (.invokestatic 252, 3) := by decide +kernel
theorem dL_law_2104 : decode cL_law 2104 = .ok (.istore 6, 2) := by decide +kernel
theorem dL_law_2106 : decode cL_law 2106 = .ok (.aload_n 2, 1) := by decide +kernel
theorem dL_law_2107 : decode cL_law 2107 = .ok (.aload_n 0, 1) := by decide +kernel
theorem dL_law_2108 : decode cL_law 2108 = .ok (.iload 5, 2) := by decide +kernel
theorem dL_law_2110 : decode cL_law 2110 = .ok (.iconst 1, 1) := by decide +kernel
theorem dL_law_2111 : decode cL_law 2111 = .ok (.iadd, 1) := by decide +kernel
theorem dL_law_2112 : decode cL_law 2112 = .ok (.iaload, 1) := by decide +kernel
theorem dL_law_2113 : decode cL_law 2113 = .ok (.invokevirtual 254, 3) := by decide +kernel
theorem dL_law_2116 : decode cL_law 2116 = .ok (.istore 7, 2) := by decide +kernel
theorem dL_law_2118 : decode cL_law 2118 = .ok (.aload_n 2, 1) := by decide +kernel
theorem dL_law_2119 : decode cL_law 2119 = .ok (.invokevirtual 150, 3) := by decide +kernel
theorem dL_law_2122 : decode cL_law 2122 = .ok (.iload 6, 2) := by decide +kernel
theorem dL_law_2124 : decode cL_law 2124 = .ok (.if_icmp .eq 5, 3) := by decide +kernel
theorem dL_law_2129 : decode cL_law 2129 = .ok (.iload 6, 2) := by decide +kernel
theorem dL_law_2131 : decode cL_law 2131 = .ok (.ifCond .ne 15, 3) := by decide +kernel
theorem dL_law_2146 : decode cL_law 2146 = .ok (.goto 574, 3) := by decide +kernel
theorem dL_law_2149 : decode cL_law 2149 = .ok (.aload_n 1, 1) := by decide +kernel
theorem dL_law_2150 : decode cL_law 2150 = .ok (.aload_n 0, 1) := by decide +kernel
theorem dL_law_2151 : decode cL_law 2151 = .ok (.iload 5, 2) := by decide +kernel
theorem dL_law_2153 : decode cL_law 2153 = .ok (.iconst 1, 1) := by decide +kernel
theorem dL_law_2154 : decode cL_law 2154 = .ok (.iadd, 1) := by decide +kernel
theorem dL_law_2155 : decode cL_law 2155 = .ok (.iaload, 1) := by decide +kernel
theorem dL_law_2156 : decode cL_law 2156 = .ok (.aload_n 3, 1) := by decide +kernel
theorem dL_law_2157 : decode cL_law 2157 = .ok (.invokestatic 255, 3) := by decide +kernel
theorem dL_law_2160 : decode cL_law 2160 = .ok (.istore 6, 2) := by decide +kernel
theorem dL_law_2162 : decode cL_law 2162 = .ok (.aload_n 2, 1) := by decide +kernel
theorem dL_law_2163 : decode cL_law 2163 = .ok (.aload_n 0, 1) := by decide +kernel
theorem dL_law_2164 : decode cL_law 2164 = .ok (.iload 5, 2) := by decide +kernel
theorem dL_law_2166 : decode cL_law 2166 = .ok (.iconst 1, 1) := by decide +kernel
theorem dL_law_2167 : decode cL_law 2167 = .ok (.iadd, 1) := by decide +kernel
theorem dL_law_2168 : decode cL_law 2168 = .ok (.iaload, 1) := by decide +kernel
theorem dL_law_2169 : decode cL_law 2169 = .ok (.invokevirtual 257, 3) := by decide +kernel
theorem dL_law_2172 : decode cL_law 2172 = .ok (.istore 7, 2) := by decide +kernel
theorem dL_law_2174 : decode cL_law 2174 = .ok (.aload_n 2, 1) := by decide +kernel
theorem dL_law_2175 : decode cL_law 2175 = .ok (.invokevirtual 150, 3) := by decide +kernel
theorem dL_law_2178 : decode cL_law 2178 = .ok (.iload 6, 2) := by decide +kernel
theorem dL_law_2180 : decode cL_law 2180 = .ok (.if_icmp .eq 5, 3) := by decide +kernel
theorem dL_law_2185 : decode cL_law 2185 = .ok (.iload 6, 2) := by decide +kernel
theorem dL_law_2187 : decode cL_law 2187 = .ok (.ifCond .ne 15, 3) := by decide +kernel
theorem dL_law_2202 : decode cL_law 2202 = .ok (.goto 518, 3) := by decide +kernel
theorem dL_law_2205 : decode cL_law 2205 = .ok (.aload_n 1, 1) := by decide +kernel
theorem dL_law_2206 : decode cL_law 2206 = .ok (.aload_n 0, 1) := by decide +kernel
theorem dL_law_2207 : decode cL_law 2207 = .ok (.iload 5, 2) := by decide +kernel
theorem dL_law_2209 : decode cL_law 2209 = .ok (.iconst 1, 1) := by decide +kernel
theorem dL_law_2210 : decode cL_law 2210 = .ok (.iadd, 1) := by decide +kernel
theorem dL_law_2211 : decode cL_law 2211 = .ok (.iaload, 1) := by decide +kernel
theorem dL_law_2212 : decode cL_law 2212 = .ok (.aload_n 0, 1) := by decide +kernel
theorem dL_law_2213 : decode cL_law 2213 = .ok (.iload 5, 2) := by decide +kernel
theorem dL_law_2215 : decode cL_law 2215 = .ok (.iconst 2, 1) := by decide +kernel
theorem dL_law_2216 : decode cL_law 2216 = .ok (.iadd, 1) := by decide +kernel
theorem dL_law_2217 : decode cL_law 2217 = .ok (.iaload, 1) := by decide +kernel
theorem dL_law_2218 : decode cL_law 2218 = .ok (.aload_n 3, 1) := by decide +kernel
theorem dL_law_2219 : decode cL_law 2219 = .ok (.invokestatic 258, 3) := by decide +kernel
theorem dL_law_2222 : decode cL_law 2222 = .ok (.istore 6, 2) := by decide +kernel
theorem dL_law_2224 : decode cL_law 2224 = .ok (.aload_n 2, 1) := by decide +kernel
theorem dL_law_2225 : decode cL_law 2225 = .ok (.aload_n 0, 1) := by decide +kernel
theorem dL_law_2226 : decode cL_law 2226 = .ok (.iload 5, 2) := by decide +kernel
theorem dL_law_2228 : decode cL_law 2228 = .ok (.iconst 1, 1) := by decide +kernel
theorem dL_law_2229 : decode cL_law 2229 = .ok (.iadd, 1) := by decide +kernel
theorem dL_law_2230 : decode cL_law 2230 = .ok (.iaload, 1) := by decide +kernel
theorem dL_law_2231 : decode cL_law 2231 = .ok (.aload_n 0, 1) := by decide +kernel
theorem dL_law_2232 : decode cL_law 2232 = .ok (.iload 5, 2) := by decide +kernel
theorem dL_law_2234 : decode cL_law 2234 = .ok (.iconst 2, 1) := by decide +kernel
theorem dL_law_2235 : decode cL_law 2235 = .ok (.iadd, 1) := by decide +kernel
theorem dL_law_2236 : decode cL_law 2236 = .ok (.iaload, 1) := by decide +kernel
theorem dL_law_2237 : decode cL_law 2237 = .ok (.invokevirtual 260, 3) := by decide +kernel
theorem dL_law_2240 : decode cL_law 2240 = .ok (.istore 7, 2) := by decide +kernel
theorem dL_law_2242 : decode cL_law 2242 = .ok (.aload_n 2, 1) := by decide +kernel
theorem dL_law_2243 : decode cL_law 2243 = .ok (.invokevirtual 150, 3) := by decide +kernel
theorem dL_law_2246 : decode cL_law 2246 = .ok (.iload 6, 2) := by decide +kernel
theorem dL_law_2248 : decode cL_law 2248 = .ok (.if_icmp .eq 5, 3) := by decide +kernel
theorem dL_law_2253 : decode cL_law 2253 = .ok (.iload 6, 2) := by decide +kernel
theorem dL_law_2255 : decode cL_law 2255 = .ok (.ifCond .ne 15, 3) := by decide +kernel
theorem dL_law_2270 : decode cL_law 2270 = .ok (.goto 450, 3) := by decide +kernel
theorem dL_law_2273 : decode cL_law 2273 = .ok (.aload_n 1, 1) := by decide +kernel
theorem dL_law_2274 : decode cL_law 2274 = .ok (.invokevirtual 261, 3) := by decide +kernel
theorem dL_law_2277 : decode cL_law 2277 = .ok (.aload_n 2, 1) := by decide +kernel
theorem dL_law_2278 : decode cL_law 2278 = .ok (.invokevirtual 264, 3) := by decide +kernel
theorem dL_law_2281 : decode cL_law 2281 = .ok (.if_icmp .eq 439, 3) := by decide +kernel
theorem dL_law_2286 : decode cL_law 2286 = .ok (.aload_n 1, 1) := by decide +kernel
theorem dL_law_2287 : decode cL_law 2287 = .ok (.aload_n 0, 1) := by decide +kernel
theorem dL_law_2288 : decode cL_law 2288 = .ok (.iload 5, 2) := by decide +kernel
theorem dL_law_2290 : decode cL_law 2290 = .ok (.iconst 1, 1) := by decide +kernel
theorem dL_law_2291 : decode cL_law 2291 = .ok (.iadd, 1) := by decide +kernel
theorem dL_law_2292 : decode cL_law 2292 = .ok (.iaload, 1) := by decide +kernel
theorem dL_law_2293 : decode cL_law 2293 = .ok (.aload_n 3, 1) := by decide +kernel
theorem dL_law_2294 : decode cL_law 2294 = .ok (.invokestatic 265, 3) := by decide +kernel
theorem dL_law_2297 : decode cL_law 2297 = .ok (.istore 6, 2) := by decide +kernel
theorem dL_law_2299 : decode cL_law 2299 = .ok (.aload_n 2, 1) := by decide +kernel
theorem dL_law_2300 : decode cL_law 2300 = .ok (.aload_n 0, 1) := by decide +kernel
theorem dL_law_2301 : decode cL_law 2301 = .ok (.iload 5, 2) := by decide +kernel
theorem dL_law_2303 : decode cL_law 2303 = .ok (.iconst 1, 1) := by decide +kernel
theorem dL_law_2304 : decode cL_law 2304 = .ok (.iadd, 1) := by decide +kernel
theorem dL_law_2305 : decode cL_law 2305 = .ok (.iaload, 1) := by decide +kernel
theorem dL_law_2306 : decode cL_law 2306 = .ok (.invokevirtual 267, 3) := by decide +kernel
theorem dL_law_2309 : decode cL_law 2309 = .ok (.istore 7, 2) := by decide +kernel
theorem dL_law_2311 : decode cL_law 2311 = .ok (.aload_n 2, 1) := by decide +kernel
theorem dL_law_2312 : decode cL_law 2312 = .ok (.invokevirtual 150, 3) := by decide +kernel
theorem dL_law_2315 : decode cL_law 2315 = .ok (.iload 6, 2) := by decide +kernel
theorem dL_law_2317 : decode cL_law 2317 = .ok (.if_icmp .eq 5, 3) := by decide +kernel
theorem dL_law_2322 : decode cL_law 2322 = .ok (.iload 6, 2) := by decide +kernel
theorem dL_law_2324 : decode cL_law 2324 = .ok (.ifCond .ne 15, 3) := by decide +kernel
theorem dL_law_2339 : decode cL_law 2339 = .ok (.goto 381, 3) := by decide +kernel
theorem dL_law_2342 : decode cL_law 2342 = .ok (.aload_n 1, 1) := by decide +kernel
theorem dL_law_2343 : decode cL_law 2343 = .ok (.aload_n 0, 1) := by decide +kernel
theorem dL_law_2344 : decode cL_law 2344 = .ok (.iload 5, 2) := by decide +kernel
theorem dL_law_2346 : decode cL_law 2346 = .ok (.iconst 1, 1) := by decide +kernel
theorem dL_law_2347 : decode cL_law 2347 = .ok (.iadd, 1) := by decide +kernel
theorem dL_law_2348 : decode cL_law 2348 = .ok (.iaload, 1) := by decide +kernel
theorem dL_law_2349 : decode cL_law 2349 = .ok (.aload_n 3, 1) := by decide +kernel
theorem dL_law_2350 : decode cL_law 2350 = .ok (.invokestatic 268, 3) := by decide +kernel
theorem dL_law_2353 : decode cL_law 2353 = .ok (.istore 6, 2) := by decide +kernel
theorem dL_law_2355 : decode cL_law 2355 = .ok (.aload_n 2, 1) := by decide +kernel
theorem dL_law_2356 : decode cL_law 2356 = .ok (.aload_n 0, 1) := by decide +kernel
theorem dL_law_2357 : decode cL_law 2357 = .ok (.iload 5, 2) := by decide +kernel
theorem dL_law_2359 : decode cL_law 2359 = .ok (.iconst 1, 1) := by decide +kernel
theorem dL_law_2360 : decode cL_law 2360 = .ok (.iadd, 1) := by decide +kernel
theorem dL_law_2361 : decode cL_law 2361 = .ok (.iaload, 1) := by decide +kernel
theorem dL_law_2362 : decode cL_law 2362 = .ok (.invokevirtual 270, 3) := by decide +kernel
theorem dL_law_2365 : decode cL_law 2365 = .ok (.istore 7, 2) := by decide +kernel
theorem dL_law_2367 : decode cL_law 2367 = .ok (.aload_n 2, 1) := by decide +kernel
theorem dL_law_2368 : decode cL_law 2368 = .ok (.invokevirtual 150, 3) := by decide +kernel
theorem dL_law_2371 : decode cL_law 2371 = .ok (.iload 6, 2) := by decide +kernel
theorem dL_law_2373 : decode cL_law 2373 = .ok (.if_icmp .eq 5, 3) := by decide +kernel
theorem dL_law_2378 : decode cL_law 2378 = .ok (.iload 6, 2) := by decide +kernel
theorem dL_law_2380 : decode cL_law 2380 = .ok (.ifCond .ne 15, 3) := by decide +kernel
theorem dL_law_2395 : decode cL_law 2395 = .ok (.goto 325, 3) := by decide +kernel
theorem dL_law_2398 : decode cL_law 2398 = .ok (.aload_n 1, 1) := by decide +kernel
theorem dL_law_2399 : decode cL_law 2399 = .ok (.aload_n 0, 1) := by decide +kernel
theorem dL_law_2400 : decode cL_law 2400 = .ok (.iload 5, 2) := by decide +kernel
theorem dL_law_2402 : decode cL_law 2402 = .ok (.iconst 1, 1) := by decide +kernel
theorem dL_law_2403 : decode cL_law 2403 = .ok (.iadd, 1) := by decide +kernel
theorem dL_law_2404 : decode cL_law 2404 = .ok (.iaload, 1) := by decide +kernel
theorem dL_law_2405 : decode cL_law 2405 = .ok (.aload_n 3, 1) := by decide +kernel
theorem dL_law_2406 : decode cL_law 2406 = .ok (.invokestatic 271, 3) := by decide +kernel
theorem dL_law_2409 : decode cL_law 2409 = .ok (.istore 6, 2) := by decide +kernel
theorem dL_law_2411 : decode cL_law 2411 = .ok (.aload_n 2, 1) := by decide +kernel
theorem dL_law_2412 : decode cL_law 2412 = .ok (.aload_n 0, 1) := by decide +kernel
theorem dL_law_2413 : decode cL_law 2413 = .ok (.iload 5, 2) := by decide +kernel
theorem dL_law_2415 : decode cL_law 2415 = .ok (.iconst 1, 1) := by decide +kernel
theorem dL_law_2416 : decode cL_law 2416 = .ok (.iadd, 1) := by decide +kernel
theorem dL_law_2417 : decode cL_law 2417 = .ok (.iaload, 1) := by decide +kernel
theorem dL_law_2418 : decode cL_law 2418 = .ok (.invokevirtual 273, 3) := by decide +kernel
theorem dL_law_2421 : decode cL_law 2421 = .ok (.istore 7, 2) := by decide +kernel
theorem dL_law_2423 : decode cL_law 2423 = .ok (.aload_n 2, 1) := by decide +kernel
theorem dL_law_2424 : decode cL_law 2424 = .ok (.invokevirtual 150, 3) := by decide +kernel
theorem dL_law_2427 : decode cL_law 2427 = .ok (.iload 6, 2) := by decide +kernel
theorem dL_law_2429 : decode cL_law 2429 = .ok (.if_icmp .eq 5, 3) := by decide +kernel
theorem dL_law_2434 : decode cL_law 2434 = .ok (.iload 6, 2) := by decide +kernel
theorem dL_law_2436 : decode cL_law 2436 = .ok (.ifCond .ne 15, 3) := by decide +kernel
theorem dL_law_2451 : decode cL_law 2451 = .ok (.goto 269, 3) := by decide +kernel
theorem dL_law_2454 : decode cL_law 2454 = .ok (.aload_n 1, 1) := by decide +kernel
theorem dL_law_2455 : decode cL_law 2455 = .ok (.aload_n 0, 1) := by decide +kernel
theorem dL_law_2456 : decode cL_law 2456 = .ok (.iload 5, 2) := by decide +kernel
theorem dL_law_2458 : decode cL_law 2458 = .ok (.iconst 1, 1) := by decide +kernel
theorem dL_law_2459 : decode cL_law 2459 = .ok (.iadd, 1) := by decide +kernel
theorem dL_law_2460 : decode cL_law 2460 = .ok (.iaload, 1) := by decide +kernel
theorem dL_law_2461 : decode cL_law 2461 = .ok (.aload_n 0, 1) := by decide +kernel
theorem dL_law_2462 : decode cL_law 2462 = .ok (.iload 5, 2) := by decide +kernel
theorem dL_law_2464 : decode cL_law 2464 = .ok (.iconst 2, 1) := by decide +kernel
theorem dL_law_2465 : decode cL_law 2465 = .ok (.iadd, 1) := by decide +kernel
theorem dL_law_2466 : decode cL_law 2466 = .ok (.iaload, 1) := by decide +kernel
theorem dL_law_2467 : decode cL_law 2467 = .ok (.aload_n 3, 1) := by decide +kernel
theorem dL_law_2468 : decode cL_law 2468 = .ok (.invokestatic 274, 3) := by decide +kernel
theorem dL_law_2471 : decode cL_law 2471 = .ok (.istore 6, 2) := by decide +kernel
theorem dL_law_2473 : decode cL_law 2473 = .ok (.aload_n 2, 1) := by decide +kernel
theorem dL_law_2474 : decode cL_law 2474 = .ok (.aload_n 0, 1) := by decide +kernel
theorem dL_law_2475 : decode cL_law 2475 = .ok (.iload 5, 2) := by decide +kernel
theorem dL_law_2477 : decode cL_law 2477 = .ok (.iconst 1, 1) := by decide +kernel
theorem dL_law_2478 : decode cL_law 2478 = .ok (.iadd, 1) := by decide +kernel
theorem dL_law_2479 : decode cL_law 2479 = .ok (.iaload, 1) := by decide +kernel
theorem dL_law_2480 : decode cL_law 2480 = .ok (.aload_n 0, 1) := by decide +kernel
theorem dL_law_2481 : decode cL_law 2481 = .ok (.iload 5, 2) := by decide +kernel
theorem dL_law_2483 : decode cL_law 2483 = .ok (.iconst 2, 1) := by decide +kernel
theorem dL_law_2484 : decode cL_law 2484 = .ok (.iadd, 1) := by decide +kernel
theorem dL_law_2485 : decode cL_law 2485 = .ok (.iaload, 1) := by decide +kernel
theorem dL_law_2486 : decode cL_law 2486 = .ok (.invokevirtual 276, 3) := by decide +kernel
theorem dL_law_2489 : decode cL_law 2489 = .ok (.istore 7, 2) := by decide +kernel
theorem dL_law_2491 : decode cL_law 2491 = .ok (.aload_n 2, 1) := by decide +kernel
theorem dL_law_2492 : decode cL_law 2492 = .ok (.invokevirtual 150, 3) := by decide +kernel
theorem dL_law_2495 : decode cL_law 2495 = .ok (.iload 6, 2) := by decide +kernel
theorem dL_law_2497 : decode cL_law 2497 = .ok (.if_icmp .eq 5, 3) := by decide +kernel
theorem dL_law_2502 : decode cL_law 2502 = .ok (.iload 6, 2) := by decide +kernel
theorem dL_law_2504 : decode cL_law 2504 = .ok (.ifCond .ne 15, 3) := by decide +kernel
theorem dL_law_2519 : decode cL_law 2519 = .ok (.goto 201, 3) := by decide +kernel
theorem dL_law_2522 : decode cL_law 2522 = .ok (.aload_n 1, 1) := by decide +kernel
theorem dL_law_2523 : decode cL_law 2523 = .ok (.aload 4, 2) := by decide +kernel
theorem dL_law_2525 : decode cL_law 2525 = .ok (.invokestatic 277, 3) := by decide +kernel
theorem dL_law_2528 : decode cL_law 2528 = .ok (.istore 6, 2) := by decide +kernel
theorem dL_law_2530 : decode cL_law 2530 = .ok (.aload_n 2, 1) := by decide +kernel
theorem dL_law_2531 : decode cL_law 2531 = .ok (.invokevirtual 280, 3) := by decide +kernel
theorem dL_law_2534 : decode cL_law 2534 = .ok (.fstore 7, 2) := by decide +kernel
theorem dL_law_2536 : decode cL_law 2536 = .ok (.aload_n 2, 1) := by decide +kernel
theorem dL_law_2537 : decode cL_law 2537 = .ok (.invokevirtual 150, 3) := by decide +kernel
theorem dL_law_2540 : decode cL_law 2540 = .ok (.iload 6, 2) := by decide +kernel
theorem dL_law_2542 : decode cL_law 2542 = .ok (.if_icmp .eq 5, 3) := by decide +kernel
theorem dL_law_2547 : decode cL_law 2547 = .ok (.iload 6, 2) := by decide +kernel
theorem dL_law_2549 : decode cL_law 2549 = .ok (.ifCond .ne 36, 3) := by decide +kernel
theorem dL_law_2585 : decode cL_law 2585 = .ok (.goto 135, 3) := by decide +kernel
theorem dL_law_2588 : decode cL_law 2588 = .ok (.aload_n 1, 1) := by decide +kernel
theorem dL_law_2589 : decode cL_law 2589 = .ok (.aload_n 0, 1) := by decide +kernel
theorem dL_law_2590 : decode cL_law 2590 = .ok (.iload 5, 2) := by decide +kernel
theorem dL_law_2592 : decode cL_law 2592 = .ok (.iconst 1, 1) := by decide +kernel
theorem dL_law_2593 : decode cL_law 2593 = .ok (.iadd, 1) := by decide +kernel
theorem dL_law_2594 : decode cL_law 2594 = .ok (.iaload, 1) := by decide +kernel
theorem dL_law_2595 : decode cL_law 2595 = .ok (.aload 4, 2) := by decide +kernel
theorem dL_law_2597 : decode cL_law 2597 = .ok (.invokestatic 281, 3) := by decide +kernel
theorem dL_law_2600 : decode cL_law 2600 = .ok (.istore 6, 2) := by decide +kernel
theorem dL_law_2602 : decode cL_law 2602 = .ok (.aload_n 2, 1) := by decide +kernel
theorem dL_law_2603 : decode cL_law 2603 = .ok (.aload_n 0, 1) := by decide +kernel
theorem dL_law_2604 : decode cL_law 2604 = .ok (.iload 5, 2) := by decide +kernel
theorem dL_law_2606 : decode cL_law 2606 = .ok (.iconst 1, 1) := by decide +kernel
theorem dL_law_2607 : decode cL_law 2607 = .ok (.iadd, 1) := by decide +kernel
theorem dL_law_2608 : decode cL_law 2608 = .ok (.iaload, 1) := by decide +kernel
theorem dL_law_2609 : decode cL_law 2609 = .ok (.invokevirtual 284, 3) := by decide +kernel
theorem dL_law_2612 : decode cL_law 2612 = .ok (.dstore 7, 2) := by decide +kernel
theorem dL_law_2614 : decode cL_law 2614 = .ok (.aload_n 2, 1) := by decide +kernel
theorem dL_law_2615 : decode cL_law 2615 = .ok (.invokevirtual 150, 3) := by decide +kernel
theorem dL_law_2618 : decode cL_law 2618 = .ok (.iload 6, 2) := by decide +kernel
theorem dL_law_2620 : decode cL_law 2620 = .ok (.if_icmp .eq 5, 3) := by decide +kernel
theorem dL_law_2625 : decode cL_law 2625 = .ok (.iload 6, 2) := by decide +kernel
theorem dL_law_2627 : decode cL_law 2627 = .ok (.ifCond .ne 35, 3) := by decide +kernel
theorem dL_law_2662 : decode cL_law 2662 = .ok (.goto 58, 3) := by decide +kernel
theorem dL_law_2665 : decode cL_law 2665 = .ok (.aload_n 1, 1) := by decide +kernel
theorem dL_law_2666 : decode cL_law 2666 = .ok (.aload_n 0, 1) := by decide +kernel
theorem dL_law_2667 : decode cL_law 2667 = .ok (.iload 5, 2) := by decide +kernel
theorem dL_law_2669 : decode cL_law 2669 = .ok (.iconst 1, 1) := by decide +kernel
theorem dL_law_2670 : decode cL_law 2670 = .ok (.iadd, 1) := by decide +kernel
theorem dL_law_2671 : decode cL_law 2671 = .ok (.iaload, 1) := by decide +kernel
theorem dL_law_2672 : decode cL_law 2672 = .ok (.aload_n 3, 1) := by decide +kernel
theorem dL_law_2673 : decode cL_law 2673 = .ok (.invokestatic 285, 3) := by decide +kernel
theorem dL_law_2676 : decode cL_law 2676 = .ok (.istore 6, 2) := by decide +kernel
theorem dL_law_2678 : decode cL_law 2678 = .ok (.aload_n 2, 1) := by decide +kernel
theorem dL_law_2679 : decode cL_law 2679 = .ok (.aload_n 0, 1) := by decide +kernel
theorem dL_law_2680 : decode cL_law 2680 = .ok (.iload 5, 2) := by decide +kernel
theorem dL_law_2682 : decode cL_law 2682 = .ok (.iconst 1, 1) := by decide +kernel
theorem dL_law_2683 : decode cL_law 2683 = .ok (.iadd, 1) := by decide +kernel
theorem dL_law_2684 : decode cL_law 2684 = .ok (.iaload, 1) := by decide +kernel
theorem dL_law_2685 : decode cL_law 2685 = .ok (.invokevirtual 287, 3) := by decide +kernel
theorem dL_law_2688 : decode cL_law 2688 = .ok (.lstore 7, 2) := by decide +kernel
theorem dL_law_2690 : decode cL_law 2690 = .ok (.aload_n 2, 1) := by decide +kernel
theorem dL_law_2691 : decode cL_law 2691 = .ok (.invokevirtual 150, 3) := by decide +kernel
theorem dL_law_2694 : decode cL_law 2694 = .ok (.iload 6, 2) := by decide +kernel
theorem dL_law_2696 : decode cL_law 2696 = .ok (.if_icmp .eq 5, 3) := by decide +kernel
theorem dL_law_2701 : decode cL_law 2701 = .ok (.iload 6, 2) := by decide +kernel
theorem dL_law_2703 : decode cL_law 2703 = .ok (.ifCond .ne 14, 3) := by decide +kernel
theorem dL_law_2706 : decode cL_law 2706 = .ok (.aload_n 3, 1) := by decide +kernel
theorem dL_law_2707 : decode cL_law 2707 = .ok (.iconst 0, 1) := by decide +kernel
theorem dL_law_2708 : decode cL_law 2708 = .ok (.laload, 1) := by decide +kernel
theorem dL_law_2709 : decode cL_law 2709 = .ok (.lload 7, 2) := by decide +kernel
theorem dL_law_2711 : decode cL_law 2711 = .ok (.lcmp, 1) := by decide +kernel
theorem dL_law_2712 : decode cL_law 2712 = .ok (.ifCond .eq 5, 3) := by decide +kernel
theorem dL_law_2717 : decode cL_law 2717 = .ok (.goto 3, 3) := by decide +kernel
set_option maxHeartbeats 4000000 in
set_option maxRecDepth 100000 in
/-- case 21 of the law: rounds, on fresh objects -/
theorem lc_21 {p : Program} {e : Env} {s : State} {m : MethodId} {below : List Frame} {meth : Method} {c : Code} (l : Launch) (hfl : l.stackTraces = false) {b : Nat} {xs : Nat → Int32} (hx : p.tables.exec = Jvm.exec) (hb : c.code = cL_law) (hr : meth.sig.returnType = ret) (hml : c.maxLocals = 9) (hown : s.vm.findClass RL = some m.cls) (hts : ∀ w ∈ wsL_law, w.before #[Value.ref b] s = true) (hlk : meth.locks = false) (A : Nat → Prop) (hAe : ∀ q, A q → s.heap.size ≤ q) (hA : ∀ q : Nat, s.heap.size ≤ q → A q) (hX9 : va_X b 7 xs s s.heap) (hbl : b < s.heap.size) (hN : fN s) (hZ : fZ A s s.heap) (hX : fX s) (dC : Nat → ClassId) (dI : Nat → Nat → Nat) (h0 w d wL wP wS dL dP dS co on onR onL onC onD op opR opL opC opD un unK ma tm k0 kN kA kO kK kV kG kP kC kD kE kF kX kY kT kU oJ oD : Nat) (cI : ClassId) {H : Heap} {locs : List Loc} {ls : Array Slot} (hK : va_K (dC, dI) vwCl [(cI, .int)] s) (hP : va_P (dC, dI) vwCl [(h0, .inr (9, [.ref w, .ref d, .ref co, .ref un, .ref ma, .ref tm, .int 0, .int 0, .int 0])), (co, .inr (4, [.ref w, .ref d, .ref on, .ref op, .int 0])), (w, .inr (3, [.int 0, .int 0, .ref wL, .ref wP, .ref wS])), (d, .inr (3, [.int 0, .int 0, .ref dL, .ref dP, .ref dS])), (on, .inr (7, [.ref onR, .ref onL, .ref onC, .ref onD, .int 0])), (onL, .inl (cI, 20, .inl (fun _ => 0))), (onC, .inl (cI, 20, .inl (fun _ => 0))), (op, .inr (7, [.ref opR, .ref opL, .ref opC, .ref opD, .int 0])), (opL, .inl (cI, 20, .inl (fun _ => 0))), (opC, .inl (cI, 20, .inl (fun _ => 0))), (un, .inr (5, [.ref unK, .int 0])), (k0, .inr (10, [.ref kN, .ref kA, .ref kO, .ref kK, .ref kV, .ref kG, .ref kP, .ref kC, .ref kD, .ref kE, .ref kF, .ref kX, .ref kY, .int 0, .ref kT, .ref kU, .int 0, .int 0, .int 0])), (kN, .inl (cI, 2, .inl (fun _ => 0))), (kA, .inl (cI, 2, .inl (fun _ => 0))), (kC, .inl (cI, 20, .inl (fun _ => 0))), (kD, .inl (cI, 20, .inl (fun _ => 0))), (kE, .inl (cI, 20, .inl (fun _ => 0))), (kF, .inl (cI, 20, .inl (fun _ => 0)))] H) (hD : va_D A [(h0, .inr (9, [.ref w, .ref d, .ref co, .ref un, .ref ma, .ref tm, .int 0, .int 0, .int 0])), (co, .inr (4, [.ref w, .ref d, .ref on, .ref op, .int 0])), (w, .inr (3, [.int 0, .int 0, .ref wL, .ref wP, .ref wS])), (d, .inr (3, [.int 0, .int 0, .ref dL, .ref dP, .ref dS])), (on, .inr (7, [.ref onR, .ref onL, .ref onC, .ref onD, .int 0])), (onL, .inl (cI, 20, .inl (fun _ => 0))), (onC, .inl (cI, 20, .inl (fun _ => 0))), (op, .inr (7, [.ref opR, .ref opL, .ref opC, .ref opD, .int 0])), (opL, .inl (cI, 20, .inl (fun _ => 0))), (opC, .inl (cI, 20, .inl (fun _ => 0))), (un, .inr (5, [.ref unK, .int 0])), (k0, .inr (10, [.ref kN, .ref kA, .ref kO, .ref kK, .ref kV, .ref kG, .ref kP, .ref kC, .ref kD, .ref kE, .ref kF, .ref kX, .ref kY, .int 0, .ref kT, .ref kU, .int 0, .int 0, .int 0])), (kN, .inl (cI, 2, .inl (fun _ => 0))), (kA, .inl (cI, 2, .inl (fun _ => 0))), (kC, .inl (cI, 20, .inl (fun _ => 0))), (kD, .inl (cI, 20, .inl (fun _ => 0))), (kE, .inl (cI, 20, .inl (fun _ => 0))), (kF, .inl (cI, 20, .inl (fun _ => 0)))]) (hS : va_S A s.heap H locs) (hl : lv_has ls 9 [(5, .int 0), (4, .ref oD), (3, .ref oJ), (2, .ref k0), (1, .ref h0), (0, .ref b)]) : W p l e room_1 s m #[Value.ref b] below meth c H locs 148 2317 (lw_Z below #[Value.ref b] s) (F0 m 1699 ls []) := by
  have hbA : ¬ A b := fun h => Nat.not_le.mpr hbl (hAe _ h)
  have hX0 := hX
  refine lv_aload_n hx hb dL_law_1699 rfl (lv_at hl 4 rfl) ?_
  have hPc := hP.sub (ws' := [(h0, .inr (9, [.ref w, .ref d, .ref co, .ref un, .ref ma, .ref tm, .int 0, .int 0, .int 0])), (co, .inr (4, [.ref w, .ref d, .ref on, .ref op, .int 0])), (w, .inr (3, [.int 0, .int 0, .ref wL, .ref wP, .ref wS])), (d, .inr (3, [.int 0, .int 0, .ref dL, .ref dP, .ref dS])), (on, .inr (7, [.ref onR, .ref onL, .ref onC, .ref onD, .int 0])), (onL, .inl (cI, 20, .inl (fun _ => 0))), (onC, .inl (cI, 20, .inl (fun _ => 0))), (op, .inr (7, [.ref opR, .ref opL, .ref opC, .ref opD, .int 0])), (opL, .inl (cI, 20, .inl (fun _ => 0))), (opC, .inl (cI, 20, .inl (fun _ => 0))), (un, .inr (5, [.ref unK, .int 0]))]) [0, 1, 2, 3, 4, 5, 6, 7, 8, 9, 10] rfl
  have hDc := hD.sub (ws' := [(h0, .inr (9, [.ref w, .ref d, .ref co, .ref un, .ref ma, .ref tm, .int 0, .int 0, .int 0])), (co, .inr (4, [.ref w, .ref d, .ref on, .ref op, .int 0])), (w, .inr (3, [.int 0, .int 0, .ref wL, .ref wP, .ref wS])), (d, .inr (3, [.int 0, .int 0, .ref dL, .ref dP, .ref dS])), (on, .inr (7, [.ref onR, .ref onL, .ref onC, .ref onD, .int 0])), (onL, .inl (cI, 20, .inl (fun _ => 0))), (onC, .inl (cI, 20, .inl (fun _ => 0))), (op, .inr (7, [.ref opR, .ref opL, .ref opC, .ref opD, .int 0])), (opL, .inl (cI, 20, .inl (fun _ => 0))), (opC, .inl (cI, 20, .inl (fun _ => 0))), (un, .inr (5, [.ref unK, .int 0]))]) [0, 1, 2, 3, 4, 5, 6, 7, 8, 9, 10] (by decide) rfl
  have hKc := hK.sub (tys' := [(cI, .int)]) [0] rfl
  have hFc := va_free (wc := [(h0, .inr (9, [.ref w, .ref d, .ref co, .ref un, .ref ma, .ref tm, .int 0, .int 0, .int 0])), (co, .inr (4, [.ref w, .ref d, .ref on, .ref op, .int 0])), (w, .inr (3, [.int 0, .int 0, .ref wL, .ref wP, .ref wS])), (d, .inr (3, [.int 0, .int 0, .ref dL, .ref dP, .ref dS])), (on, .inr (7, [.ref onR, .ref onL, .ref onC, .ref onD, .int 0])), (onL, .inl (cI, 20, .inl (fun _ => 0))), (onC, .inl (cI, 20, .inl (fun _ => 0))), (op, .inr (7, [.ref opR, .ref opL, .ref opC, .ref opD, .int 0])), (opL, .inl (cI, 20, .inl (fun _ => 0))), (opC, .inl (cI, 20, .inl (fun _ => 0))), (un, .inr (5, [.ref unK, .int 0]))]) hD hS hA [0, 1, 2, 3, 4, 5, 6, 7, 8, 9, 10] rfl
  refine va_calli (va_runV (As := []) (rest := []) ⟨hx, hb, hml, hown, hts⟩ (kX6_rounds l dC dI h0 ma tm un unK co w wL wP wS d dL dP dS on onR onL onC onD op opR opL opC opD cI (fun _ => 0) (fun _ => 0) H.size) (cwV 0 hts gL_law_X6_rounds rfl rfl rfl (by decide +kernel) ⟨Nat.le_of_ble_eq_true rfl, Nat.le_of_ble_eq_true rfl⟩) (fPreV hN hZ hS (fun q h => hFc q h) hPc hKc hDc (ci := 9) (q0 := 0) rfl rfl) rfl rfl hl.1 rfl (lv_room (Nat.le_of_ble_eq_true rfl)) dL_law_1700 ⟨Nat.le_of_ble_eq_true rfl, Nat.le_of_ble_eq_true rfl⟩) hS (fun q _ h => hFc q h) hFc (fun r u t H1 locs ht hvm hw hB hz1 hk1 hS => ?_)
  obtain ⟨hP1, hK1, hD1⟩ := hB
  rw [ht] at hP1
  have hK1 := va_K.moved hvm.symm hK1
  obtain ⟨hP, hD⟩ := va_join (wr := [(k0, .inr (10, [.ref kN, .ref kA, .ref kO, .ref kK, .ref kV, .ref kG, .ref kP, .ref kC, .ref kD, .ref kE, .ref kF, .ref kX, .ref kY, .int 0, .ref kT, .ref kU, .int 0, .int 0, .int 0])), (kN, .inl (cI, 2, .inl (fun _ => 0))), (kA, .inl (cI, 2, .inl (fun _ => 0))), (kC, .inl (cI, 20, .inl (fun _ => 0))), (kD, .inl (cI, 20, .inl (fun _ => 0))), (kE, .inl (cI, 20, .inl (fun _ => 0))), (kF, .inl (cI, 20, .inl (fun _ => 0)))]) (w1 := []) hP hD [0, 1, 2, 3, 4, 5, 6, 7, 8, 9, 10] [11, 12, 13, 14, 15, 16, 17] rfl rfl (by decide) (by decide) hk1 hFc hP1 hD1
  generalize H1 = H at hP hS ⊢
  have hP : va_P (dC, dI) vwCl [(k0, .inr (10, [.ref kN, .ref kA, .ref kO, .ref kK, .ref kV, .ref kG, .ref kP, .ref kC, .ref kD, .ref kE, .ref kF, .ref kX, .ref kY, .int 0, .ref kT, .ref kU, .int 0, .int 0, .int 0])), (kN, .inl (cI, 2, .inl (fun _ => 0))), (kA, .inl (cI, 2, .inl (fun _ => 0))), (kC, .inl (cI, 20, .inl (fun _ => 0))), (kD, .inl (cI, 20, .inl (fun _ => 0))), (kE, .inl (cI, 20, .inl (fun _ => 0))), (kF, .inl (cI, 20, .inl (fun _ => 0)))] _ := hP
  have hD : va_D A [(k0, .inr (10, [.ref kN, .ref kA, .ref kO, .ref kK, .ref kV, .ref kG, .ref kP, .ref kC, .ref kD, .ref kE, .ref kF, .ref kX, .ref kY, .int 0, .ref kT, .ref kU, .int 0, .int 0, .int 0])), (kN, .inl (cI, 2, .inl (fun _ => 0))), (kA, .inl (cI, 2, .inl (fun _ => 0))), (kC, .inl (cI, 20, .inl (fun _ => 0))), (kD, .inl (cI, 20, .inl (fun _ => 0))), (kE, .inl (cI, 20, .inl (fun _ => 0))), (kF, .inl (cI, 20, .inl (fun _ => 0)))] := hD
  subst hw
  refine lv_aload_n hx hb dL_law_1703 rfl (lv_at hl 3 rfl) ?_
  have hPc := hP.sub (ws' := [(k0, .inr (10, [.ref kN, .ref kA, .ref kO, .ref kK, .ref kV, .ref kG, .ref kP, .ref kC, .ref kD, .ref kE, .ref kF, .ref kX, .ref kY, .int 0, .ref kT, .ref kU, .int 0, .int 0, .int 0])), (kN, .inl (cI, 2, .inl (fun _ => 0))), (kA, .inl (cI, 2, .inl (fun _ => 0))), (kC, .inl (cI, 20, .inl (fun _ => 0))), (kD, .inl (cI, 20, .inl (fun _ => 0))), (kE, .inl (cI, 20, .inl (fun _ => 0))), (kF, .inl (cI, 20, .inl (fun _ => 0)))]) [0, 1, 2, 3, 4, 5, 6] rfl
  have hDc := hD.sub (ws' := [(k0, .inr (10, [.ref kN, .ref kA, .ref kO, .ref kK, .ref kV, .ref kG, .ref kP, .ref kC, .ref kD, .ref kE, .ref kF, .ref kX, .ref kY, .int 0, .ref kT, .ref kU, .int 0, .int 0, .int 0])), (kN, .inl (cI, 2, .inl (fun _ => 0))), (kA, .inl (cI, 2, .inl (fun _ => 0))), (kC, .inl (cI, 20, .inl (fun _ => 0))), (kD, .inl (cI, 20, .inl (fun _ => 0))), (kE, .inl (cI, 20, .inl (fun _ => 0))), (kF, .inl (cI, 20, .inl (fun _ => 0)))]) [0, 1, 2, 3, 4, 5, 6] (by decide) rfl
  have hKc := hK.sub (tys' := [(cI, .int)]) [0] rfl
  have hFc := va_free (wc := [(k0, .inr (10, [.ref kN, .ref kA, .ref kO, .ref kK, .ref kV, .ref kG, .ref kP, .ref kC, .ref kD, .ref kE, .ref kF, .ref kX, .ref kY, .int 0, .ref kT, .ref kU, .int 0, .int 0, .int 0])), (kN, .inl (cI, 2, .inl (fun _ => 0))), (kA, .inl (cI, 2, .inl (fun _ => 0))), (kC, .inl (cI, 20, .inl (fun _ => 0))), (kD, .inl (cI, 20, .inl (fun _ => 0))), (kE, .inl (cI, 20, .inl (fun _ => 0))), (kF, .inl (cI, 20, .inl (fun _ => 0)))]) hD hS hA [0, 1, 2, 3, 4, 5, 6] rfl
  refine va_calli (va_runV (As := []) (rest := [.int 0]) ⟨hx, hb, hml, hown, hts⟩ (kX7_rounds l dC dI k0 kN kA kO kK kV kG kP kC kD kE kF kX kY kT kU cI (fun _ => 0) (fun _ => 0) (fun _ => 0) (fun _ => 0) H.size) (cwV 0 hts gL_law_X7_rounds rfl rfl rfl (by decide +kernel) ⟨Nat.le_of_ble_eq_true rfl, Nat.le_of_ble_eq_true rfl⟩) (fPreV hN hZ hS (fun q h => hFc q h) hPc hKc hDc (ci := 10) (q0 := 0) rfl rfl) rfl rfl hl.1 rfl (lv_room (Nat.le_of_ble_eq_true rfl)) dL_law_1704 ⟨Nat.le_of_ble_eq_true rfl, Nat.le_of_ble_eq_true rfl⟩) hS (fun q _ h => hFc q h) hFc (fun r u t H1 locs ht hvm hw hB hz1 hk1 hS => ?_)
  obtain ⟨hP1, hK1, hD1⟩ := hB
  rw [ht] at hP1
  have hK1 := va_K.moved hvm.symm hK1
  obtain ⟨u1, rfl⟩ : ∃ z, z = u := ⟨_, rfl⟩
  obtain ⟨hP, hD⟩ := va_join (wr := []) (w1 := [(k0, .inr (10, [.ref kN, .ref kA, .ref kO, .ref kK, .ref kV, .ref kG, .ref kP, .ref kC, .ref kD, .ref kE, .ref kF, .ref kX, .ref kY, .int 0, .ref kT, .ref kU, .int u1, .int 0, .int 0]))]) hP hD [0, 1, 2, 3, 4, 5, 6] [] rfl rfl (by decide) (by decide) hk1 hFc hP1 hD1
  generalize H1 = H at hP hS ⊢
  have hP : va_P (dC, dI) vwCl [(k0, .inr (10, [.ref kN, .ref kA, .ref kO, .ref kK, .ref kV, .ref kG, .ref kP, .ref kC, .ref kD, .ref kE, .ref kF, .ref kX, .ref kY, .int 0, .ref kT, .ref kU, .int u1, .int 0, .int 0]))] _ := hP
  have hD : va_D A [(k0, .inr (10, [.ref kN, .ref kA, .ref kO, .ref kK, .ref kV, .ref kG, .ref kP, .ref kC, .ref kD, .ref kE, .ref kF, .ref kX, .ref kY, .int 0, .ref kT, .ref kU, .int u1, .int 0, .int 0]))] := hD
  refine W.widen (k := 150) (n := 2357) (Nat.le_of_ble_eq_true rfl) (Nat.le_of_ble_eq_true rfl) ?_
  obtain ⟨r2, rfl⟩ : ∃ z, z = r := ⟨_, rfl⟩
  obtain ⟨rfl, rfl⟩ := hw
  have hP : va_P (dC, dI) vwCl [(k0, .inr (10, [.ref kN, .ref kA, .ref kO, .ref kK, .ref kV, .ref kG, .ref kP, .ref kC, .ref kD, .ref kE, .ref kF, .ref kX, .ref kY, .int 0, .ref kT, .ref kU, .int 0, .int 0, .int 0]))] _ := hP
  have hD : va_D A [(k0, .inr (10, [.ref kN, .ref kA, .ref kO, .ref kK, .ref kV, .ref kG, .ref kP, .ref kC, .ref kD, .ref kE, .ref kF, .ref kX, .ref kY, .int 0, .ref kT, .ref kU, .int 0, .int 0, .int 0]))] := hD
  refine lv_icmp_eq (tgt := 2720) hx hb dL_law_1707 (by decide) (fun _ => ?_) (fun h9 => absurd (by decide) h9)
  refine lv_iinc (v := 7) (lv' := [(5, .int 7), (4, .ref oD), (3, .ref oJ), (2, .ref k0), (1, .ref h0), (0, .ref b)]) hx hb dL_law_2720 hl (k := 0) rfl (by decide) (Nat.le_of_ble_eq_true rfl) rfl (fun ls hl => ?_)
  refine lv_goto (tgt := 28) hx hb dL_law_2723 (by decide) ?_
  refine lv_iload hx hb dL_law_28 (lv_at hl 0 rfl) ?_
  refine lv_aload_n hx hb dL_law_30 rfl (lv_at hl 5 rfl) ?_
  refine va_slen hx hb hX9 hbl hbA hS dL_law_31 ?_
  refine W.eq (g2 := F0 m 32 ls [.int 7, .int 7]) rfl ?_
  refine lv_bipush (v := 7) hx hb dL_law_32 (by decide) ?_
  refine lv_isub hx hb dL_law_34 ?_
  refine lv_topi (fun y3 ey3 => ?_)
  obtain rfl : y3 = 0 := ey3.trans (by decide)
  refine lv_icmp_gt (tgt := 2726) hx hb dL_law_35 (by decide) (fun _ => ?_) (fun h9 => absurd (by decide) h9)
  refine lv_iconst (v := 1) hx hb dL_law_2726 (by decide) ?_
  refine va_forget (fun q hq => hAe _ (hS.2.2 q hq)) ?_
  refine W.widen (k := 603072) (n := 7198826) (Nat.le_of_ble_eq_true rfl) (Nat.le_of_ble_eq_true rfl) ?_
  exact W.base (lw_ret (d0 := s.drawn) (Drawn.sameBut.refl _ _) hx hb hr hlk dL_law_2727)

set_option maxHeartbeats 4000000 in
set_option maxRecDepth 100000 in
/-- case 22 of the law: netClasses, on fresh objects -/
theorem lc_22 {p : Program} {e : Env} {s : State} {m : MethodId} {below : List Frame} {meth : Method} {c : Code} (l : Launch) (hfl : l.stackTraces = false) {b : Nat} {xs : Nat → Int32} (hx : p.tables.exec = Jvm.exec) (hb : c.code = cL_law) (hr : meth.sig.returnType = ret) (hml : c.maxLocals = 9) (hown : s.vm.findClass RL = some m.cls) (hts : ∀ w ∈ wsL_law, w.before #[Value.ref b] s = true) (hlk : meth.locks = false) (A : Nat → Prop) (hAe : ∀ q, A q → s.heap.size ≤ q) (hA : ∀ q : Nat, s.heap.size ≤ q → A q) (hX9 : va_X b 7 xs s s.heap) (hbl : b < s.heap.size) (hN : fN s) (hZ : fZ A s s.heap) (hX : fX s) (dC : Nat → ClassId) (dI : Nat → Nat → Nat) (h0 w d wL wP wS dL dP dS co on onR onL onC onD op opR opL opC opD un unK ma tm k0 kN kA kO kK kV kG kP kC kD kE kF kX kY kT kU oJ oD : Nat) (cI : ClassId) {H : Heap} {locs : List Loc} {ls : Array Slot} (hK : va_K (dC, dI) vwCl [(cI, .int)] s) (hP : va_P (dC, dI) vwCl [(h0, .inr (9, [.ref w, .ref d, .ref co, .ref un, .ref ma, .ref tm, .int 0, .int 0, .int 0])), (co, .inr (4, [.ref w, .ref d, .ref on, .ref op, .int 0])), (w, .inr (3, [.int 0, .int 0, .ref wL, .ref wP, .ref wS])), (d, .inr (3, [.int 0, .int 0, .ref dL, .ref dP, .ref dS])), (on, .inr (7, [.ref onR, .ref onL, .ref onC, .ref onD, .int 0])), (onL, .inl (cI, 20, .inl (fun _ => 0))), (onC, .inl (cI, 20, .inl (fun _ => 0))), (op, .inr (7, [.ref opR, .ref opL, .ref opC, .ref opD, .int 0])), (opL, .inl (cI, 20, .inl (fun _ => 0))), (opC, .inl (cI, 20, .inl (fun _ => 0))), (un, .inr (5, [.ref unK, .int 0])), (k0, .inr (10, [.ref kN, .ref kA, .ref kO, .ref kK, .ref kV, .ref kG, .ref kP, .ref kC, .ref kD, .ref kE, .ref kF, .ref kX, .ref kY, .int 0, .ref kT, .ref kU, .int 0, .int 0, .int 0])), (kN, .inl (cI, 2, .inl (fun _ => 0))), (kA, .inl (cI, 2, .inl (fun _ => 0))), (kC, .inl (cI, 20, .inl (fun _ => 0))), (kD, .inl (cI, 20, .inl (fun _ => 0))), (kE, .inl (cI, 20, .inl (fun _ => 0))), (kF, .inl (cI, 20, .inl (fun _ => 0)))] H) (hD : va_D A [(h0, .inr (9, [.ref w, .ref d, .ref co, .ref un, .ref ma, .ref tm, .int 0, .int 0, .int 0])), (co, .inr (4, [.ref w, .ref d, .ref on, .ref op, .int 0])), (w, .inr (3, [.int 0, .int 0, .ref wL, .ref wP, .ref wS])), (d, .inr (3, [.int 0, .int 0, .ref dL, .ref dP, .ref dS])), (on, .inr (7, [.ref onR, .ref onL, .ref onC, .ref onD, .int 0])), (onL, .inl (cI, 20, .inl (fun _ => 0))), (onC, .inl (cI, 20, .inl (fun _ => 0))), (op, .inr (7, [.ref opR, .ref opL, .ref opC, .ref opD, .int 0])), (opL, .inl (cI, 20, .inl (fun _ => 0))), (opC, .inl (cI, 20, .inl (fun _ => 0))), (un, .inr (5, [.ref unK, .int 0])), (k0, .inr (10, [.ref kN, .ref kA, .ref kO, .ref kK, .ref kV, .ref kG, .ref kP, .ref kC, .ref kD, .ref kE, .ref kF, .ref kX, .ref kY, .int 0, .ref kT, .ref kU, .int 0, .int 0, .int 0])), (kN, .inl (cI, 2, .inl (fun _ => 0))), (kA, .inl (cI, 2, .inl (fun _ => 0))), (kC, .inl (cI, 20, .inl (fun _ => 0))), (kD, .inl (cI, 20, .inl (fun _ => 0))), (kE, .inl (cI, 20, .inl (fun _ => 0))), (kF, .inl (cI, 20, .inl (fun _ => 0)))]) (hS : va_S A s.heap H locs) (hl : lv_has ls 9 [(5, .int 0), (4, .ref oD), (3, .ref oJ), (2, .ref k0), (1, .ref h0), (0, .ref b)]) : W p l e room_1 s m #[Value.ref b] below meth c H locs 148 2317 (lw_Z below #[Value.ref b] s) (F0 m 1712 ls []) := by
  have hbA : ¬ A b := fun h => Nat.not_le.mpr hbl (hAe _ h)
  have hX0 := hX
  refine lv_aload_n hx hb dL_law_1712 rfl (lv_at hl 4 rfl) ?_
  have hPc := hP.sub (ws' := [(h0, .inr (9, [.ref w, .ref d, .ref co, .ref un, .ref ma, .ref tm, .int 0, .int 0, .int 0])), (co, .inr (4, [.ref w, .ref d, .ref on, .ref op, .int 0])), (w, .inr (3, [.int 0, .int 0, .ref wL, .ref wP, .ref wS])), (d, .inr (3, [.int 0, .int 0, .ref dL, .ref dP, .ref dS])), (on, .inr (7, [.ref onR, .ref onL, .ref onC, .ref onD, .int 0])), (onL, .inl (cI, 20, .inl (fun _ => 0))), (onC, .inl (cI, 20, .inl (fun _ => 0))), (op, .inr (7, [.ref opR, .ref opL, .ref opC, .ref opD, .int 0])), (opL, .inl (cI, 20, .inl (fun _ => 0))), (opC, .inl (cI, 20, .inl (fun _ => 0))), (un, .inr (5, [.ref unK, .int 0]))]) [0, 1, 2, 3, 4, 5, 6, 7, 8, 9, 10] rfl
  have hDc := hD.sub (ws' := [(h0, .inr (9, [.ref w, .ref d, .ref co, .ref un, .ref ma, .ref tm, .int 0, .int 0, .int 0])), (co, .inr (4, [.ref w, .ref d, .ref on, .ref op, .int 0])), (w, .inr (3, [.int 0, .int 0, .ref wL, .ref wP, .ref wS])), (d, .inr (3, [.int 0, .int 0, .ref dL, .ref dP, .ref dS])), (on, .inr (7, [.ref onR, .ref onL, .ref onC, .ref onD, .int 0])), (onL, .inl (cI, 20, .inl (fun _ => 0))), (onC, .inl (cI, 20, .inl (fun _ => 0))), (op, .inr (7, [.ref opR, .ref opL, .ref opC, .ref opD, .int 0])), (opL, .inl (cI, 20, .inl (fun _ => 0))), (opC, .inl (cI, 20, .inl (fun _ => 0))), (un, .inr (5, [.ref unK, .int 0]))]) [0, 1, 2, 3, 4, 5, 6, 7, 8, 9, 10] (by decide) rfl
  have hKc := hK.sub (tys' := [(cI, .int)]) [0] rfl
  have hFc := va_free (wc := [(h0, .inr (9, [.ref w, .ref d, .ref co, .ref un, .ref ma, .ref tm, .int 0, .int 0, .int 0])), (co, .inr (4, [.ref w, .ref d, .ref on, .ref op, .int 0])), (w, .inr (3, [.int 0, .int 0, .ref wL, .ref wP, .ref wS])), (d, .inr (3, [.int 0, .int 0, .ref dL, .ref dP, .ref dS])), (on, .inr (7, [.ref onR, .ref onL, .ref onC, .ref onD, .int 0])), (onL, .inl (cI, 20, .inl (fun _ => 0))), (onC, .inl (cI, 20, .inl (fun _ => 0))), (op, .inr (7, [.ref opR, .ref opL, .ref opC, .ref opD, .int 0])), (opL, .inl (cI, 20, .inl (fun _ => 0))), (opC, .inl (cI, 20, .inl (fun _ => 0))), (un, .inr (5, [.ref unK, .int 0]))]) hD hS hA [0, 1, 2, 3, 4, 5, 6, 7, 8, 9, 10] rfl
  refine va_calli (va_runV (As := []) (rest := []) ⟨hx, hb, hml, hown, hts⟩ (kX6_netClasses l dC dI h0 ma tm un unK co w wL wP wS d dL dP dS on onR onL onC onD op opR opL opC opD cI (fun _ => 0) (fun _ => 0) H.size) (cwV 0 hts gL_law_X6_netClasses rfl rfl rfl (by decide +kernel) ⟨Nat.le_of_ble_eq_true rfl, Nat.le_of_ble_eq_true rfl⟩) (fPreV hN hZ hS (fun q h => hFc q h) hPc hKc hDc (ci := 9) (q0 := 0) rfl rfl) rfl rfl hl.1 rfl (lv_room (Nat.le_of_ble_eq_true rfl)) dL_law_1713 ⟨Nat.le_of_ble_eq_true rfl, Nat.le_of_ble_eq_true rfl⟩) hS (fun q _ h => hFc q h) hFc (fun r u t H1 locs ht hvm hw hB hz1 hk1 hS => ?_)
  obtain ⟨hP1, hK1, hD1⟩ := hB
  rw [ht] at hP1
  have hK1 := va_K.moved hvm.symm hK1
  obtain ⟨hP, hD⟩ := va_join (wr := [(k0, .inr (10, [.ref kN, .ref kA, .ref kO, .ref kK, .ref kV, .ref kG, .ref kP, .ref kC, .ref kD, .ref kE, .ref kF, .ref kX, .ref kY, .int 0, .ref kT, .ref kU, .int 0, .int 0, .int 0])), (kN, .inl (cI, 2, .inl (fun _ => 0))), (kA, .inl (cI, 2, .inl (fun _ => 0))), (kC, .inl (cI, 20, .inl (fun _ => 0))), (kD, .inl (cI, 20, .inl (fun _ => 0))), (kE, .inl (cI, 20, .inl (fun _ => 0))), (kF, .inl (cI, 20, .inl (fun _ => 0)))]) (w1 := []) hP hD [0, 1, 2, 3, 4, 5, 6, 7, 8, 9, 10] [11, 12, 13, 14, 15, 16, 17] rfl rfl (by decide) (by decide) hk1 hFc hP1 hD1
  generalize H1 = H at hP hS ⊢
  have hP : va_P (dC, dI) vwCl [(k0, .inr (10, [.ref kN, .ref kA, .ref kO, .ref kK, .ref kV, .ref kG, .ref kP, .ref kC, .ref kD, .ref kE, .ref kF, .ref kX, .ref kY, .int 0, .ref kT, .ref kU, .int 0, .int 0, .int 0])), (kN, .inl (cI, 2, .inl (fun _ => 0))), (kA, .inl (cI, 2, .inl (fun _ => 0))), (kC, .inl (cI, 20, .inl (fun _ => 0))), (kD, .inl (cI, 20, .inl (fun _ => 0))), (kE, .inl (cI, 20, .inl (fun _ => 0))), (kF, .inl (cI, 20, .inl (fun _ => 0)))] _ := hP
  have hD : va_D A [(k0, .inr (10, [.ref kN, .ref kA, .ref kO, .ref kK, .ref kV, .ref kG, .ref kP, .ref kC, .ref kD, .ref kE, .ref kF, .ref kX, .ref kY, .int 0, .ref kT, .ref kU, .int 0, .int 0, .int 0])), (kN, .inl (cI, 2, .inl (fun _ => 0))), (kA, .inl (cI, 2, .inl (fun _ => 0))), (kC, .inl (cI, 20, .inl (fun _ => 0))), (kD, .inl (cI, 20, .inl (fun _ => 0))), (kE, .inl (cI, 20, .inl (fun _ => 0))), (kF, .inl (cI, 20, .inl (fun _ => 0)))] := hD
  subst hw
  refine lv_aload_n hx hb dL_law_1716 rfl (lv_at hl 3 rfl) ?_
  have hPc := hP.sub (ws' := [(k0, .inr (10, [.ref kN, .ref kA, .ref kO, .ref kK, .ref kV, .ref kG, .ref kP, .ref kC, .ref kD, .ref kE, .ref kF, .ref kX, .ref kY, .int 0, .ref kT, .ref kU, .int 0, .int 0, .int 0])), (kN, .inl (cI, 2, .inl (fun _ => 0))), (kA, .inl (cI, 2, .inl (fun _ => 0))), (kC, .inl (cI, 20, .inl (fun _ => 0))), (kD, .inl (cI, 20, .inl (fun _ => 0))), (kE, .inl (cI, 20, .inl (fun _ => 0))), (kF, .inl (cI, 20, .inl (fun _ => 0)))]) [0, 1, 2, 3, 4, 5, 6] rfl
  have hDc := hD.sub (ws' := [(k0, .inr (10, [.ref kN, .ref kA, .ref kO, .ref kK, .ref kV, .ref kG, .ref kP, .ref kC, .ref kD, .ref kE, .ref kF, .ref kX, .ref kY, .int 0, .ref kT, .ref kU, .int 0, .int 0, .int 0])), (kN, .inl (cI, 2, .inl (fun _ => 0))), (kA, .inl (cI, 2, .inl (fun _ => 0))), (kC, .inl (cI, 20, .inl (fun _ => 0))), (kD, .inl (cI, 20, .inl (fun _ => 0))), (kE, .inl (cI, 20, .inl (fun _ => 0))), (kF, .inl (cI, 20, .inl (fun _ => 0)))]) [0, 1, 2, 3, 4, 5, 6] (by decide) rfl
  have hKc := hK.sub (tys' := [(cI, .int)]) [0] rfl
  have hFc := va_free (wc := [(k0, .inr (10, [.ref kN, .ref kA, .ref kO, .ref kK, .ref kV, .ref kG, .ref kP, .ref kC, .ref kD, .ref kE, .ref kF, .ref kX, .ref kY, .int 0, .ref kT, .ref kU, .int 0, .int 0, .int 0])), (kN, .inl (cI, 2, .inl (fun _ => 0))), (kA, .inl (cI, 2, .inl (fun _ => 0))), (kC, .inl (cI, 20, .inl (fun _ => 0))), (kD, .inl (cI, 20, .inl (fun _ => 0))), (kE, .inl (cI, 20, .inl (fun _ => 0))), (kF, .inl (cI, 20, .inl (fun _ => 0)))]) hD hS hA [0, 1, 2, 3, 4, 5, 6] rfl
  refine va_calli (va_runV (As := []) (rest := [.int 0]) ⟨hx, hb, hml, hown, hts⟩ (kX7_netClasses l dC dI k0 kN kA kO kK kV kG kP kC kD kE kF kX kY kT kU cI (fun _ => 0) (fun _ => 0) (fun _ => 0) (fun _ => 0) H.size) (cwV 0 hts gL_law_X7_netClasses rfl rfl rfl (by decide +kernel) ⟨Nat.le_of_ble_eq_true rfl, Nat.le_of_ble_eq_true rfl⟩) (fPreV hN hZ hS (fun q h => hFc q h) hPc hKc hDc (ci := 10) (q0 := 0) rfl rfl) rfl rfl hl.1 rfl (lv_room (Nat.le_of_ble_eq_true rfl)) dL_law_1717 ⟨Nat.le_of_ble_eq_true rfl, Nat.le_of_ble_eq_true rfl⟩) hS (fun q _ h => hFc q h) hFc (fun r u t H1 locs ht hvm hw hB hz1 hk1 hS => ?_)
  obtain ⟨hP1, hK1, hD1⟩ := hB
  rw [ht] at hP1
  have hK1 := va_K.moved hvm.symm hK1
  obtain ⟨u1, rfl⟩ : ∃ z, z = u := ⟨_, rfl⟩
  obtain ⟨hP, hD⟩ := va_join (wr := []) (w1 := [(k0, .inr (10, [.ref kN, .ref kA, .ref kO, .ref kK, .ref kV, .ref kG, .ref kP, .ref kC, .ref kD, .ref kE, .ref kF, .ref kX, .ref kY, .int 0, .ref kT, .ref kU, .int u1, .int 0, .int 0]))]) hP hD [0, 1, 2, 3, 4, 5, 6] [] rfl rfl (by decide) (by decide) hk1 hFc hP1 hD1
  generalize H1 = H at hP hS ⊢
  have hP : va_P (dC, dI) vwCl [(k0, .inr (10, [.ref kN, .ref kA, .ref kO, .ref kK, .ref kV, .ref kG, .ref kP, .ref kC, .ref kD, .ref kE, .ref kF, .ref kX, .ref kY, .int 0, .ref kT, .ref kU, .int u1, .int 0, .int 0]))] _ := hP
  have hD : va_D A [(k0, .inr (10, [.ref kN, .ref kA, .ref kO, .ref kK, .ref kV, .ref kG, .ref kP, .ref kC, .ref kD, .ref kE, .ref kF, .ref kX, .ref kY, .int 0, .ref kT, .ref kU, .int u1, .int 0, .int 0]))] := hD
  refine W.widen (k := 150) (n := 2357) (Nat.le_of_ble_eq_true rfl) (Nat.le_of_ble_eq_true rfl) ?_
  obtain ⟨r2, rfl⟩ : ∃ z, z = r := ⟨_, rfl⟩
  obtain ⟨rfl, rfl⟩ := hw
  have hP : va_P (dC, dI) vwCl [(k0, .inr (10, [.ref kN, .ref kA, .ref kO, .ref kK, .ref kV, .ref kG, .ref kP, .ref kC, .ref kD, .ref kE, .ref kF, .ref kX, .ref kY, .int 0, .ref kT, .ref kU, .int 0, .int 0, .int 0]))] _ := hP
  have hD : va_D A [(k0, .inr (10, [.ref kN, .ref kA, .ref kO, .ref kK, .ref kV, .ref kG, .ref kP, .ref kC, .ref kD, .ref kE, .ref kF, .ref kX, .ref kY, .int 0, .ref kT, .ref kU, .int 0, .int 0, .int 0]))] := hD
  refine lv_icmp_eq (tgt := 2720) hx hb dL_law_1720 (by decide) (fun _ => ?_) (fun h9 => absurd (by decide) h9)
  refine lv_iinc (v := 7) (lv' := [(5, .int 7), (4, .ref oD), (3, .ref oJ), (2, .ref k0), (1, .ref h0), (0, .ref b)]) hx hb dL_law_2720 hl (k := 0) rfl (by decide) (Nat.le_of_ble_eq_true rfl) rfl (fun ls hl => ?_)
  refine lv_goto (tgt := 28) hx hb dL_law_2723 (by decide) ?_
  refine lv_iload hx hb dL_law_28 (lv_at hl 0 rfl) ?_
  refine lv_aload_n hx hb dL_law_30 rfl (lv_at hl 5 rfl) ?_
  refine va_slen hx hb hX9 hbl hbA hS dL_law_31 ?_
  refine W.eq (g2 := F0 m 32 ls [.int 7, .int 7]) rfl ?_
  refine lv_bipush (v := 7) hx hb dL_law_32 (by decide) ?_
  refine lv_isub hx hb dL_law_34 ?_
  refine lv_topi (fun y3 ey3 => ?_)
  obtain rfl : y3 = 0 := ey3.trans (by decide)
  refine lv_icmp_gt (tgt := 2726) hx hb dL_law_35 (by decide) (fun _ => ?_) (fun h9 => absurd (by decide) h9)
  refine lv_iconst (v := 1) hx hb dL_law_2726 (by decide) ?_
  refine va_forget (fun q hq => hAe _ (hS.2.2 q hq)) ?_
  refine W.widen (k := 603072) (n := 7198826) (Nat.le_of_ble_eq_true rfl) (Nat.le_of_ble_eq_true rfl) ?_
  exact W.base (lw_ret (d0 := s.drawn) (Drawn.sameBut.refl _ _) hx hb hr hlk dL_law_2727)

set_option maxHeartbeats 4000000 in
set_option maxRecDepth 100000 in
/-- case 23 of the law: partClasses, on fresh objects -/
theorem lc_23 {p : Program} {e : Env} {s : State} {m : MethodId} {below : List Frame} {meth : Method} {c : Code} (l : Launch) (hfl : l.stackTraces = false) {b : Nat} {xs : Nat → Int32} (hx : p.tables.exec = Jvm.exec) (hb : c.code = cL_law) (hr : meth.sig.returnType = ret) (hml : c.maxLocals = 9) (hown : s.vm.findClass RL = some m.cls) (hts : ∀ w ∈ wsL_law, w.before #[Value.ref b] s = true) (hlk : meth.locks = false) (A : Nat → Prop) (hAe : ∀ q, A q → s.heap.size ≤ q) (hA : ∀ q : Nat, s.heap.size ≤ q → A q) (hX9 : va_X b 7 xs s s.heap) (hbl : b < s.heap.size) (hN : fN s) (hZ : fZ A s s.heap) (hX : fX s) (dC : Nat → ClassId) (dI : Nat → Nat → Nat) (h0 w d wL wP wS dL dP dS co on onR onL onC onD op opR opL opC opD un unK ma tm k0 kN kA kO kK kV kG kP kC kD kE kF kX kY kT kU oJ oD : Nat) (cI : ClassId) {H : Heap} {locs : List Loc} {ls : Array Slot} (hK : va_K (dC, dI) vwCl [(cI, .int)] s) (hP : va_P (dC, dI) vwCl [(h0, .inr (9, [.ref w, .ref d, .ref co, .ref un, .ref ma, .ref tm, .int 0, .int 0, .int 0])), (co, .inr (4, [.ref w, .ref d, .ref on, .ref op, .int 0])), (w, .inr (3, [.int 0, .int 0, .ref wL, .ref wP, .ref wS])), (d, .inr (3, [.int 0, .int 0, .ref dL, .ref dP, .ref dS])), (on, .inr (7, [.ref onR, .ref onL, .ref onC, .ref onD, .int 0])), (onL, .inl (cI, 20, .inl (fun _ => 0))), (onC, .inl (cI, 20, .inl (fun _ => 0))), (op, .inr (7, [.ref opR, .ref opL, .ref opC, .ref opD, .int 0])), (opL, .inl (cI, 20, .inl (fun _ => 0))), (opC, .inl (cI, 20, .inl (fun _ => 0))), (un, .inr (5, [.ref unK, .int 0])), (k0, .inr (10, [.ref kN, .ref kA, .ref kO, .ref kK, .ref kV, .ref kG, .ref kP, .ref kC, .ref kD, .ref kE, .ref kF, .ref kX, .ref kY, .int 0, .ref kT, .ref kU, .int 0, .int 0, .int 0])), (kN, .inl (cI, 2, .inl (fun _ => 0))), (kA, .inl (cI, 2, .inl (fun _ => 0))), (kC, .inl (cI, 20, .inl (fun _ => 0))), (kD, .inl (cI, 20, .inl (fun _ => 0))), (kE, .inl (cI, 20, .inl (fun _ => 0))), (kF, .inl (cI, 20, .inl (fun _ => 0)))] H) (hD : va_D A [(h0, .inr (9, [.ref w, .ref d, .ref co, .ref un, .ref ma, .ref tm, .int 0, .int 0, .int 0])), (co, .inr (4, [.ref w, .ref d, .ref on, .ref op, .int 0])), (w, .inr (3, [.int 0, .int 0, .ref wL, .ref wP, .ref wS])), (d, .inr (3, [.int 0, .int 0, .ref dL, .ref dP, .ref dS])), (on, .inr (7, [.ref onR, .ref onL, .ref onC, .ref onD, .int 0])), (onL, .inl (cI, 20, .inl (fun _ => 0))), (onC, .inl (cI, 20, .inl (fun _ => 0))), (op, .inr (7, [.ref opR, .ref opL, .ref opC, .ref opD, .int 0])), (opL, .inl (cI, 20, .inl (fun _ => 0))), (opC, .inl (cI, 20, .inl (fun _ => 0))), (un, .inr (5, [.ref unK, .int 0])), (k0, .inr (10, [.ref kN, .ref kA, .ref kO, .ref kK, .ref kV, .ref kG, .ref kP, .ref kC, .ref kD, .ref kE, .ref kF, .ref kX, .ref kY, .int 0, .ref kT, .ref kU, .int 0, .int 0, .int 0])), (kN, .inl (cI, 2, .inl (fun _ => 0))), (kA, .inl (cI, 2, .inl (fun _ => 0))), (kC, .inl (cI, 20, .inl (fun _ => 0))), (kD, .inl (cI, 20, .inl (fun _ => 0))), (kE, .inl (cI, 20, .inl (fun _ => 0))), (kF, .inl (cI, 20, .inl (fun _ => 0)))]) (hS : va_S A s.heap H locs) (hl : lv_has ls 9 [(5, .int 0), (4, .ref oD), (3, .ref oJ), (2, .ref k0), (1, .ref h0), (0, .ref b)]) : W p l e room_1 s m #[Value.ref b] below meth c H locs 148 2317 (lw_Z below #[Value.ref b] s) (F0 m 1725 ls []) := by
  have hbA : ¬ A b := fun h => Nat.not_le.mpr hbl (hAe _ h)
  have hX0 := hX
  refine lv_aload_n hx hb dL_law_1725 rfl (lv_at hl 4 rfl) ?_
  have hPc := hP.sub (ws' := [(h0, .inr (9, [.ref w, .ref d, .ref co, .ref un, .ref ma, .ref tm, .int 0, .int 0, .int 0])), (co, .inr (4, [.ref w, .ref d, .ref on, .ref op, .int 0])), (w, .inr (3, [.int 0, .int 0, .ref wL, .ref wP, .ref wS])), (d, .inr (3, [.int 0, .int 0, .ref dL, .ref dP, .ref dS])), (on, .inr (7, [.ref onR, .ref onL, .ref onC, .ref onD, .int 0])), (onL, .inl (cI, 20, .inl (fun _ => 0))), (onC, .inl (cI, 20, .inl (fun _ => 0))), (op, .inr (7, [.ref opR, .ref opL, .ref opC, .ref opD, .int 0])), (opL, .inl (cI, 20, .inl (fun _ => 0))), (opC, .inl (cI, 20, .inl (fun _ => 0))), (un, .inr (5, [.ref unK, .int 0]))]) [0, 1, 2, 3, 4, 5, 6, 7, 8, 9, 10] rfl
  have hDc := hD.sub (ws' := [(h0, .inr (9, [.ref w, .ref d, .ref co, .ref un, .ref ma, .ref tm, .int 0, .int 0, .int 0])), (co, .inr (4, [.ref w, .ref d, .ref on, .ref op, .int 0])), (w, .inr (3, [.int 0, .int 0, .ref wL, .ref wP, .ref wS])), (d, .inr (3, [.int 0, .int 0, .ref dL, .ref dP, .ref dS])), (on, .inr (7, [.ref onR, .ref onL, .ref onC, .ref onD, .int 0])), (onL, .inl (cI, 20, .inl (fun _ => 0))), (onC, .inl (cI, 20, .inl (fun _ => 0))), (op, .inr (7, [.ref opR, .ref opL, .ref opC, .ref opD, .int 0])), (opL, .inl (cI, 20, .inl (fun _ => 0))), (opC, .inl (cI, 20, .inl (fun _ => 0))), (un, .inr (5, [.ref unK, .int 0]))]) [0, 1, 2, 3, 4, 5, 6, 7, 8, 9, 10] (by decide) rfl
  have hKc := hK.sub (tys' := [(cI, .int)]) [0] rfl
  have hFc := va_free (wc := [(h0, .inr (9, [.ref w, .ref d, .ref co, .ref un, .ref ma, .ref tm, .int 0, .int 0, .int 0])), (co, .inr (4, [.ref w, .ref d, .ref on, .ref op, .int 0])), (w, .inr (3, [.int 0, .int 0, .ref wL, .ref wP, .ref wS])), (d, .inr (3, [.int 0, .int 0, .ref dL, .ref dP, .ref dS])), (on, .inr (7, [.ref onR, .ref onL, .ref onC, .ref onD, .int 0])), (onL, .inl (cI, 20, .inl (fun _ => 0))), (onC, .inl (cI, 20, .inl (fun _ => 0))), (op, .inr (7, [.ref opR, .ref opL, .ref opC, .ref opD, .int 0])), (opL, .inl (cI, 20, .inl (fun _ => 0))), (opC, .inl (cI, 20, .inl (fun _ => 0))), (un, .inr (5, [.ref unK, .int 0]))]) hD hS hA [0, 1, 2, 3, 4, 5, 6, 7, 8, 9, 10] rfl
  refine va_calli (va_runV (As := []) (rest := []) ⟨hx, hb, hml, hown, hts⟩ (kX6_partClasses l dC dI h0 ma tm un unK co w wL wP wS d dL dP dS on onR onL onC onD op opR opL opC opD cI (fun _ => 0) (fun _ => 0) H.size) (cwV 0 hts gL_law_X6_partClasses rfl rfl rfl (by decide +kernel) ⟨Nat.le_of_ble_eq_true rfl, Nat.le_of_ble_eq_true rfl⟩) (fPreV hN hZ hS (fun q h => hFc q h) hPc hKc hDc (ci := 9) (q0 := 0) rfl rfl) rfl rfl hl.1 rfl (lv_room (Nat.le_of_ble_eq_true rfl)) dL_law_1726 ⟨Nat.le_of_ble_eq_true rfl, Nat.le_of_ble_eq_true rfl⟩) hS (fun q _ h => hFc q h) hFc (fun r u t H1 locs ht hvm hw hB hz1 hk1 hS => ?_)
  obtain ⟨hP1, hK1, hD1⟩ := hB
  rw [ht] at hP1
  have hK1 := va_K.moved hvm.symm hK1
  obtain ⟨hP, hD⟩ := va_join (wr := [(k0, .inr (10, [.ref kN, .ref kA, .ref kO, .ref kK, .ref kV, .ref kG, .ref kP, .ref kC, .ref kD, .ref kE, .ref kF, .ref kX, .ref kY, .int 0, .ref kT, .ref kU, .int 0, .int 0, .int 0])), (kN, .inl (cI, 2, .inl (fun _ => 0))), (kA, .inl (cI, 2, .inl (fun _ => 0))), (kC, .inl (cI, 20, .inl (fun _ => 0))), (kD, .inl (cI, 20, .inl (fun _ => 0))), (kE, .inl (cI, 20, .inl (fun _ => 0))), (kF, .inl (cI, 20, .inl (fun _ => 0)))]) (w1 := []) hP hD [0, 1, 2, 3, 4, 5, 6, 7, 8, 9, 10] [11, 12, 13, 14, 15, 16, 17] rfl rfl (by decide) (by decide) hk1 hFc hP1 hD1
  generalize H1 = H at hP hS ⊢
  have hP : va_P (dC, dI) vwCl [(k0, .inr (10, [.ref kN, .ref kA, .ref kO, .ref kK, .ref kV, .ref kG, .ref kP, .ref kC, .ref kD, .ref kE, .ref kF, .ref kX, .ref kY, .int 0, .ref kT, .ref kU, .int 0, .int 0, .int 0])), (kN, .inl (cI, 2, .inl (fun _ => 0))), (kA, .inl (cI, 2, .inl (fun _ => 0))), (kC, .inl (cI, 20, .inl (fun _ => 0))), (kD, .inl (cI, 20, .inl (fun _ => 0))), (kE, .inl (cI, 20, .inl (fun _ => 0))), (kF, .inl (cI, 20, .inl (fun _ => 0)))] _ := hP
  have hD : va_D A [(k0, .inr (10, [.ref kN, .ref kA, .ref kO, .ref kK, .ref kV, .ref kG, .ref kP, .ref kC, .ref kD, .ref kE, .ref kF, .ref kX, .ref kY, .int 0, .ref kT, .ref kU, .int 0, .int 0, .int 0])), (kN, .inl (cI, 2, .inl (fun _ => 0))), (kA, .inl (cI, 2, .inl (fun _ => 0))), (kC, .inl (cI, 20, .inl (fun _ => 0))), (kD, .inl (cI, 20, .inl (fun _ => 0))), (kE, .inl (cI, 20, .inl (fun _ => 0))), (kF, .inl (cI, 20, .inl (fun _ => 0)))] := hD
  subst hw
  refine lv_aload_n hx hb dL_law_1729 rfl (lv_at hl 3 rfl) ?_
  have hPc := hP.sub (ws' := [(k0, .inr (10, [.ref kN, .ref kA, .ref kO, .ref kK, .ref kV, .ref kG, .ref kP, .ref kC, .ref kD, .ref kE, .ref kF, .ref kX, .ref kY, .int 0, .ref kT, .ref kU, .int 0, .int 0, .int 0])), (kN, .inl (cI, 2, .inl (fun _ => 0))), (kA, .inl (cI, 2, .inl (fun _ => 0))), (kC, .inl (cI, 20, .inl (fun _ => 0))), (kD, .inl (cI, 20, .inl (fun _ => 0))), (kE, .inl (cI, 20, .inl (fun _ => 0))), (kF, .inl (cI, 20, .inl (fun _ => 0)))]) [0, 1, 2, 3, 4, 5, 6] rfl
  have hDc := hD.sub (ws' := [(k0, .inr (10, [.ref kN, .ref kA, .ref kO, .ref kK, .ref kV, .ref kG, .ref kP, .ref kC, .ref kD, .ref kE, .ref kF, .ref kX, .ref kY, .int 0, .ref kT, .ref kU, .int 0, .int 0, .int 0])), (kN, .inl (cI, 2, .inl (fun _ => 0))), (kA, .inl (cI, 2, .inl (fun _ => 0))), (kC, .inl (cI, 20, .inl (fun _ => 0))), (kD, .inl (cI, 20, .inl (fun _ => 0))), (kE, .inl (cI, 20, .inl (fun _ => 0))), (kF, .inl (cI, 20, .inl (fun _ => 0)))]) [0, 1, 2, 3, 4, 5, 6] (by decide) rfl
  have hKc := hK.sub (tys' := [(cI, .int)]) [0] rfl
  have hFc := va_free (wc := [(k0, .inr (10, [.ref kN, .ref kA, .ref kO, .ref kK, .ref kV, .ref kG, .ref kP, .ref kC, .ref kD, .ref kE, .ref kF, .ref kX, .ref kY, .int 0, .ref kT, .ref kU, .int 0, .int 0, .int 0])), (kN, .inl (cI, 2, .inl (fun _ => 0))), (kA, .inl (cI, 2, .inl (fun _ => 0))), (kC, .inl (cI, 20, .inl (fun _ => 0))), (kD, .inl (cI, 20, .inl (fun _ => 0))), (kE, .inl (cI, 20, .inl (fun _ => 0))), (kF, .inl (cI, 20, .inl (fun _ => 0)))]) hD hS hA [0, 1, 2, 3, 4, 5, 6] rfl
  refine va_calli (va_runV (As := []) (rest := [.int 0]) ⟨hx, hb, hml, hown, hts⟩ (kX7_partClasses l dC dI k0 kN kA kO kK kV kG kP kC kD kE kF kX kY kT kU cI (fun _ => 0) (fun _ => 0) (fun _ => 0) (fun _ => 0) H.size) (cwV 0 hts gL_law_X7_partClasses rfl rfl rfl (by decide +kernel) ⟨Nat.le_of_ble_eq_true rfl, Nat.le_of_ble_eq_true rfl⟩) (fPreV hN hZ hS (fun q h => hFc q h) hPc hKc hDc (ci := 10) (q0 := 0) rfl rfl) rfl rfl hl.1 rfl (lv_room (Nat.le_of_ble_eq_true rfl)) dL_law_1730 ⟨Nat.le_of_ble_eq_true rfl, Nat.le_of_ble_eq_true rfl⟩) hS (fun q _ h => hFc q h) hFc (fun r u t H1 locs ht hvm hw hB hz1 hk1 hS => ?_)
  obtain ⟨hP1, hK1, hD1⟩ := hB
  rw [ht] at hP1
  have hK1 := va_K.moved hvm.symm hK1
  obtain ⟨u1, rfl⟩ : ∃ z, z = u := ⟨_, rfl⟩
  obtain ⟨hP, hD⟩ := va_join (wr := []) (w1 := [(k0, .inr (10, [.ref kN, .ref kA, .ref kO, .ref kK, .ref kV, .ref kG, .ref kP, .ref kC, .ref kD, .ref kE, .ref kF, .ref kX, .ref kY, .int 0, .ref kT, .ref kU, .int u1, .int 0, .int 0]))]) hP hD [0, 1, 2, 3, 4, 5, 6] [] rfl rfl (by decide) (by decide) hk1 hFc hP1 hD1
  generalize H1 = H at hP hS ⊢
  have hP : va_P (dC, dI) vwCl [(k0, .inr (10, [.ref kN, .ref kA, .ref kO, .ref kK, .ref kV, .ref kG, .ref kP, .ref kC, .ref kD, .ref kE, .ref kF, .ref kX, .ref kY, .int 0, .ref kT, .ref kU, .int u1, .int 0, .int 0]))] _ := hP
  have hD : va_D A [(k0, .inr (10, [.ref kN, .ref kA, .ref kO, .ref kK, .ref kV, .ref kG, .ref kP, .ref kC, .ref kD, .ref kE, .ref kF, .ref kX, .ref kY, .int 0, .ref kT, .ref kU, .int u1, .int 0, .int 0]))] := hD
  refine W.widen (k := 150) (n := 2357) (Nat.le_of_ble_eq_true rfl) (Nat.le_of_ble_eq_true rfl) ?_
  obtain ⟨r2, rfl⟩ : ∃ z, z = r := ⟨_, rfl⟩
  obtain ⟨rfl, rfl⟩ := hw
  have hP : va_P (dC, dI) vwCl [(k0, .inr (10, [.ref kN, .ref kA, .ref kO, .ref kK, .ref kV, .ref kG, .ref kP, .ref kC, .ref kD, .ref kE, .ref kF, .ref kX, .ref kY, .int 0, .ref kT, .ref kU, .int 0, .int 0, .int 0]))] _ := hP
  have hD : va_D A [(k0, .inr (10, [.ref kN, .ref kA, .ref kO, .ref kK, .ref kV, .ref kG, .ref kP, .ref kC, .ref kD, .ref kE, .ref kF, .ref kX, .ref kY, .int 0, .ref kT, .ref kU, .int 0, .int 0, .int 0]))] := hD
  refine lv_icmp_eq (tgt := 2720) hx hb dL_law_1733 (by decide) (fun _ => ?_) (fun h9 => absurd (by decide) h9)
  refine lv_iinc (v := 7) (lv' := [(5, .int 7), (4, .ref oD), (3, .ref oJ), (2, .ref k0), (1, .ref h0), (0, .ref b)]) hx hb dL_law_2720 hl (k := 0) rfl (by decide) (Nat.le_of_ble_eq_true rfl) rfl (fun ls hl => ?_)
  refine lv_goto (tgt := 28) hx hb dL_law_2723 (by decide) ?_
  refine lv_iload hx hb dL_law_28 (lv_at hl 0 rfl) ?_
  refine lv_aload_n hx hb dL_law_30 rfl (lv_at hl 5 rfl) ?_
  refine va_slen hx hb hX9 hbl hbA hS dL_law_31 ?_
  refine W.eq (g2 := F0 m 32 ls [.int 7, .int 7]) rfl ?_
  refine lv_bipush (v := 7) hx hb dL_law_32 (by decide) ?_
  refine lv_isub hx hb dL_law_34 ?_
  refine lv_topi (fun y3 ey3 => ?_)
  obtain rfl : y3 = 0 := ey3.trans (by decide)
  refine lv_icmp_gt (tgt := 2726) hx hb dL_law_35 (by decide) (fun _ => ?_) (fun h9 => absurd (by decide) h9)
  refine lv_iconst (v := 1) hx hb dL_law_2726 (by decide) ?_
  refine va_forget (fun q hq => hAe _ (hS.2.2 q hq)) ?_
  refine W.widen (k := 603072) (n := 7198826) (Nat.le_of_ble_eq_true rfl) (Nat.le_of_ble_eq_true rfl) ?_
  exact W.base (lw_ret (d0 := s.drawn) (Drawn.sameBut.refl _ _) hx hb hr hlk dL_law_2727)

set_option maxHeartbeats 4000000 in
set_option maxRecDepth 100000 in
/-- case 24 of the law: netsLike, on fresh objects -/
theorem lc_24 {p : Program} {e : Env} {s : State} {m : MethodId} {below : List Frame} {meth : Method} {c : Code} (l : Launch) (hfl : l.stackTraces = false) {b : Nat} {xs : Nat → Int32} (hx : p.tables.exec = Jvm.exec) (hb : c.code = cL_law) (hr : meth.sig.returnType = ret) (hml : c.maxLocals = 9) (hown : s.vm.findClass RL = some m.cls) (hts : ∀ w ∈ wsL_law, w.before #[Value.ref b] s = true) (hlk : meth.locks = false) (A : Nat → Prop) (hAe : ∀ q, A q → s.heap.size ≤ q) (hA : ∀ q : Nat, s.heap.size ≤ q → A q) (hX9 : va_X b 7 xs s s.heap) (hbl : b < s.heap.size) (hN : fN s) (hZ : fZ A s s.heap) (hX : fX s) (dC : Nat → ClassId) (dI : Nat → Nat → Nat) (h0 w d wL wP wS dL dP dS co un ma tm k0 kN kA kO kK kV kG kP kC kD kE kF kX kY kT kU oJ oD : Nat) (cI cJ : ClassId) {H : Heap} {locs : List Loc} {ls : Array Slot} (hK : va_K (dC, dI) vwCl [(cI, .int), (cJ, .long)] s) (hP : va_P (dC, dI) vwCl [(h0, .inr (9, [.ref w, .ref d, .ref co, .ref un, .ref ma, .ref tm, .int 0, .int 0, .int 0])), (w, .inr (3, [.int 0, .int 0, .ref wL, .ref wP, .ref wS])), (d, .inr (3, [.int 0, .int 0, .ref dL, .ref dP, .ref dS])), (k0, .inr (10, [.ref kN, .ref kA, .ref kO, .ref kK, .ref kV, .ref kG, .ref kP, .ref kC, .ref kD, .ref kE, .ref kF, .ref kX, .ref kY, .int 0, .ref kT, .ref kU, .int 0, .int 0, .int 0])), (kN, .inl (cI, 2, .inl (fun _ => 0))), (kA, .inl (cI, 2, .inl (fun _ => 0))), (oJ, .inl (cJ, 1, .inr (.inl (fun _ => 0))))] H) (hD : va_D A [(h0, .inr (9, [.ref w, .ref d, .ref co, .ref un, .ref ma, .ref tm, .int 0, .int 0, .int 0])), (w, .inr (3, [.int 0, .int 0, .ref wL, .ref wP, .ref wS])), (d, .inr (3, [.int 0, .int 0, .ref dL, .ref dP, .ref dS])), (k0, .inr (10, [.ref kN, .ref kA, .ref kO, .ref kK, .ref kV, .ref kG, .ref kP, .ref kC, .ref kD, .ref kE, .ref kF, .ref kX, .ref kY, .int 0, .ref kT, .ref kU, .int 0, .int 0, .int 0])), (kN, .inl (cI, 2, .inl (fun _ => 0))), (kA, .inl (cI, 2, .inl (fun _ => 0))), (oJ, .inl (cJ, 1, .inr (.inl (fun _ => 0))))]) (hS : va_S A s.heap H locs) (hl : lv_has ls 9 [(5, .int 0), (4, .ref oD), (3, .ref oJ), (2, .ref k0), (1, .ref h0), (0, .ref b)]) : W p l e room_1 s m #[Value.ref b] below meth c H locs 148 2317 (lw_Z below #[Value.ref b] s) (F0 m 1738 ls []) := by
  have hbA : ¬ A b := fun h => Nat.not_le.mpr hbl (hAe _ h)
  have hX0 := hX
  refine lv_aload_n hx hb dL_law_1738 rfl (lv_at hl 4 rfl) ?_
  refine lv_aload_n hx hb dL_law_1739 rfl (lv_at hl 5 rfl) ?_
  refine lv_iload hx hb dL_law_1740 (lv_at hl 0 rfl) ?_
  refine lv_iconst (v := 1) hx hb dL_law_1742 (by decide) ?_
  refine lv_iadd hx hb dL_law_1743 ?_
  refine lv_topi (fun y1 ey1 => ?_)
  obtain rfl : y1 = 1 := ey1.trans (by decide)
  refine va_sld hx hb hX9 hbl hbA hS (show ¬ (_ ∨ _) by decide) dL_law_1744 ?_
  refine W.eq (g2 := F0 m 1745 ls [.int (xs 1), .ref h0]) rfl ?_
  refine lv_aload_n hx hb dL_law_1745 rfl (lv_at hl 5 rfl) ?_
  refine lv_iload hx hb dL_law_1746 (lv_at hl 0 rfl) ?_
  refine lv_iconst (v := 2) hx hb dL_law_1748 (by decide) ?_
  refine lv_iadd hx hb dL_law_1749 ?_
  refine lv_topi (fun y2 ey2 => ?_)
  obtain rfl : y2 = 2 := ey2.trans (by decide)
  refine va_sld hx hb hX9 hbl hbA hS (show ¬ (_ ∨ _) by decide) dL_law_1750 ?_
  refine W.eq (g2 := F0 m 1751 ls [.int (xs 2), .int (xs 1), .ref h0]) rfl ?_
  refine lv_aload_n hx hb dL_law_1751 rfl (lv_at hl 5 rfl) ?_
  refine lv_iload hx hb dL_law_1752 (lv_at hl 0 rfl) ?_
  refine lv_iconst (v := 3) hx hb dL_law_1754 (by decide) ?_
  refine lv_iadd hx hb dL_law_1755 ?_
  refine lv_topi (fun y3 ey3 => ?_)
  obtain rfl : y3 = 3 := ey3.trans (by decide)
  refine va_sld hx hb hX9 hbl hbA hS (show ¬ (_ ∨ _) by decide) dL_law_1756 ?_
  refine W.eq (g2 := F0 m 1757 ls [.int (xs 3), .int (xs 2), .int (xs 1), .ref h0]) rfl ?_
  refine lv_aload_n hx hb dL_law_1757 rfl (lv_at hl 2 rfl) ?_
  have hPc := hP.sub (ws' := [(h0, .inr (9, [.ref w, .ref d, .ref co, .ref un, .ref ma, .ref tm, .int 0, .int 0, .int 0])), (w, .inr (3, [.int 0, .int 0, .ref wL, .ref wP, .ref wS])), (d, .inr (3, [.int 0, .int 0, .ref dL, .ref dP, .ref dS])), (oJ, .inl (cJ, 1, .inr (.inl (fun _ => 0))))]) [0, 1, 2, 6] rfl
  have hDc := hD.sub (ws' := [(h0, .inr (9, [.ref w, .ref d, .ref co, .ref un, .ref ma, .ref tm, .int 0, .int 0, .int 0])), (w, .inr (3, [.int 0, .int 0, .ref wL, .ref wP, .ref wS])), (d, .inr (3, [.int 0, .int 0, .ref dL, .ref dP, .ref dS])), (oJ, .inl (cJ, 1, .inr (.inl (fun _ => 0))))]) [0, 1, 2, 6] (by decide) rfl
  have hKc := hK.sub (tys' := [(cJ, .long)]) [1] rfl
  have hFc := va_free (wc := [(h0, .inr (9, [.ref w, .ref d, .ref co, .ref un, .ref ma, .ref tm, .int 0, .int 0, .int 0])), (w, .inr (3, [.int 0, .int 0, .ref wL, .ref wP, .ref wS])), (d, .inr (3, [.int 0, .int 0, .ref dL, .ref dP, .ref dS])), (oJ, .inl (cJ, 1, .inr (.inl (fun _ => 0))))]) hD hS hA [0, 1, 2, 6] rfl
  refine vx_calli (vx_runSX (As := [.ref h0, .int (xs 1), .int (xs 2), .int (xs 3), .ref oJ]) (rest := []) ⟨hx, hb, hml, hown, hts⟩ (kL_netsLike l hfl dC dI h0 w d co un ma tm wL wP wS dL dP dS oJ cJ (xs 1) (xs 2) (xs 3) H.size) (vx_cwSW 5 hts gL_law_L_netsLike rfl rfl rfl (by decide +kernel) ⟨Nat.le_of_ble_eq_true rfl, Nat.le_of_ble_eq_true rfl⟩) (gPreS hX hN hZ hS (fun q h => hFc q h) hPc hKc hDc) rfl rfl hl.1 rfl (lv_room (Nat.le_of_ble_eq_true rfl)) dL_law_1758 ⟨Nat.le_of_ble_eq_true rfl, Nat.le_of_ble_eq_true rfl⟩) hS (fun q _ h => hFc q h) hFc (fun q _ h => hFc q h) (fun E ce q9 u t H locs ht hvm hpx hE hz1 hk1 hS hq9 hv9 hc9 => ?_) (fun r u t H1 locs ht hvm hw hB hz1 hk1 hS => ?_)
  · skip
    exact hE.elim
  · skip
    obtain ⟨hP1, hK1, hD1⟩ := hB
    rw [ht] at hP1
    have hK1 := va_K.moved hvm.symm hK1
    obtain ⟨u4, rfl⟩ : ∃ z, z = u := ⟨_, rfl⟩
    obtain ⟨hP, hD⟩ := va_join (wr := [(k0, .inr (10, [.ref kN, .ref kA, .ref kO, .ref kK, .ref kV, .ref kG, .ref kP, .ref kC, .ref kD, .ref kE, .ref kF, .ref kX, .ref kY, .int 0, .ref kT, .ref kU, .int 0, .int 0, .int 0])), (kN, .inl (cI, 2, .inl (fun _ => 0))), (kA, .inl (cI, 2, .inl (fun _ => 0)))]) (w1 := [(oJ, .inl (cJ, 1, .inr (.inl u4)))]) hP hD [0, 1, 2, 6] [3, 4, 5] rfl rfl (by decide) (by decide) hk1 hFc hP1 hD1
    generalize H1 = H at hP hS ⊢
    have hP : va_P (dC, dI) vwCl [(k0, .inr (10, [.ref kN, .ref kA, .ref kO, .ref kK, .ref kV, .ref kG, .ref kP, .ref kC, .ref kD, .ref kE, .ref kF, .ref kX, .ref kY, .int 0, .ref kT, .ref kU, .int 0, .int 0, .int 0])), (kN, .inl (cI, 2, .inl (fun _ => 0))), (kA, .inl (cI, 2, .inl (fun _ => 0))), (oJ, .inl (cJ, 1, .inr (.inl u4)))] _ := hP
    have hD : va_D A [(k0, .inr (10, [.ref kN, .ref kA, .ref kO, .ref kK, .ref kV, .ref kG, .ref kP, .ref kC, .ref kD, .ref kE, .ref kF, .ref kX, .ref kY, .int 0, .ref kT, .ref kU, .int 0, .int 0, .int 0])), (kN, .inl (cI, 2, .inl (fun _ => 0))), (kA, .inl (cI, 2, .inl (fun _ => 0))), (oJ, .inl (cJ, 1, .inr (.inl u4)))] := hD
    refine W.widen (k := 151) (n := 2335) (Nat.le_of_ble_eq_true rfl) (Nat.le_of_ble_eq_true rfl) ?_
    rcases hw with ⟨rfl, hf9⟩ | ⟨rfl, hf9⟩
    · skip
      have hf5 := hf9
      refine lv_istore (lv' := [(6, .int 1), (5, .int 0), (4, .ref oD), (3, .ref oJ), (2, .ref k0), (1, .ref h0), (0, .ref b)]) hx hb dL_law_1761 hl (Nat.le_of_ble_eq_true rfl) rfl (fun ls hl => ?_)
      refine lv_aload_n hx hb dL_law_1763 rfl (lv_at hl 4 rfl) ?_
      refine lv_aload_n hx hb dL_law_1764 rfl (lv_at hl 6 rfl) ?_
      refine lv_iload hx hb dL_law_1765 (lv_at hl 1 rfl) ?_
      refine lv_iconst (v := 1) hx hb dL_law_1767 (by decide) ?_
      refine lv_iadd hx hb dL_law_1768 ?_
      refine lv_topi (fun y6 ey6 => ?_)
      obtain rfl : y6 = 1 := ey6.trans (by decide)
      refine va_sld hx hb hX9 hbl hbA hS (show ¬ (_ ∨ _) by decide) dL_law_1769 ?_
      refine W.eq (g2 := F0 m 1770 ls [.int (xs 1), .ref k0]) rfl ?_
      refine lv_aload_n hx hb dL_law_1770 rfl (lv_at hl 6 rfl) ?_
      refine lv_iload hx hb dL_law_1771 (lv_at hl 1 rfl) ?_
      refine lv_iconst (v := 2) hx hb dL_law_1773 (by decide) ?_
      refine lv_iadd hx hb dL_law_1774 ?_
      refine lv_topi (fun y7 ey7 => ?_)
      obtain rfl : y7 = 2 := ey7.trans (by decide)
      refine va_sld hx hb hX9 hbl hbA hS (show ¬ (_ ∨ _) by decide) dL_law_1775 ?_
      refine W.eq (g2 := F0 m 1776 ls [.int (xs 2), .int (xs 1), .ref k0]) rfl ?_
      refine lv_aload_n hx hb dL_law_1776 rfl (lv_at hl 6 rfl) ?_
      refine lv_iload hx hb dL_law_1777 (lv_at hl 1 rfl) ?_
      refine lv_iconst (v := 3) hx hb dL_law_1779 (by decide) ?_
      refine lv_iadd hx hb dL_law_1780 ?_
      refine lv_topi (fun y8 ey8 => ?_)
      obtain rfl : y8 = 3 := ey8.trans (by decide)
      refine va_sld hx hb hX9 hbl hbA hS (show ¬ (_ ∨ _) by decide) dL_law_1781 ?_
      refine W.eq (g2 := F0 m 1782 ls [.int (xs 3), .int (xs 2), .int (xs 1), .ref k0]) rfl ?_
      have hPc := hP.sub (ws' := [(k0, .inr (10, [.ref kN, .ref kA, .ref kO, .ref kK, .ref kV, .ref kG, .ref kP, .ref kC, .ref kD, .ref kE, .ref kF, .ref kX, .ref kY, .int 0, .ref kT, .ref kU, .int 0, .int 0, .int 0])), (kN, .inl (cI, 2, .inl (fun _ => 0))), (kA, .inl (cI, 2, .inl (fun _ => 0)))]) [0, 1, 2] rfl
      have hDc := hD.sub (ws' := [(k0, .inr (10, [.ref kN, .ref kA, .ref kO, .ref kK, .ref kV, .ref kG, .ref kP, .ref kC, .ref kD, .ref kE, .ref kF, .ref kX, .ref kY, .int 0, .ref kT, .ref kU, .int 0, .int 0, .int 0])), (kN, .inl (cI, 2, .inl (fun _ => 0))), (kA, .inl (cI, 2, .inl (fun _ => 0)))]) [0, 1, 2] (by decide) rfl
      have hKc := hK.sub (tys' := [(cI, .int)]) [0] rfl
      have hFc := va_free (wc := [(k0, .inr (10, [.ref kN, .ref kA, .ref kO, .ref kK, .ref kV, .ref kG, .ref kP, .ref kC, .ref kD, .ref kE, .ref kF, .ref kX, .ref kY, .int 0, .ref kT, .ref kU, .int 0, .int 0, .int 0])), (kN, .inl (cI, 2, .inl (fun _ => 0))), (kA, .inl (cI, 2, .inl (fun _ => 0)))]) hD hS hA [0, 1, 2] rfl
      refine va_calli (va_runV (As := [.int (xs 1), .int (xs 2), .int (xs 3)]) (rest := []) ⟨hx, hb, hml, hown, hts⟩ (kX7_netsLike l dC dI k0 kN kA kO kK kV kG kP kC kD kE kF kX kY kT kU cI (xs 1) (xs 2) (xs 3) H.size) (cwV 3 hts gL_law_X7_netsLike rfl rfl rfl (by decide +kernel) ⟨Nat.le_of_ble_eq_true rfl, Nat.le_of_ble_eq_true rfl⟩) (fPreV hN hZ hS (fun q h => hFc q h) hPc hKc hDc (ci := 10) (q0 := 0) rfl rfl) rfl rfl hl.1 rfl (lv_room (Nat.le_of_ble_eq_true rfl)) dL_law_1782 ⟨Nat.le_of_ble_eq_true rfl, Nat.le_of_ble_eq_true rfl⟩) hS (fun q _ h => hFc q h) hFc (fun r u t H1 locs ht hvm hw hB hz1 hk1 hS => ?_)
      obtain ⟨hP1, hK1, hD1⟩ := hB
      rw [ht] at hP1
      have hK1 := va_K.moved hvm.symm hK1
      obtain ⟨u9, rfl⟩ : ∃ z, z = u := ⟨_, rfl⟩
      obtain ⟨hP, hD⟩ := va_join (wr := [(oJ, .inl (cJ, 1, .inr (.inl u4)))]) (w1 := [(k0, .inr (10, [.ref kN, .ref kA, .ref kO, .ref kK, .ref kV, .ref kG, .ref kP, .ref kC, .ref kD, .ref kE, .ref kF, .ref kX, .ref kY, .int 0, .ref kT, .ref kU, .int u9, .int 0, .int 0]))]) hP hD [0, 1, 2] [3] rfl rfl (by decide) (by decide) hk1 hFc hP1 hD1
      generalize H1 = H at hP hS ⊢
      have hP : va_P (dC, dI) vwCl [(oJ, .inl (cJ, 1, .inr (.inl u4))), (k0, .inr (10, [.ref kN, .ref kA, .ref kO, .ref kK, .ref kV, .ref kG, .ref kP, .ref kC, .ref kD, .ref kE, .ref kF, .ref kX, .ref kY, .int 0, .ref kT, .ref kU, .int u9, .int 0, .int 0]))] _ := hP
      have hD : va_D A [(oJ, .inl (cJ, 1, .inr (.inl u4))), (k0, .inr (10, [.ref kN, .ref kA, .ref kO, .ref kK, .ref kV, .ref kG, .ref kP, .ref kC, .ref kD, .ref kE, .ref kF, .ref kX, .ref kY, .int 0, .ref kT, .ref kU, .int u9, .int 0, .int 0]))] := hD
      obtain ⟨r10, rfl⟩ : ∃ z, z = r := ⟨_, rfl⟩
      rcases hw with ⟨rfl, hg9⟩ | ⟨rfl, hg9⟩
      · skip
        have hP : va_P (dC, dI) vwCl [(oJ, .inl (cJ, 1, .inr (.inl u4))), (k0, .inr (10, [.ref kN, .ref kA, .ref kO, .ref kK, .ref kV, .ref kG, .ref kP, .ref kC, .ref kD, .ref kE, .ref kF, .ref kX, .ref kY, .int 0, .ref kT, .ref kU, .int 1, .int 0, .int 0]))] _ := hP
        have hD : va_D A [(oJ, .inl (cJ, 1, .inr (.inl u4))), (k0, .inr (10, [.ref kN, .ref kA, .ref kO, .ref kK, .ref kV, .ref kG, .ref kP, .ref kC, .ref kD, .ref kE, .ref kF, .ref kX, .ref kY, .int 0, .ref kT, .ref kU, .int 1, .int 0, .int 0]))] := hD
        refine lv_istore (lv' := [(7, .int r10), (6, .int 1), (5, .int 0), (4, .ref oD), (3, .ref oJ), (2, .ref k0), (1, .ref h0), (0, .ref b)]) hx hb dL_law_1785 hl (Nat.le_of_ble_eq_true rfl) rfl (fun ls hl => ?_)
        refine lv_aload_n hx hb dL_law_1787 rfl (lv_at hl 5 rfl) ?_
        have hPc := hP.sub (ws' := [(k0, .inr (10, [.ref kN, .ref kA, .ref kO, .ref kK, .ref kV, .ref kG, .ref kP, .ref kC, .ref kD, .ref kE, .ref kF, .ref kX, .ref kY, .int 0, .ref kT, .ref kU, .int 1, .int 0, .int 0]))]) [1] rfl
        have hDc := hD.sub (ws' := [(k0, .inr (10, [.ref kN, .ref kA, .ref kO, .ref kK, .ref kV, .ref kG, .ref kP, .ref kC, .ref kD, .ref kE, .ref kF, .ref kX, .ref kY, .int 0, .ref kT, .ref kU, .int 1, .int 0, .int 0]))]) [1] (by decide) rfl
        have hKc := hK.sub (tys' := []) [] rfl
        have hFc := va_free (wc := [(k0, .inr (10, [.ref kN, .ref kA, .ref kO, .ref kK, .ref kV, .ref kG, .ref kP, .ref kC, .ref kD, .ref kE, .ref kF, .ref kX, .ref kY, .int 0, .ref kT, .ref kU, .int 1, .int 0, .int 0]))]) hD hS hA [1] rfl
        refine va_calli (va_runV (As := []) (rest := []) ⟨hx, hb, hml, hown, hts⟩ (kX7_thrown l dC dI k0 kN kA kO kK kV kG kP kC kD kE kF kX kY kT kU 1 H.size) (cwV 0 hts gL_law_X7_thrown rfl rfl rfl (by decide +kernel) ⟨Nat.le_of_ble_eq_true rfl, Nat.le_of_ble_eq_true rfl⟩) (fPreV hN hZ hS (fun q h => hFc q h) hPc hKc hDc (ci := 10) (q0 := 0) rfl rfl) rfl rfl hl.1 rfl (lv_room (Nat.le_of_ble_eq_true rfl)) dL_law_1788 ⟨Nat.le_of_ble_eq_true rfl, Nat.le_of_ble_eq_true rfl⟩) hS (fun q _ h => hFc q h) hFc (fun r u t H1 locs ht hvm hw hB hz1 hk1 hS => ?_)
        obtain ⟨hP1, hK1, hD1⟩ := hB
        rw [ht] at hP1
        have hK1 := va_K.moved hvm.symm hK1
        obtain ⟨hP, hD⟩ := va_join (wr := [(oJ, .inl (cJ, 1, .inr (.inl u4)))]) (w1 := []) hP hD [1] [0] rfl rfl (by decide) (by decide) hk1 hFc hP1 hD1
        generalize H1 = H at hP hS ⊢
        have hP : va_P (dC, dI) vwCl [(oJ, .inl (cJ, 1, .inr (.inl u4)))] _ := hP
        have hD : va_D A [(oJ, .inl (cJ, 1, .inr (.inl u4)))] := hD
        subst hw
        refine lv_iload hx hb dL_law_1791 (lv_at hl 1 rfl) ?_
        refine lv_icmp_eq (tgt := 1798) hx hb dL_law_1793 (by decide) (fun _ => ?_) (fun h9 => absurd (by decide) h9)
        refine lv_iload hx hb dL_law_1798 (lv_at hl 1 rfl) ?_
        refine lv_if_ne (tgt := 1815) hx hb dL_law_1800 (by decide) (fun _ => ?_) (fun h9 => absurd h9 (by decide))
        refine lv_goto (tgt := 2720) hx hb dL_law_1815 (by decide) ?_
        refine lv_iinc (v := 7) (lv' := [(5, .int 7), (7, .int r10), (6, .int 1), (4, .ref oD), (3, .ref oJ), (2, .ref k0), (1, .ref h0), (0, .ref b)]) hx hb dL_law_2720 hl (k := 2) rfl (by decide) (Nat.le_of_ble_eq_true rfl) rfl (fun ls hl => ?_)
        refine lv_goto (tgt := 28) hx hb dL_law_2723 (by decide) ?_
        refine lv_iload hx hb dL_law_28 (lv_at hl 0 rfl) ?_
        refine lv_aload_n hx hb dL_law_30 rfl (lv_at hl 7 rfl) ?_
        refine va_slen hx hb hX9 hbl hbA hS dL_law_31 ?_
        refine W.eq (g2 := F0 m 32 ls [.int 7, .int 7]) rfl ?_
        refine lv_bipush (v := 7) hx hb dL_law_32 (by decide) ?_
        refine lv_isub hx hb dL_law_34 ?_
        refine lv_topi (fun y11 ey11 => ?_)
        obtain rfl : y11 = 0 := ey11.trans (by decide)
        refine lv_icmp_gt (tgt := 2726) hx hb dL_law_35 (by decide) (fun _ => ?_) (fun h9 => absurd (by decide) h9)
        refine lv_iconst (v := 1) hx hb dL_law_2726 (by decide) ?_
        refine va_forget (fun q hq => hAe _ (hS.2.2 q hq)) ?_
        refine W.widen (k := 603072) (n := 7198826) (Nat.le_of_ble_eq_true rfl) (Nat.le_of_ble_eq_true rfl) ?_
        exact W.base (lw_ret (d0 := s.drawn) (Drawn.sameBut.refl _ _) hx hb hr hlk dL_law_2727)
      · skip
        exact absurd hg9 ((fun h9 => h9 (hf5)))
    · skip
      have hf12 := hf9
      refine lv_istore (lv' := [(6, .int 2), (5, .int 0), (4, .ref oD), (3, .ref oJ), (2, .ref k0), (1, .ref h0), (0, .ref b)]) hx hb dL_law_1761 hl (Nat.le_of_ble_eq_true rfl) rfl (fun ls hl => ?_)
      refine lv_aload_n hx hb dL_law_1763 rfl (lv_at hl 4 rfl) ?_
      refine lv_aload_n hx hb dL_law_1764 rfl (lv_at hl 6 rfl) ?_
      refine lv_iload hx hb dL_law_1765 (lv_at hl 1 rfl) ?_
      refine lv_iconst (v := 1) hx hb dL_law_1767 (by decide) ?_
      refine lv_iadd hx hb dL_law_1768 ?_
      refine lv_topi (fun y13 ey13 => ?_)
      obtain rfl : y13 = 1 := ey13.trans (by decide)
      refine va_sld hx hb hX9 hbl hbA hS (show ¬ (_ ∨ _) by decide) dL_law_1769 ?_
      refine W.eq (g2 := F0 m 1770 ls [.int (xs 1), .ref k0]) rfl ?_
      refine lv_aload_n hx hb dL_law_1770 rfl (lv_at hl 6 rfl) ?_
      refine lv_iload hx hb dL_law_1771 (lv_at hl 1 rfl) ?_
      refine lv_iconst (v := 2) hx hb dL_law_1773 (by decide) ?_
      refine lv_iadd hx hb dL_law_1774 ?_
      refine lv_topi (fun y14 ey14 => ?_)
      obtain rfl : y14 = 2 := ey14.trans (by decide)
      refine va_sld hx hb hX9 hbl hbA hS (show ¬ (_ ∨ _) by decide) dL_law_1775 ?_
      refine W.eq (g2 := F0 m 1776 ls [.int (xs 2), .int (xs 1), .ref k0]) rfl ?_
      refine lv_aload_n hx hb dL_law_1776 rfl (lv_at hl 6 rfl) ?_
      refine lv_iload hx hb dL_law_1777 (lv_at hl 1 rfl) ?_
      refine lv_iconst (v := 3) hx hb dL_law_1779 (by decide) ?_
      refine lv_iadd hx hb dL_law_1780 ?_
      refine lv_topi (fun y15 ey15 => ?_)
      obtain rfl : y15 = 3 := ey15.trans (by decide)
      refine va_sld hx hb hX9 hbl hbA hS (show ¬ (_ ∨ _) by decide) dL_law_1781 ?_
      refine W.eq (g2 := F0 m 1782 ls [.int (xs 3), .int (xs 2), .int (xs 1), .ref k0]) rfl ?_
      have hPc := hP.sub (ws' := [(k0, .inr (10, [.ref kN, .ref kA, .ref kO, .ref kK, .ref kV, .ref kG, .ref kP, .ref kC, .ref kD, .ref kE, .ref kF, .ref kX, .ref kY, .int 0, .ref kT, .ref kU, .int 0, .int 0, .int 0])), (kN, .inl (cI, 2, .inl (fun _ => 0))), (kA, .inl (cI, 2, .inl (fun _ => 0)))]) [0, 1, 2] rfl
      have hDc := hD.sub (ws' := [(k0, .inr (10, [.ref kN, .ref kA, .ref kO, .ref kK, .ref kV, .ref kG, .ref kP, .ref kC, .ref kD, .ref kE, .ref kF, .ref kX, .ref kY, .int 0, .ref kT, .ref kU, .int 0, .int 0, .int 0])), (kN, .inl (cI, 2, .inl (fun _ => 0))), (kA, .inl (cI, 2, .inl (fun _ => 0)))]) [0, 1, 2] (by decide) rfl
      have hKc := hK.sub (tys' := [(cI, .int)]) [0] rfl
      have hFc := va_free (wc := [(k0, .inr (10, [.ref kN, .ref kA, .ref kO, .ref kK, .ref kV, .ref kG, .ref kP, .ref kC, .ref kD, .ref kE, .ref kF, .ref kX, .ref kY, .int 0, .ref kT, .ref kU, .int 0, .int 0, .int 0])), (kN, .inl (cI, 2, .inl (fun _ => 0))), (kA, .inl (cI, 2, .inl (fun _ => 0)))]) hD hS hA [0, 1, 2] rfl
      refine va_calli (va_runV (As := [.int (xs 1), .int (xs 2), .int (xs 3)]) (rest := []) ⟨hx, hb, hml, hown, hts⟩ (kX7_netsLike l dC dI k0 kN kA kO kK kV kG kP kC kD kE kF kX kY kT kU cI (xs 1) (xs 2) (xs 3) H.size) (cwV 3 hts gL_law_X7_netsLike rfl rfl rfl (by decide +kernel) ⟨Nat.le_of_ble_eq_true rfl, Nat.le_of_ble_eq_true rfl⟩) (fPreV hN hZ hS (fun q h => hFc q h) hPc hKc hDc (ci := 10) (q0 := 0) rfl rfl) rfl rfl hl.1 rfl (lv_room (Nat.le_of_ble_eq_true rfl)) dL_law_1782 ⟨Nat.le_of_ble_eq_true rfl, Nat.le_of_ble_eq_true rfl⟩) hS (fun q _ h => hFc q h) hFc (fun r u t H1 locs ht hvm hw hB hz1 hk1 hS => ?_)
      obtain ⟨hP1, hK1, hD1⟩ := hB
      rw [ht] at hP1
      have hK1 := va_K.moved hvm.symm hK1
      obtain ⟨u16, rfl⟩ : ∃ z, z = u := ⟨_, rfl⟩
      obtain ⟨hP, hD⟩ := va_join (wr := [(oJ, .inl (cJ, 1, .inr (.inl u4)))]) (w1 := [(k0, .inr (10, [.ref kN, .ref kA, .ref kO, .ref kK, .ref kV, .ref kG, .ref kP, .ref kC, .ref kD, .ref kE, .ref kF, .ref kX, .ref kY, .int 0, .ref kT, .ref kU, .int u16, .int 0, .int 0]))]) hP hD [0, 1, 2] [3] rfl rfl (by decide) (by decide) hk1 hFc hP1 hD1
      generalize H1 = H at hP hS ⊢
      have hP : va_P (dC, dI) vwCl [(oJ, .inl (cJ, 1, .inr (.inl u4))), (k0, .inr (10, [.ref kN, .ref kA, .ref kO, .ref kK, .ref kV, .ref kG, .ref kP, .ref kC, .ref kD, .ref kE, .ref kF, .ref kX, .ref kY, .int 0, .ref kT, .ref kU, .int u16, .int 0, .int 0]))] _ := hP
      have hD : va_D A [(oJ, .inl (cJ, 1, .inr (.inl u4))), (k0, .inr (10, [.ref kN, .ref kA, .ref kO, .ref kK, .ref kV, .ref kG, .ref kP, .ref kC, .ref kD, .ref kE, .ref kF, .ref kX, .ref kY, .int 0, .ref kT, .ref kU, .int u16, .int 0, .int 0]))] := hD
      obtain ⟨r17, rfl⟩ : ∃ z, z = r := ⟨_, rfl⟩
      rcases hw with ⟨rfl, hg9⟩ | ⟨rfl, hg9⟩
      · skip
        exact absurd hg9 (hf12)
      · skip
        have hP : va_P (dC, dI) vwCl [(oJ, .inl (cJ, 1, .inr (.inl u4))), (k0, .inr (10, [.ref kN, .ref kA, .ref kO, .ref kK, .ref kV, .ref kG, .ref kP, .ref kC, .ref kD, .ref kE, .ref kF, .ref kX, .ref kY, .int 0, .ref kT, .ref kU, .int 2, .int 0, .int 0]))] _ := hP
        have hD : va_D A [(oJ, .inl (cJ, 1, .inr (.inl u4))), (k0, .inr (10, [.ref kN, .ref kA, .ref kO, .ref kK, .ref kV, .ref kG, .ref kP, .ref kC, .ref kD, .ref kE, .ref kF, .ref kX, .ref kY, .int 0, .ref kT, .ref kU, .int 2, .int 0, .int 0]))] := hD
        refine lv_istore (lv' := [(7, .int r17), (6, .int 2), (5, .int 0), (4, .ref oD), (3, .ref oJ), (2, .ref k0), (1, .ref h0), (0, .ref b)]) hx hb dL_law_1785 hl (Nat.le_of_ble_eq_true rfl) rfl (fun ls hl => ?_)
        refine lv_aload_n hx hb dL_law_1787 rfl (lv_at hl 5 rfl) ?_
        have hPc := hP.sub (ws' := [(k0, .inr (10, [.ref kN, .ref kA, .ref kO, .ref kK, .ref kV, .ref kG, .ref kP, .ref kC, .ref kD, .ref kE, .ref kF, .ref kX, .ref kY, .int 0, .ref kT, .ref kU, .int 2, .int 0, .int 0]))]) [1] rfl
        have hDc := hD.sub (ws' := [(k0, .inr (10, [.ref kN, .ref kA, .ref kO, .ref kK, .ref kV, .ref kG, .ref kP, .ref kC, .ref kD, .ref kE, .ref kF, .ref kX, .ref kY, .int 0, .ref kT, .ref kU, .int 2, .int 0, .int 0]))]) [1] (by decide) rfl
        have hKc := hK.sub (tys' := []) [] rfl
        have hFc := va_free (wc := [(k0, .inr (10, [.ref kN, .ref kA, .ref kO, .ref kK, .ref kV, .ref kG, .ref kP, .ref kC, .ref kD, .ref kE, .ref kF, .ref kX, .ref kY, .int 0, .ref kT, .ref kU, .int 2, .int 0, .int 0]))]) hD hS hA [1] rfl
        refine va_calli (va_runV (As := []) (rest := []) ⟨hx, hb, hml, hown, hts⟩ (kX7_thrown l dC dI k0 kN kA kO kK kV kG kP kC kD kE kF kX kY kT kU 2 H.size) (cwV 0 hts gL_law_X7_thrown rfl rfl rfl (by decide +kernel) ⟨Nat.le_of_ble_eq_true rfl, Nat.le_of_ble_eq_true rfl⟩) (fPreV hN hZ hS (fun q h => hFc q h) hPc hKc hDc (ci := 10) (q0 := 0) rfl rfl) rfl rfl hl.1 rfl (lv_room (Nat.le_of_ble_eq_true rfl)) dL_law_1788 ⟨Nat.le_of_ble_eq_true rfl, Nat.le_of_ble_eq_true rfl⟩) hS (fun q _ h => hFc q h) hFc (fun r u t H1 locs ht hvm hw hB hz1 hk1 hS => ?_)
        obtain ⟨hP1, hK1, hD1⟩ := hB
        rw [ht] at hP1
        have hK1 := va_K.moved hvm.symm hK1
        obtain ⟨hP, hD⟩ := va_join (wr := [(oJ, .inl (cJ, 1, .inr (.inl u4)))]) (w1 := []) hP hD [1] [0] rfl rfl (by decide) (by decide) hk1 hFc hP1 hD1
        generalize H1 = H at hP hS ⊢
        have hP : va_P (dC, dI) vwCl [(oJ, .inl (cJ, 1, .inr (.inl u4)))] _ := hP
        have hD : va_D A [(oJ, .inl (cJ, 1, .inr (.inl u4)))] := hD
        subst hw
        refine lv_iload hx hb dL_law_1791 (lv_at hl 1 rfl) ?_
        refine lv_icmp_eq (tgt := 1798) hx hb dL_law_1793 (by decide) (fun _ => ?_) (fun h9 => absurd (by decide) h9)
        refine lv_iload hx hb dL_law_1798 (lv_at hl 1 rfl) ?_
        refine lv_if_ne (tgt := 1815) hx hb dL_law_1800 (by decide) (fun _ => ?_) (fun h9 => absurd h9 (by decide))
        refine lv_goto (tgt := 2720) hx hb dL_law_1815 (by decide) ?_
        refine lv_iinc (v := 7) (lv' := [(5, .int 7), (7, .int r17), (6, .int 2), (4, .ref oD), (3, .ref oJ), (2, .ref k0), (1, .ref h0), (0, .ref b)]) hx hb dL_law_2720 hl (k := 2) rfl (by decide) (Nat.le_of_ble_eq_true rfl) rfl (fun ls hl => ?_)
        refine lv_goto (tgt := 28) hx hb dL_law_2723 (by decide) ?_
        refine lv_iload hx hb dL_law_28 (lv_at hl 0 rfl) ?_
        refine lv_aload_n hx hb dL_law_30 rfl (lv_at hl 7 rfl) ?_
        refine va_slen hx hb hX9 hbl hbA hS dL_law_31 ?_
        refine W.eq (g2 := F0 m 32 ls [.int 7, .int 7]) rfl ?_
        refine lv_bipush (v := 7) hx hb dL_law_32 (by decide) ?_
        refine lv_isub hx hb dL_law_34 ?_
        refine lv_topi (fun y18 ey18 => ?_)
        obtain rfl : y18 = 0 := ey18.trans (by decide)
        refine lv_icmp_gt (tgt := 2726) hx hb dL_law_35 (by decide) (fun _ => ?_) (fun h9 => absurd (by decide) h9)
        refine lv_iconst (v := 1) hx hb dL_law_2726 (by decide) ?_
        refine va_forget (fun q hq => hAe _ (hS.2.2 q hq)) ?_
        refine W.widen (k := 603072) (n := 7198826) (Nat.le_of_ble_eq_true rfl) (Nat.le_of_ble_eq_true rfl) ?_
        exact W.base (lw_ret (d0 := s.drawn) (Drawn.sameBut.refl _ _) hx hb hr hlk dL_law_2727)

set_option maxHeartbeats 4000000 in
set_option maxRecDepth 100000 in
/-- case 25 of the law: partsLike, on fresh objects -/
theorem lc_25 {p : Program} {e : Env} {s : State} {m : MethodId} {below : List Frame} {meth : Method} {c : Code} (l : Launch) (hfl : l.stackTraces = false) {b : Nat} {xs : Nat → Int32} (hx : p.tables.exec = Jvm.exec) (hb : c.code = cL_law) (hr : meth.sig.returnType = ret) (hml : c.maxLocals = 9) (hown : s.vm.findClass RL = some m.cls) (hts : ∀ w ∈ wsL_law, w.before #[Value.ref b] s = true) (hlk : meth.locks = false) (A : Nat → Prop) (hAe : ∀ q, A q → s.heap.size ≤ q) (hA : ∀ q : Nat, s.heap.size ≤ q → A q) (hX9 : va_X b 7 xs s s.heap) (hbl : b < s.heap.size) (hN : fN s) (hZ : fZ A s s.heap) (hX : fX s) (dC : Nat → ClassId) (dI : Nat → Nat → Nat) (h0 w d wL wP wS dL dP dS co un ma tm k0 kN kA kO kK kV kG kP kC kD kE kF kX kY kT kU oJ oD : Nat) (cI cJ : ClassId) {H : Heap} {locs : List Loc} {ls : Array Slot} (hK : va_K (dC, dI) vwCl [(cI, .int), (cJ, .long)] s) (hP : va_P (dC, dI) vwCl [(h0, .inr (9, [.ref w, .ref d, .ref co, .ref un, .ref ma, .ref tm, .int 0, .int 0, .int 0])), (w, .inr (3, [.int 0, .int 0, .ref wL, .ref wP, .ref wS])), (d, .inr (3, [.int 0, .int 0, .ref dL, .ref dP, .ref dS])), (k0, .inr (10, [.ref kN, .ref kA, .ref kO, .ref kK, .ref kV, .ref kG, .ref kP, .ref kC, .ref kD, .ref kE, .ref kF, .ref kX, .ref kY, .int 0, .ref kT, .ref kU, .int 0, .int 0, .int 0])), (kN, .inl (cI, 2, .inl (fun _ => 0))), (kA, .inl (cI, 2, .inl (fun _ => 0))), (oJ, .inl (cJ, 1, .inr (.inl (fun _ => 0))))] H) (hD : va_D A [(h0, .inr (9, [.ref w, .ref d, .ref co, .ref un, .ref ma, .ref tm, .int 0, .int 0, .int 0])), (w, .inr (3, [.int 0, .int 0, .ref wL, .ref wP, .ref wS])), (d, .inr (3, [.int 0, .int 0, .ref dL, .ref dP, .ref dS])), (k0, .inr (10, [.ref kN, .ref kA, .ref kO, .ref kK, .ref kV, .ref kG, .ref kP, .ref kC, .ref kD, .ref kE, .ref kF, .ref kX, .ref kY, .int 0, .ref kT, .ref kU, .int 0, .int 0, .int 0])), (kN, .inl (cI, 2, .inl (fun _ => 0))), (kA, .inl (cI, 2, .inl (fun _ => 0))), (oJ, .inl (cJ, 1, .inr (.inl (fun _ => 0))))]) (hS : va_S A s.heap H locs) (hl : lv_has ls 9 [(5, .int 0), (4, .ref oD), (3, .ref oJ), (2, .ref k0), (1, .ref h0), (0, .ref b)]) : W p l e room_1 s m #[Value.ref b] below meth c H locs 148 2317 (lw_Z below #[Value.ref b] s) (F0 m 1818 ls []) := by
  have hbA : ¬ A b := fun h => Nat.not_le.mpr hbl (hAe _ h)
  have hX0 := hX
  refine lv_aload_n hx hb dL_law_1818 rfl (lv_at hl 4 rfl) ?_
  refine lv_aload_n hx hb dL_law_1819 rfl (lv_at hl 5 rfl) ?_
  refine lv_iload hx hb dL_law_1820 (lv_at hl 0 rfl) ?_
  refine lv_iconst (v := 1) hx hb dL_law_1822 (by decide) ?_
  refine lv_iadd hx hb dL_law_1823 ?_
  refine lv_topi (fun y1 ey1 => ?_)
  obtain rfl : y1 = 1 := ey1.trans (by decide)
  refine va_sld hx hb hX9 hbl hbA hS (show ¬ (_ ∨ _) by decide) dL_law_1824 ?_
  refine W.eq (g2 := F0 m 1825 ls [.int (xs 1), .ref h0]) rfl ?_
  refine lv_aload_n hx hb dL_law_1825 rfl (lv_at hl 5 rfl) ?_
  refine lv_iload hx hb dL_law_1826 (lv_at hl 0 rfl) ?_
  refine lv_iconst (v := 2) hx hb dL_law_1828 (by decide) ?_
  refine lv_iadd hx hb dL_law_1829 ?_
  refine lv_topi (fun y2 ey2 => ?_)
  obtain rfl : y2 = 2 := ey2.trans (by decide)
  refine va_sld hx hb hX9 hbl hbA hS (show ¬ (_ ∨ _) by decide) dL_law_1830 ?_
  refine W.eq (g2 := F0 m 1831 ls [.int (xs 2), .int (xs 1), .ref h0]) rfl ?_
  refine lv_aload_n hx hb dL_law_1831 rfl (lv_at hl 5 rfl) ?_
  refine lv_iload hx hb dL_law_1832 (lv_at hl 0 rfl) ?_
  refine lv_iconst (v := 3) hx hb dL_law_1834 (by decide) ?_
  refine lv_iadd hx hb dL_law_1835 ?_
  refine lv_topi (fun y3 ey3 => ?_)
  obtain rfl : y3 = 3 := ey3.trans (by decide)
  refine va_sld hx hb hX9 hbl hbA hS (show ¬ (_ ∨ _) by decide) dL_law_1836 ?_
  refine W.eq (g2 := F0 m 1837 ls [.int (xs 3), .int (xs 2), .int (xs 1), .ref h0]) rfl ?_
  refine lv_aload_n hx hb dL_law_1837 rfl (lv_at hl 2 rfl) ?_
  have hPc := hP.sub (ws' := [(h0, .inr (9, [.ref w, .ref d, .ref co, .ref un, .ref ma, .ref tm, .int 0, .int 0, .int 0])), (w, .inr (3, [.int 0, .int 0, .ref wL, .ref wP, .ref wS])), (d, .inr (3, [.int 0, .int 0, .ref dL, .ref dP, .ref dS])), (oJ, .inl (cJ, 1, .inr (.inl (fun _ => 0))))]) [0, 1, 2, 6] rfl
  have hDc := hD.sub (ws' := [(h0, .inr (9, [.ref w, .ref d, .ref co, .ref un, .ref ma, .ref tm, .int 0, .int 0, .int 0])), (w, .inr (3, [.int 0, .int 0, .ref wL, .ref wP, .ref wS])), (d, .inr (3, [.int 0, .int 0, .ref dL, .ref dP, .ref dS])), (oJ, .inl (cJ, 1, .inr (.inl (fun _ => 0))))]) [0, 1, 2, 6] (by decide) rfl
  have hKc := hK.sub (tys' := [(cJ, .long)]) [1] rfl
  have hFc := va_free (wc := [(h0, .inr (9, [.ref w, .ref d, .ref co, .ref un, .ref ma, .ref tm, .int 0, .int 0, .int 0])), (w, .inr (3, [.int 0, .int 0, .ref wL, .ref wP, .ref wS])), (d, .inr (3, [.int 0, .int 0, .ref dL, .ref dP, .ref dS])), (oJ, .inl (cJ, 1, .inr (.inl (fun _ => 0))))]) hD hS hA [0, 1, 2, 6] rfl
  refine vx_calli (vx_runSX (As := [.ref h0, .int (xs 1), .int (xs 2), .int (xs 3), .ref oJ]) (rest := []) ⟨hx, hb, hml, hown, hts⟩ (kL_partsLike l hfl dC dI h0 w d co un ma tm wL wP wS dL dP dS oJ cJ (xs 1) (xs 2) (xs 3) H.size) (vx_cwSW 5 hts gL_law_L_partsLike rfl rfl rfl (by decide +kernel) ⟨Nat.le_of_ble_eq_true rfl, Nat.le_of_ble_eq_true rfl⟩) (gPreS hX hN hZ hS (fun q h => hFc q h) hPc hKc hDc) rfl rfl hl.1 rfl (lv_room (Nat.le_of_ble_eq_true rfl)) dL_law_1838 ⟨Nat.le_of_ble_eq_true rfl, Nat.le_of_ble_eq_true rfl⟩) hS (fun q _ h => hFc q h) hFc (fun q _ h => hFc q h) (fun E ce q9 u t H locs ht hvm hpx hE hz1 hk1 hS hq9 hv9 hc9 => ?_) (fun r u t H1 locs ht hvm hw hB hz1 hk1 hS => ?_)
  · skip
    exact hE.elim
  · skip
    obtain ⟨hP1, hK1, hD1⟩ := hB
    rw [ht] at hP1
    have hK1 := va_K.moved hvm.symm hK1
    obtain ⟨u4, rfl⟩ : ∃ z, z = u := ⟨_, rfl⟩
    obtain ⟨hP, hD⟩ := va_join (wr := [(k0, .inr (10, [.ref kN, .ref kA, .ref kO, .ref kK, .ref kV, .ref kG, .ref kP, .ref kC, .ref kD, .ref kE, .ref kF, .ref kX, .ref kY, .int 0, .ref kT, .ref kU, .int 0, .int 0, .int 0])), (kN, .inl (cI, 2, .inl (fun _ => 0))), (kA, .inl (cI, 2, .inl (fun _ => 0)))]) (w1 := [(oJ, .inl (cJ, 1, .inr (.inl u4)))]) hP hD [0, 1, 2, 6] [3, 4, 5] rfl rfl (by decide) (by decide) hk1 hFc hP1 hD1
    generalize H1 = H at hP hS ⊢
    have hP : va_P (dC, dI) vwCl [(k0, .inr (10, [.ref kN, .ref kA, .ref kO, .ref kK, .ref kV, .ref kG, .ref kP, .ref kC, .ref kD, .ref kE, .ref kF, .ref kX, .ref kY, .int 0, .ref kT, .ref kU, .int 0, .int 0, .int 0])), (kN, .inl (cI, 2, .inl (fun _ => 0))), (kA, .inl (cI, 2, .inl (fun _ => 0))), (oJ, .inl (cJ, 1, .inr (.inl u4)))] _ := hP
    have hD : va_D A [(k0, .inr (10, [.ref kN, .ref kA, .ref kO, .ref kK, .ref kV, .ref kG, .ref kP, .ref kC, .ref kD, .ref kE, .ref kF, .ref kX, .ref kY, .int 0, .ref kT, .ref kU, .int 0, .int 0, .int 0])), (kN, .inl (cI, 2, .inl (fun _ => 0))), (kA, .inl (cI, 2, .inl (fun _ => 0))), (oJ, .inl (cJ, 1, .inr (.inl u4)))] := hD
    refine W.widen (k := 151) (n := 2335) (Nat.le_of_ble_eq_true rfl) (Nat.le_of_ble_eq_true rfl) ?_
    rcases hw with ⟨rfl, hf9⟩ | ⟨rfl, hf9⟩
    · skip
      have hf5 := hf9
      refine lv_istore (lv' := [(6, .int 1), (5, .int 0), (4, .ref oD), (3, .ref oJ), (2, .ref k0), (1, .ref h0), (0, .ref b)]) hx hb dL_law_1841 hl (Nat.le_of_ble_eq_true rfl) rfl (fun ls hl => ?_)
      refine lv_aload_n hx hb dL_law_1843 rfl (lv_at hl 4 rfl) ?_
      refine lv_aload_n hx hb dL_law_1844 rfl (lv_at hl 6 rfl) ?_
      refine lv_iload hx hb dL_law_1845 (lv_at hl 1 rfl) ?_
      refine lv_iconst (v := 1) hx hb dL_law_1847 (by decide) ?_
      refine lv_iadd hx hb dL_law_1848 ?_
      refine lv_topi (fun y6 ey6 => ?_)
      obtain rfl : y6 = 1 := ey6.trans (by decide)
      refine va_sld hx hb hX9 hbl hbA hS (show ¬ (_ ∨ _) by decide) dL_law_1849 ?_
      refine W.eq (g2 := F0 m 1850 ls [.int (xs 1), .ref k0]) rfl ?_
      refine lv_aload_n hx hb dL_law_1850 rfl (lv_at hl 6 rfl) ?_
      refine lv_iload hx hb dL_law_1851 (lv_at hl 1 rfl) ?_
      refine lv_iconst (v := 2) hx hb dL_law_1853 (by decide) ?_
      refine lv_iadd hx hb dL_law_1854 ?_
      refine lv_topi (fun y7 ey7 => ?_)
      obtain rfl : y7 = 2 := ey7.trans (by decide)
      refine va_sld hx hb hX9 hbl hbA hS (show ¬ (_ ∨ _) by decide) dL_law_1855 ?_
      refine W.eq (g2 := F0 m 1856 ls [.int (xs 2), .int (xs 1), .ref k0]) rfl ?_
      refine lv_aload_n hx hb dL_law_1856 rfl (lv_at hl 6 rfl) ?_
      refine lv_iload hx hb dL_law_1857 (lv_at hl 1 rfl) ?_
      refine lv_iconst (v := 3) hx hb dL_law_1859 (by decide) ?_
      refine lv_iadd hx hb dL_law_1860 ?_
      refine lv_topi (fun y8 ey8 => ?_)
      obtain rfl : y8 = 3 := ey8.trans (by decide)
      refine va_sld hx hb hX9 hbl hbA hS (show ¬ (_ ∨ _) by decide) dL_law_1861 ?_
      refine W.eq (g2 := F0 m 1862 ls [.int (xs 3), .int (xs 2), .int (xs 1), .ref k0]) rfl ?_
      have hPc := hP.sub (ws' := [(k0, .inr (10, [.ref kN, .ref kA, .ref kO, .ref kK, .ref kV, .ref kG, .ref kP, .ref kC, .ref kD, .ref kE, .ref kF, .ref kX, .ref kY, .int 0, .ref kT, .ref kU, .int 0, .int 0, .int 0])), (kN, .inl (cI, 2, .inl (fun _ => 0))), (kA, .inl (cI, 2, .inl (fun _ => 0)))]) [0, 1, 2] rfl
      have hDc := hD.sub (ws' := [(k0, .inr (10, [.ref kN, .ref kA, .ref kO, .ref kK, .ref kV, .ref kG, .ref kP, .ref kC, .ref kD, .ref kE, .ref kF, .ref kX, .ref kY, .int 0, .ref kT, .ref kU, .int 0, .int 0, .int 0])), (kN, .inl (cI, 2, .inl (fun _ => 0))), (kA, .inl (cI, 2, .inl (fun _ => 0)))]) [0, 1, 2] (by decide) rfl
      have hKc := hK.sub (tys' := [(cI, .int)]) [0] rfl
      have hFc := va_free (wc := [(k0, .inr (10, [.ref kN, .ref kA, .ref kO, .ref kK, .ref kV, .ref kG, .ref kP, .ref kC, .ref kD, .ref kE, .ref kF, .ref kX, .ref kY, .int 0, .ref kT, .ref kU, .int 0, .int 0, .int 0])), (kN, .inl (cI, 2, .inl (fun _ => 0))), (kA, .inl (cI, 2, .inl (fun _ => 0)))]) hD hS hA [0, 1, 2] rfl
      refine va_calli (va_runV (As := [.int (xs 1), .int (xs 2), .int (xs 3)]) (rest := []) ⟨hx, hb, hml, hown, hts⟩ (kX7_partsLike l dC dI k0 kN kA kO kK kV kG kP kC kD kE kF kX kY kT kU cI (xs 1) (xs 2) (xs 3) H.size) (cwV 3 hts gL_law_X7_partsLike rfl rfl rfl (by decide +kernel) ⟨Nat.le_of_ble_eq_true rfl, Nat.le_of_ble_eq_true rfl⟩) (fPreV hN hZ hS (fun q h => hFc q h) hPc hKc hDc (ci := 10) (q0 := 0) rfl rfl) rfl rfl hl.1 rfl (lv_room (Nat.le_of_ble_eq_true rfl)) dL_law_1862 ⟨Nat.le_of_ble_eq_true rfl, Nat.le_of_ble_eq_true rfl⟩) hS (fun q _ h => hFc q h) hFc (fun r u t H1 locs ht hvm hw hB hz1 hk1 hS => ?_)
      obtain ⟨hP1, hK1, hD1⟩ := hB
      rw [ht] at hP1
      have hK1 := va_K.moved hvm.symm hK1
      obtain ⟨u9, rfl⟩ : ∃ z, z = u := ⟨_, rfl⟩
      obtain ⟨hP, hD⟩ := va_join (wr := [(oJ, .inl (cJ, 1, .inr (.inl u4)))]) (w1 := [(k0, .inr (10, [.ref kN, .ref kA, .ref kO, .ref kK, .ref kV, .ref kG, .ref kP, .ref kC, .ref kD, .ref kE, .ref kF, .ref kX, .ref kY, .int 0, .ref kT, .ref kU, .int u9, .int 0, .int 0]))]) hP hD [0, 1, 2] [3] rfl rfl (by decide) (by decide) hk1 hFc hP1 hD1
      generalize H1 = H at hP hS ⊢
      have hP : va_P (dC, dI) vwCl [(oJ, .inl (cJ, 1, .inr (.inl u4))), (k0, .inr (10, [.ref kN, .ref kA, .ref kO, .ref kK, .ref kV, .ref kG, .ref kP, .ref kC, .ref kD, .ref kE, .ref kF, .ref kX, .ref kY, .int 0, .ref kT, .ref kU, .int u9, .int 0, .int 0]))] _ := hP
      have hD : va_D A [(oJ, .inl (cJ, 1, .inr (.inl u4))), (k0, .inr (10, [.ref kN, .ref kA, .ref kO, .ref kK, .ref kV, .ref kG, .ref kP, .ref kC, .ref kD, .ref kE, .ref kF, .ref kX, .ref kY, .int 0, .ref kT, .ref kU, .int u9, .int 0, .int 0]))] := hD
      obtain ⟨r10, rfl⟩ : ∃ z, z = r := ⟨_, rfl⟩
      rcases hw with ⟨rfl, hg9⟩ | ⟨rfl, hg9⟩
      · skip
        have hP : va_P (dC, dI) vwCl [(oJ, .inl (cJ, 1, .inr (.inl u4))), (k0, .inr (10, [.ref kN, .ref kA, .ref kO, .ref kK, .ref kV, .ref kG, .ref kP, .ref kC, .ref kD, .ref kE, .ref kF, .ref kX, .ref kY, .int 0, .ref kT, .ref kU, .int 1, .int 0, .int 0]))] _ := hP
        have hD : va_D A [(oJ, .inl (cJ, 1, .inr (.inl u4))), (k0, .inr (10, [.ref kN, .ref kA, .ref kO, .ref kK, .ref kV, .ref kG, .ref kP, .ref kC, .ref kD, .ref kE, .ref kF, .ref kX, .ref kY, .int 0, .ref kT, .ref kU, .int 1, .int 0, .int 0]))] := hD
        refine lv_istore (lv' := [(7, .int r10), (6, .int 1), (5, .int 0), (4, .ref oD), (3, .ref oJ), (2, .ref k0), (1, .ref h0), (0, .ref b)]) hx hb dL_law_1865 hl (Nat.le_of_ble_eq_true rfl) rfl (fun ls hl => ?_)
        refine lv_aload_n hx hb dL_law_1867 rfl (lv_at hl 5 rfl) ?_
        have hPc := hP.sub (ws' := [(k0, .inr (10, [.ref kN, .ref kA, .ref kO, .ref kK, .ref kV, .ref kG, .ref kP, .ref kC, .ref kD, .ref kE, .ref kF, .ref kX, .ref kY, .int 0, .ref kT, .ref kU, .int 1, .int 0, .int 0]))]) [1] rfl
        have hDc := hD.sub (ws' := [(k0, .inr (10, [.ref kN, .ref kA, .ref kO, .ref kK, .ref kV, .ref kG, .ref kP, .ref kC, .ref kD, .ref kE, .ref kF, .ref kX, .ref kY, .int 0, .ref kT, .ref kU, .int 1, .int 0, .int 0]))]) [1] (by decide) rfl
        have hKc := hK.sub (tys' := []) [] rfl
        have hFc := va_free (wc := [(k0, .inr (10, [.ref kN, .ref kA, .ref kO, .ref kK, .ref kV, .ref kG, .ref kP, .ref kC, .ref kD, .ref kE, .ref kF, .ref kX, .ref kY, .int 0, .ref kT, .ref kU, .int 1, .int 0, .int 0]))]) hD hS hA [1] rfl
        refine va_calli (va_runV (As := []) (rest := []) ⟨hx, hb, hml, hown, hts⟩ (kX7_thrown l dC dI k0 kN kA kO kK kV kG kP kC kD kE kF kX kY kT kU 1 H.size) (cwV 0 hts gL_law_X7_thrown rfl rfl rfl (by decide +kernel) ⟨Nat.le_of_ble_eq_true rfl, Nat.le_of_ble_eq_true rfl⟩) (fPreV hN hZ hS (fun q h => hFc q h) hPc hKc hDc (ci := 10) (q0 := 0) rfl rfl) rfl rfl hl.1 rfl (lv_room (Nat.le_of_ble_eq_true rfl)) dL_law_1868 ⟨Nat.le_of_ble_eq_true rfl, Nat.le_of_ble_eq_true rfl⟩) hS (fun q _ h => hFc q h) hFc (fun r u t H1 locs ht hvm hw hB hz1 hk1 hS => ?_)
        obtain ⟨hP1, hK1, hD1⟩ := hB
        rw [ht] at hP1
        have hK1 := va_K.moved hvm.symm hK1
        obtain ⟨hP, hD⟩ := va_join (wr := [(oJ, .inl (cJ, 1, .inr (.inl u4)))]) (w1 := []) hP hD [1] [0] rfl rfl (by decide) (by decide) hk1 hFc hP1 hD1
        generalize H1 = H at hP hS ⊢
        have hP : va_P (dC, dI) vwCl [(oJ, .inl (cJ, 1, .inr (.inl u4)))] _ := hP
        have hD : va_D A [(oJ, .inl (cJ, 1, .inr (.inl u4)))] := hD
        subst hw
        refine lv_iload hx hb dL_law_1871 (lv_at hl 1 rfl) ?_
        refine lv_icmp_eq (tgt := 1878) hx hb dL_law_1873 (by decide) (fun _ => ?_) (fun h9 => absurd (by decide) h9)
        refine lv_iload hx hb dL_law_1878 (lv_at hl 1 rfl) ?_
        refine lv_if_ne (tgt := 1895) hx hb dL_law_1880 (by decide) (fun _ => ?_) (fun h9 => absurd h9 (by decide))
        refine lv_goto (tgt := 2720) hx hb dL_law_1895 (by decide) ?_
        refine lv_iinc (v := 7) (lv' := [(5, .int 7), (7, .int r10), (6, .int 1), (4, .ref oD), (3, .ref oJ), (2, .ref k0), (1, .ref h0), (0, .ref b)]) hx hb dL_law_2720 hl (k := 2) rfl (by decide) (Nat.le_of_ble_eq_true rfl) rfl (fun ls hl => ?_)
        refine lv_goto (tgt := 28) hx hb dL_law_2723 (by decide) ?_
        refine lv_iload hx hb dL_law_28 (lv_at hl 0 rfl) ?_
        refine lv_aload_n hx hb dL_law_30 rfl (lv_at hl 7 rfl) ?_
        refine va_slen hx hb hX9 hbl hbA hS dL_law_31 ?_
        refine W.eq (g2 := F0 m 32 ls [.int 7, .int 7]) rfl ?_
        refine lv_bipush (v := 7) hx hb dL_law_32 (by decide) ?_
        refine lv_isub hx hb dL_law_34 ?_
        refine lv_topi (fun y11 ey11 => ?_)
        obtain rfl : y11 = 0 := ey11.trans (by decide)
        refine lv_icmp_gt (tgt := 2726) hx hb dL_law_35 (by decide) (fun _ => ?_) (fun h9 => absurd (by decide) h9)
        refine lv_iconst (v := 1) hx hb dL_law_2726 (by decide) ?_
        refine va_forget (fun q hq => hAe _ (hS.2.2 q hq)) ?_
        refine W.widen (k := 603072) (n := 7198826) (Nat.le_of_ble_eq_true rfl) (Nat.le_of_ble_eq_true rfl) ?_
        exact W.base (lw_ret (d0 := s.drawn) (Drawn.sameBut.refl _ _) hx hb hr hlk dL_law_2727)
      · skip
        exact absurd hg9 ((fun h9 => h9 (hf5)))
    · skip
      have hf12 := hf9
      refine lv_istore (lv' := [(6, .int 2), (5, .int 0), (4, .ref oD), (3, .ref oJ), (2, .ref k0), (1, .ref h0), (0, .ref b)]) hx hb dL_law_1841 hl (Nat.le_of_ble_eq_true rfl) rfl (fun ls hl => ?_)
      refine lv_aload_n hx hb dL_law_1843 rfl (lv_at hl 4 rfl) ?_
      refine lv_aload_n hx hb dL_law_1844 rfl (lv_at hl 6 rfl) ?_
      refine lv_iload hx hb dL_law_1845 (lv_at hl 1 rfl) ?_
      refine lv_iconst (v := 1) hx hb dL_law_1847 (by decide) ?_
      refine lv_iadd hx hb dL_law_1848 ?_
      refine lv_topi (fun y13 ey13 => ?_)
      obtain rfl : y13 = 1 := ey13.trans (by decide)
      refine va_sld hx hb hX9 hbl hbA hS (show ¬ (_ ∨ _) by decide) dL_law_1849 ?_
      refine W.eq (g2 := F0 m 1850 ls [.int (xs 1), .ref k0]) rfl ?_
      refine lv_aload_n hx hb dL_law_1850 rfl (lv_at hl 6 rfl) ?_
      refine lv_iload hx hb dL_law_1851 (lv_at hl 1 rfl) ?_
      refine lv_iconst (v := 2) hx hb dL_law_1853 (by decide) ?_
      refine lv_iadd hx hb dL_law_1854 ?_
      refine lv_topi (fun y14 ey14 => ?_)
      obtain rfl : y14 = 2 := ey14.trans (by decide)
      refine va_sld hx hb hX9 hbl hbA hS (show ¬ (_ ∨ _) by decide) dL_law_1855 ?_
      refine W.eq (g2 := F0 m 1856 ls [.int (xs 2), .int (xs 1), .ref k0]) rfl ?_
      refine lv_aload_n hx hb dL_law_1856 rfl (lv_at hl 6 rfl) ?_
      refine lv_iload hx hb dL_law_1857 (lv_at hl 1 rfl) ?_
      refine lv_iconst (v := 3) hx hb dL_law_1859 (by decide) ?_
      refine lv_iadd hx hb dL_law_1860 ?_
      refine lv_topi (fun y15 ey15 => ?_)
      obtain rfl : y15 = 3 := ey15.trans (by decide)
      refine va_sld hx hb hX9 hbl hbA hS (show ¬ (_ ∨ _) by decide) dL_law_1861 ?_
      refine W.eq (g2 := F0 m 1862 ls [.int (xs 3), .int (xs 2), .int (xs 1), .ref k0]) rfl ?_
      have hPc := hP.sub (ws' := [(k0, .inr (10, [.ref kN, .ref kA, .ref kO, .ref kK, .ref kV, .ref kG, .ref kP, .ref kC, .ref kD, .ref kE, .ref kF, .ref kX, .ref kY, .int 0, .ref kT, .ref kU, .int 0, .int 0, .int 0])), (kN, .inl (cI, 2, .inl (fun _ => 0))), (kA, .inl (cI, 2, .inl (fun _ => 0)))]) [0, 1, 2] rfl
      have hDc := hD.sub (ws' := [(k0, .inr (10, [.ref kN, .ref kA, .ref kO, .ref kK, .ref kV, .ref kG, .ref kP, .ref kC, .ref kD, .ref kE, .ref kF, .ref kX, .ref kY, .int 0, .ref kT, .ref kU, .int 0, .int 0, .int 0])), (kN, .inl (cI, 2, .inl (fun _ => 0))), (kA, .inl (cI, 2, .inl (fun _ => 0)))]) [0, 1, 2] (by decide) rfl
      have hKc := hK.sub (tys' := [(cI, .int)]) [0] rfl
      have hFc := va_free (wc := [(k0, .inr (10, [.ref kN, .ref kA, .ref kO, .ref kK, .ref kV, .ref kG, .ref kP, .ref kC, .ref kD, .ref kE, .ref kF, .ref kX, .ref kY, .int 0, .ref kT, .ref kU, .int 0, .int 0, .int 0])), (kN, .inl (cI, 2, .inl (fun _ => 0))), (kA, .inl (cI, 2, .inl (fun _ => 0)))]) hD hS hA [0, 1, 2] rfl
      refine va_calli (va_runV (As := [.int (xs 1), .int (xs 2), .int (xs 3)]) (rest := []) ⟨hx, hb, hml, hown, hts⟩ (kX7_partsLike l dC dI k0 kN kA kO kK kV kG kP kC kD kE kF kX kY kT kU cI (xs 1) (xs 2) (xs 3) H.size) (cwV 3 hts gL_law_X7_partsLike rfl rfl rfl (by decide +kernel) ⟨Nat.le_of_ble_eq_true rfl, Nat.le_of_ble_eq_true rfl⟩) (fPreV hN hZ hS (fun q h => hFc q h) hPc hKc hDc (ci := 10) (q0 := 0) rfl rfl) rfl rfl hl.1 rfl (lv_room (Nat.le_of_ble_eq_true rfl)) dL_law_1862 ⟨Nat.le_of_ble_eq_true rfl, Nat.le_of_ble_eq_true rfl⟩) hS (fun q _ h => hFc q h) hFc (fun r u t H1 locs ht hvm hw hB hz1 hk1 hS => ?_)
      obtain ⟨hP1, hK1, hD1⟩ := hB
      rw [ht] at hP1
      have hK1 := va_K.moved hvm.symm hK1
      obtain ⟨u16, rfl⟩ : ∃ z, z = u := ⟨_, rfl⟩
      obtain ⟨hP, hD⟩ := va_join (wr := [(oJ, .inl (cJ, 1, .inr (.inl u4)))]) (w1 := [(k0, .inr (10, [.ref kN, .ref kA, .ref kO, .ref kK, .ref kV, .ref kG, .ref kP, .ref kC, .ref kD, .ref kE, .ref kF, .ref kX, .ref kY, .int 0, .ref kT, .ref kU, .int u16, .int 0, .int 0]))]) hP hD [0, 1, 2] [3] rfl rfl (by decide) (by decide) hk1 hFc hP1 hD1
      generalize H1 = H at hP hS ⊢
      have hP : va_P (dC, dI) vwCl [(oJ, .inl (cJ, 1, .inr (.inl u4))), (k0, .inr (10, [.ref kN, .ref kA, .ref kO, .ref kK, .ref kV, .ref kG, .ref kP, .ref kC, .ref kD, .ref kE, .ref kF, .ref kX, .ref kY, .int 0, .ref kT, .ref kU, .int u16, .int 0, .int 0]))] _ := hP
      have hD : va_D A [(oJ, .inl (cJ, 1, .inr (.inl u4))), (k0, .inr (10, [.ref kN, .ref kA, .ref kO, .ref kK, .ref kV, .ref kG, .ref kP, .ref kC, .ref kD, .ref kE, .ref kF, .ref kX, .ref kY, .int 0, .ref kT, .ref kU, .int u16, .int 0, .int 0]))] := hD
      obtain ⟨r17, rfl⟩ : ∃ z, z = r := ⟨_, rfl⟩
      rcases hw with ⟨rfl, hg9⟩ | ⟨rfl, hg9⟩
      · skip
        exact absurd hg9 (hf12)
      · skip
        have hP : va_P (dC, dI) vwCl [(oJ, .inl (cJ, 1, .inr (.inl u4))), (k0, .inr (10, [.ref kN, .ref kA, .ref kO, .ref kK, .ref kV, .ref kG, .ref kP, .ref kC, .ref kD, .ref kE, .ref kF, .ref kX, .ref kY, .int 0, .ref kT, .ref kU, .int 2, .int 0, .int 0]))] _ := hP
        have hD : va_D A [(oJ, .inl (cJ, 1, .inr (.inl u4))), (k0, .inr (10, [.ref kN, .ref kA, .ref kO, .ref kK, .ref kV, .ref kG, .ref kP, .ref kC, .ref kD, .ref kE, .ref kF, .ref kX, .ref kY, .int 0, .ref kT, .ref kU, .int 2, .int 0, .int 0]))] := hD
        refine lv_istore (lv' := [(7, .int r17), (6, .int 2), (5, .int 0), (4, .ref oD), (3, .ref oJ), (2, .ref k0), (1, .ref h0), (0, .ref b)]) hx hb dL_law_1865 hl (Nat.le_of_ble_eq_true rfl) rfl (fun ls hl => ?_)
        refine lv_aload_n hx hb dL_law_1867 rfl (lv_at hl 5 rfl) ?_
        have hPc := hP.sub (ws' := [(k0, .inr (10, [.ref kN, .ref kA, .ref kO, .ref kK, .ref kV, .ref kG, .ref kP, .ref kC, .ref kD, .ref kE, .ref kF, .ref kX, .ref kY, .int 0, .ref kT, .ref kU, .int 2, .int 0, .int 0]))]) [1] rfl
        have hDc := hD.sub (ws' := [(k0, .inr (10, [.ref kN, .ref kA, .ref kO, .ref kK, .ref kV, .ref kG, .ref kP, .ref kC, .ref kD, .ref kE, .ref kF, .ref kX, .ref kY, .int 0, .ref kT, .ref kU, .int 2, .int 0, .int 0]))]) [1] (by decide) rfl
        have hKc := hK.sub (tys' := []) [] rfl
        have hFc := va_free (wc := [(k0, .inr (10, [.ref kN, .ref kA, .ref kO, .ref kK, .ref kV, .ref kG, .ref kP, .ref kC, .ref kD, .ref kE, .ref kF, .ref kX, .ref kY, .int 0, .ref kT, .ref kU, .int 2, .int 0, .int 0]))]) hD hS hA [1] rfl
        refine va_calli (va_runV (As := []) (rest := []) ⟨hx, hb, hml, hown, hts⟩ (kX7_thrown l dC dI k0 kN kA kO kK kV kG kP kC kD kE kF kX kY kT kU 2 H.size) (cwV 0 hts gL_law_X7_thrown rfl rfl rfl (by decide +kernel) ⟨Nat.le_of_ble_eq_true rfl, Nat.le_of_ble_eq_true rfl⟩) (fPreV hN hZ hS (fun q h => hFc q h) hPc hKc hDc (ci := 10) (q0 := 0) rfl rfl) rfl rfl hl.1 rfl (lv_room (Nat.le_of_ble_eq_true rfl)) dL_law_1868 ⟨Nat.le_of_ble_eq_true rfl, Nat.le_of_ble_eq_true rfl⟩) hS (fun q _ h => hFc q h) hFc (fun r u t H1 locs ht hvm hw hB hz1 hk1 hS => ?_)
        obtain ⟨hP1, hK1, hD1⟩ := hB
        rw [ht] at hP1
        have hK1 := va_K.moved hvm.symm hK1
        obtain ⟨hP, hD⟩ := va_join (wr := [(oJ, .inl (cJ, 1, .inr (.inl u4)))]) (w1 := []) hP hD [1] [0] rfl rfl (by decide) (by decide) hk1 hFc hP1 hD1
        generalize H1 = H at hP hS ⊢
        have hP : va_P (dC, dI) vwCl [(oJ, .inl (cJ, 1, .inr (.inl u4)))] _ := hP
        have hD : va_D A [(oJ, .inl (cJ, 1, .inr (.inl u4)))] := hD
        subst hw
        refine lv_iload hx hb dL_law_1871 (lv_at hl 1 rfl) ?_
        refine lv_icmp_eq (tgt := 1878) hx hb dL_law_1873 (by decide) (fun _ => ?_) (fun h9 => absurd (by decide) h9)
        refine lv_iload hx hb dL_law_1878 (lv_at hl 1 rfl) ?_
        refine lv_if_ne (tgt := 1895) hx hb dL_law_1880 (by decide) (fun _ => ?_) (fun h9 => absurd h9 (by decide))
        refine lv_goto (tgt := 2720) hx hb dL_law_1895 (by decide) ?_
        refine lv_iinc (v := 7) (lv' := [(5, .int 7), (7, .int r17), (6, .int 2), (4, .ref oD), (3, .ref oJ), (2, .ref k0), (1, .ref h0), (0, .ref b)]) hx hb dL_law_2720 hl (k := 2) rfl (by decide) (Nat.le_of_ble_eq_true rfl) rfl (fun ls hl => ?_)
        refine lv_goto (tgt := 28) hx hb dL_law_2723 (by decide) ?_
        refine lv_iload hx hb dL_law_28 (lv_at hl 0 rfl) ?_
        refine lv_aload_n hx hb dL_law_30 rfl (lv_at hl 7 rfl) ?_
        refine va_slen hx hb hX9 hbl hbA hS dL_law_31 ?_
        refine W.eq (g2 := F0 m 32 ls [.int 7, .int 7]) rfl ?_
        refine lv_bipush (v := 7) hx hb dL_law_32 (by decide) ?_
        refine lv_isub hx hb dL_law_34 ?_
        refine lv_topi (fun y18 ey18 => ?_)
        obtain rfl : y18 = 0 := ey18.trans (by decide)
        refine lv_icmp_gt (tgt := 2726) hx hb dL_law_35 (by decide) (fun _ => ?_) (fun h9 => absurd (by decide) h9)
        refine lv_iconst (v := 1) hx hb dL_law_2726 (by decide) ?_
        refine va_forget (fun q hq => hAe _ (hS.2.2 q hq)) ?_
        refine W.widen (k := 603072) (n := 7198826) (Nat.le_of_ble_eq_true rfl) (Nat.le_of_ble_eq_true rfl) ?_
        exact W.base (lw_ret (d0 := s.drawn) (Drawn.sameBut.refl _ _) hx hb hr hlk dL_law_2727)

set_option maxHeartbeats 4000000 in
set_option maxRecDepth 100000 in
/-- case 26 of the law: areAlike, on fresh objects -/
theorem lc_26 {p : Program} {e : Env} {s : State} {m : MethodId} {below : List Frame} {meth : Method} {c : Code} (l : Launch) (hfl : l.stackTraces = false) {b : Nat} {xs : Nat → Int32} (hx : p.tables.exec = Jvm.exec) (hb : c.code = cL_law) (hr : meth.sig.returnType = ret) (hml : c.maxLocals = 9) (hown : s.vm.findClass RL = some m.cls) (hts : ∀ w ∈ wsL_law, w.before #[Value.ref b] s = true) (hlk : meth.locks = false) (A : Nat → Prop) (hAe : ∀ q, A q → s.heap.size ≤ q) (hA : ∀ q : Nat, s.heap.size ≤ q → A q) (hX9 : va_X b 7 xs s s.heap) (hbl : b < s.heap.size) (hN : fN s) (hZ : fZ A s s.heap) (hX : fX s) (dC : Nat → ClassId) (dI : Nat → Nat → Nat) (h0 w d wL wP wS dL dP dS co un ma tm k0 kN kA kO kK kV kG kP kC kD kE kF kX kY kT kU oJ oD : Nat) (cI cJ : ClassId) {H : Heap} {locs : List Loc} {ls : Array Slot} (hK : va_K (dC, dI) vwCl [(cI, .int), (cJ, .long)] s) (hP : va_P (dC, dI) vwCl [(h0, .inr (9, [.ref w, .ref d, .ref co, .ref un, .ref ma, .ref tm, .int 0, .int 0, .int 0])), (w, .inr (3, [.int 0, .int 0, .ref wL, .ref wP, .ref wS])), (d, .inr (3, [.int 0, .int 0, .ref dL, .ref dP, .ref dS])), (k0, .inr (10, [.ref kN, .ref kA, .ref kO, .ref kK, .ref kV, .ref kG, .ref kP, .ref kC, .ref kD, .ref kE, .ref kF, .ref kX, .ref kY, .int 0, .ref kT, .ref kU, .int 0, .int 0, .int 0])), (kN, .inl (cI, 2, .inl (fun _ => 0))), (kA, .inl (cI, 2, .inl (fun _ => 0))), (oJ, .inl (cJ, 1, .inr (.inl (fun _ => 0))))] H) (hD : va_D A [(h0, .inr (9, [.ref w, .ref d, .ref co, .ref un, .ref ma, .ref tm, .int 0, .int 0, .int 0])), (w, .inr (3, [.int 0, .int 0, .ref wL, .ref wP, .ref wS])), (d, .inr (3, [.int 0, .int 0, .ref dL, .ref dP, .ref dS])), (k0, .inr (10, [.ref kN, .ref kA, .ref kO, .ref kK, .ref kV, .ref kG, .ref kP, .ref kC, .ref kD, .ref kE, .ref kF, .ref kX, .ref kY, .int 0, .ref kT, .ref kU, .int 0, .int 0, .int 0])), (kN, .inl (cI, 2, .inl (fun _ => 0))), (kA, .inl (cI, 2, .inl (fun _ => 0))), (oJ, .inl (cJ, 1, .inr (.inl (fun _ => 0))))]) (hS : va_S A s.heap H locs) (hl : lv_has ls 9 [(5, .int 0), (4, .ref oD), (3, .ref oJ), (2, .ref k0), (1, .ref h0), (0, .ref b)]) : W p l e room_1 s m #[Value.ref b] below meth c H locs 148 2317 (lw_Z below #[Value.ref b] s) (F0 m 1898 ls []) := by
  have hbA : ¬ A b := fun h => Nat.not_le.mpr hbl (hAe _ h)
  have hX0 := hX
  refine lv_aload_n hx hb dL_law_1898 rfl (lv_at hl 4 rfl) ?_
  refine lv_aload_n hx hb dL_law_1899 rfl (lv_at hl 5 rfl) ?_
  refine lv_iload hx hb dL_law_1900 (lv_at hl 0 rfl) ?_
  refine lv_iconst (v := 1) hx hb dL_law_1902 (by decide) ?_
  refine lv_iadd hx hb dL_law_1903 ?_
  refine lv_topi (fun y1 ey1 => ?_)
  obtain rfl : y1 = 1 := ey1.trans (by decide)
  refine va_sld hx hb hX9 hbl hbA hS (show ¬ (_ ∨ _) by decide) dL_law_1904 ?_
  refine W.eq (g2 := F0 m 1905 ls [.int (xs 1), .ref h0]) rfl ?_
  refine lv_aload_n hx hb dL_law_1905 rfl (lv_at hl 5 rfl) ?_
  refine lv_iload hx hb dL_law_1906 (lv_at hl 0 rfl) ?_
  refine lv_iconst (v := 2) hx hb dL_law_1908 (by decide) ?_
  refine lv_iadd hx hb dL_law_1909 ?_
  refine lv_topi (fun y2 ey2 => ?_)
  obtain rfl : y2 = 2 := ey2.trans (by decide)
  refine va_sld hx hb hX9 hbl hbA hS (show ¬ (_ ∨ _) by decide) dL_law_1910 ?_
  refine W.eq (g2 := F0 m 1911 ls [.int (xs 2), .int (xs 1), .ref h0]) rfl ?_
  refine lv_aload_n hx hb dL_law_1911 rfl (lv_at hl 2 rfl) ?_
  have hPc := hP.sub (ws' := [(h0, .inr (9, [.ref w, .ref d, .ref co, .ref un, .ref ma, .ref tm, .int 0, .int 0, .int 0])), (w, .inr (3, [.int 0, .int 0, .ref wL, .ref wP, .ref wS])), (d, .inr (3, [.int 0, .int 0, .ref dL, .ref dP, .ref dS])), (oJ, .inl (cJ, 1, .inr (.inl (fun _ => 0))))]) [0, 1, 2, 6] rfl
  have hDc := hD.sub (ws' := [(h0, .inr (9, [.ref w, .ref d, .ref co, .ref un, .ref ma, .ref tm, .int 0, .int 0, .int 0])), (w, .inr (3, [.int 0, .int 0, .ref wL, .ref wP, .ref wS])), (d, .inr (3, [.int 0, .int 0, .ref dL, .ref dP, .ref dS])), (oJ, .inl (cJ, 1, .inr (.inl (fun _ => 0))))]) [0, 1, 2, 6] (by decide) rfl
  have hKc := hK.sub (tys' := [(cJ, .long)]) [1] rfl
  have hFc := va_free (wc := [(h0, .inr (9, [.ref w, .ref d, .ref co, .ref un, .ref ma, .ref tm, .int 0, .int 0, .int 0])), (w, .inr (3, [.int 0, .int 0, .ref wL, .ref wP, .ref wS])), (d, .inr (3, [.int 0, .int 0, .ref dL, .ref dP, .ref dS])), (oJ, .inl (cJ, 1, .inr (.inl (fun _ => 0))))]) hD hS hA [0, 1, 2, 6] rfl
  refine vx_calli (vx_runSX (As := [.ref h0, .int (xs 1), .int (xs 2), .ref oJ]) (rest := []) ⟨hx, hb, hml, hown, hts⟩ (kL_areAlike l hfl dC dI h0 w d co un ma tm wL wP wS dL dP dS oJ cJ (xs 1) (xs 2) H.size) (vx_cwSW 4 hts gL_law_L_areAlike rfl rfl rfl (by decide +kernel) ⟨Nat.le_of_ble_eq_true rfl, Nat.le_of_ble_eq_true rfl⟩) (gPreS hX hN hZ hS (fun q h => hFc q h) hPc hKc hDc) rfl rfl hl.1 rfl (lv_room (Nat.le_of_ble_eq_true rfl)) dL_law_1912 ⟨Nat.le_of_ble_eq_true rfl, Nat.le_of_ble_eq_true rfl⟩) hS (fun q _ h => hFc q h) hFc (fun q _ h => hFc q h) (fun E ce q9 u t H locs ht hvm hpx hE hz1 hk1 hS hq9 hv9 hc9 => ?_) (fun r u t H1 locs ht hvm hw hB hz1 hk1 hS => ?_)
  · skip
    exact hE.elim
  · skip
    obtain ⟨hP1, hK1, hD1⟩ := hB
    rw [ht] at hP1
    have hK1 := va_K.moved hvm.symm hK1
    obtain ⟨u3, rfl⟩ : ∃ z, z = u := ⟨_, rfl⟩
    obtain ⟨hP, hD⟩ := va_join (wr := [(k0, .inr (10, [.ref kN, .ref kA, .ref kO, .ref kK, .ref kV, .ref kG, .ref kP, .ref kC, .ref kD, .ref kE, .ref kF, .ref kX, .ref kY, .int 0, .ref kT, .ref kU, .int 0, .int 0, .int 0])), (kN, .inl (cI, 2, .inl (fun _ => 0))), (kA, .inl (cI, 2, .inl (fun _ => 0)))]) (w1 := [(oJ, .inl (cJ, 1, .inr (.inl u3)))]) hP hD [0, 1, 2, 6] [3, 4, 5] rfl rfl (by decide) (by decide) hk1 hFc hP1 hD1
    generalize H1 = H at hP hS ⊢
    have hP : va_P (dC, dI) vwCl [(k0, .inr (10, [.ref kN, .ref kA, .ref kO, .ref kK, .ref kV, .ref kG, .ref kP, .ref kC, .ref kD, .ref kE, .ref kF, .ref kX, .ref kY, .int 0, .ref kT, .ref kU, .int 0, .int 0, .int 0])), (kN, .inl (cI, 2, .inl (fun _ => 0))), (kA, .inl (cI, 2, .inl (fun _ => 0))), (oJ, .inl (cJ, 1, .inr (.inl u3)))] _ := hP
    have hD : va_D A [(k0, .inr (10, [.ref kN, .ref kA, .ref kO, .ref kK, .ref kV, .ref kG, .ref kP, .ref kC, .ref kD, .ref kE, .ref kF, .ref kX, .ref kY, .int 0, .ref kT, .ref kU, .int 0, .int 0, .int 0])), (kN, .inl (cI, 2, .inl (fun _ => 0))), (kA, .inl (cI, 2, .inl (fun _ => 0))), (oJ, .inl (cJ, 1, .inr (.inl u3)))] := hD
    refine W.widen (k := 149) (n := 2323) (Nat.le_of_ble_eq_true rfl) (Nat.le_of_ble_eq_true rfl) ?_
    subst hw
    refine lv_istore (lv' := [(6, .int 1), (5, .int 0), (4, .ref oD), (3, .ref oJ), (2, .ref k0), (1, .ref h0), (0, .ref b)]) hx hb dL_law_1915 hl (Nat.le_of_ble_eq_true rfl) rfl (fun ls hl => ?_)
    refine lv_aload_n hx hb dL_law_1917 rfl (lv_at hl 4 rfl) ?_
    refine lv_aload_n hx hb dL_law_1918 rfl (lv_at hl 6 rfl) ?_
    refine lv_iload hx hb dL_law_1919 (lv_at hl 1 rfl) ?_
    refine lv_iconst (v := 1) hx hb dL_law_1921 (by decide) ?_
    refine lv_iadd hx hb dL_law_1922 ?_
    refine lv_topi (fun y4 ey4 => ?_)
    obtain rfl : y4 = 1 := ey4.trans (by decide)
    refine va_sld hx hb hX9 hbl hbA hS (show ¬ (_ ∨ _) by decide) dL_law_1923 ?_
    refine W.eq (g2 := F0 m 1924 ls [.int (xs 1), .ref k0]) rfl ?_
    refine lv_aload_n hx hb dL_law_1924 rfl (lv_at hl 6 rfl) ?_
    refine lv_iload hx hb dL_law_1925 (lv_at hl 1 rfl) ?_
    refine lv_iconst (v := 2) hx hb dL_law_1927 (by decide) ?_
    refine lv_iadd hx hb dL_law_1928 ?_
    refine lv_topi (fun y5 ey5 => ?_)
    obtain rfl : y5 = 2 := ey5.trans (by decide)
    refine va_sld hx hb hX9 hbl hbA hS (show ¬ (_ ∨ _) by decide) dL_law_1929 ?_
    refine W.eq (g2 := F0 m 1930 ls [.int (xs 2), .int (xs 1), .ref k0]) rfl ?_
    have hPc := hP.sub (ws' := [(k0, .inr (10, [.ref kN, .ref kA, .ref kO, .ref kK, .ref kV, .ref kG, .ref kP, .ref kC, .ref kD, .ref kE, .ref kF, .ref kX, .ref kY, .int 0, .ref kT, .ref kU, .int 0, .int 0, .int 0])), (kN, .inl (cI, 2, .inl (fun _ => 0))), (kA, .inl (cI, 2, .inl (fun _ => 0)))]) [0, 1, 2] rfl
    have hDc := hD.sub (ws' := [(k0, .inr (10, [.ref kN, .ref kA, .ref kO, .ref kK, .ref kV, .ref kG, .ref kP, .ref kC, .ref kD, .ref kE, .ref kF, .ref kX, .ref kY, .int 0, .ref kT, .ref kU, .int 0, .int 0, .int 0])), (kN, .inl (cI, 2, .inl (fun _ => 0))), (kA, .inl (cI, 2, .inl (fun _ => 0)))]) [0, 1, 2] (by decide) rfl
    have hKc := hK.sub (tys' := [(cI, .int)]) [0] rfl
    have hFc := va_free (wc := [(k0, .inr (10, [.ref kN, .ref kA, .ref kO, .ref kK, .ref kV, .ref kG, .ref kP, .ref kC, .ref kD, .ref kE, .ref kF, .ref kX, .ref kY, .int 0, .ref kT, .ref kU, .int 0, .int 0, .int 0])), (kN, .inl (cI, 2, .inl (fun _ => 0))), (kA, .inl (cI, 2, .inl (fun _ => 0)))]) hD hS hA [0, 1, 2] rfl
    refine va_calli (va_runV (As := [.int (xs 1), .int (xs 2)]) (rest := []) ⟨hx, hb, hml, hown, hts⟩ (kX7_areAlike l dC dI k0 kN kA kO kK kV kG kP kC kD kE kF kX kY kT kU cI (xs 1) (xs 2) H.size) (cwV 2 hts gL_law_X7_areAlike rfl rfl rfl (by decide +kernel) ⟨Nat.le_of_ble_eq_true rfl, Nat.le_of_ble_eq_true rfl⟩) (fPreV hN hZ hS (fun q h => hFc q h) hPc hKc hDc (ci := 10) (q0 := 0) rfl rfl) rfl rfl hl.1 rfl (lv_room (Nat.le_of_ble_eq_true rfl)) dL_law_1930 ⟨Nat.le_of_ble_eq_true rfl, Nat.le_of_ble_eq_true rfl⟩) hS (fun q _ h => hFc q h) hFc (fun r u t H1 locs ht hvm hw hB hz1 hk1 hS => ?_)
    obtain ⟨hP1, hK1, hD1⟩ := hB
    rw [ht] at hP1
    have hK1 := va_K.moved hvm.symm hK1
    obtain ⟨u6, rfl⟩ : ∃ z, z = u := ⟨_, rfl⟩
    obtain ⟨hP, hD⟩ := va_join (wr := [(oJ, .inl (cJ, 1, .inr (.inl u3)))]) (w1 := [(k0, .inr (10, [.ref kN, .ref kA, .ref kO, .ref kK, .ref kV, .ref kG, .ref kP, .ref kC, .ref kD, .ref kE, .ref kF, .ref kX, .ref kY, .int 0, .ref kT, .ref kU, .int u6, .int 0, .int 0]))]) hP hD [0, 1, 2] [3] rfl rfl (by decide) (by decide) hk1 hFc hP1 hD1
    generalize H1 = H at hP hS ⊢
    have hP : va_P (dC, dI) vwCl [(oJ, .inl (cJ, 1, .inr (.inl u3))), (k0, .inr (10, [.ref kN, .ref kA, .ref kO, .ref kK, .ref kV, .ref kG, .ref kP, .ref kC, .ref kD, .ref kE, .ref kF, .ref kX, .ref kY, .int 0, .ref kT, .ref kU, .int u6, .int 0, .int 0]))] _ := hP
    have hD : va_D A [(oJ, .inl (cJ, 1, .inr (.inl u3))), (k0, .inr (10, [.ref kN, .ref kA, .ref kO, .ref kK, .ref kV, .ref kG, .ref kP, .ref kC, .ref kD, .ref kE, .ref kF, .ref kX, .ref kY, .int 0, .ref kT, .ref kU, .int u6, .int 0, .int 0]))] := hD
    obtain ⟨r7, rfl⟩ : ∃ z, z = r := ⟨_, rfl⟩
    subst hw
    have hP : va_P (dC, dI) vwCl [(oJ, .inl (cJ, 1, .inr (.inl u3))), (k0, .inr (10, [.ref kN, .ref kA, .ref kO, .ref kK, .ref kV, .ref kG, .ref kP, .ref kC, .ref kD, .ref kE, .ref kF, .ref kX, .ref kY, .int 0, .ref kT, .ref kU, .int 1, .int 0, .int 0]))] _ := hP
    have hD : va_D A [(oJ, .inl (cJ, 1, .inr (.inl u3))), (k0, .inr (10, [.ref kN, .ref kA, .ref kO, .ref kK, .ref kV, .ref kG, .ref kP, .ref kC, .ref kD, .ref kE, .ref kF, .ref kX, .ref kY, .int 0, .ref kT, .ref kU, .int 1, .int 0, .int 0]))] := hD
    refine lv_istore (lv' := [(7, .int r7), (6, .int 1), (5, .int 0), (4, .ref oD), (3, .ref oJ), (2, .ref k0), (1, .ref h0), (0, .ref b)]) hx hb dL_law_1933 hl (Nat.le_of_ble_eq_true rfl) rfl (fun ls hl => ?_)
    refine lv_aload_n hx hb dL_law_1935 rfl (lv_at hl 5 rfl) ?_
    have hPc := hP.sub (ws' := [(k0, .inr (10, [.ref kN, .ref kA, .ref kO, .ref kK, .ref kV, .ref kG, .ref kP, .ref kC, .ref kD, .ref kE, .ref kF, .ref kX, .ref kY, .int 0, .ref kT, .ref kU, .int 1, .int 0, .int 0]))]) [1] rfl
    have hDc := hD.sub (ws' := [(k0, .inr (10, [.ref kN, .ref kA, .ref kO, .ref kK, .ref kV, .ref kG, .ref kP, .ref kC, .ref kD, .ref kE, .ref kF, .ref kX, .ref kY, .int 0, .ref kT, .ref kU, .int 1, .int 0, .int 0]))]) [1] (by decide) rfl
    have hKc := hK.sub (tys' := []) [] rfl
    have hFc := va_free (wc := [(k0, .inr (10, [.ref kN, .ref kA, .ref kO, .ref kK, .ref kV, .ref kG, .ref kP, .ref kC, .ref kD, .ref kE, .ref kF, .ref kX, .ref kY, .int 0, .ref kT, .ref kU, .int 1, .int 0, .int 0]))]) hD hS hA [1] rfl
    refine va_calli (va_runV (As := []) (rest := []) ⟨hx, hb, hml, hown, hts⟩ (kX7_thrown l dC dI k0 kN kA kO kK kV kG kP kC kD kE kF kX kY kT kU 1 H.size) (cwV 0 hts gL_law_X7_thrown rfl rfl rfl (by decide +kernel) ⟨Nat.le_of_ble_eq_true rfl, Nat.le_of_ble_eq_true rfl⟩) (fPreV hN hZ hS (fun q h => hFc q h) hPc hKc hDc (ci := 10) (q0 := 0) rfl rfl) rfl rfl hl.1 rfl (lv_room (Nat.le_of_ble_eq_true rfl)) dL_law_1936 ⟨Nat.le_of_ble_eq_true rfl, Nat.le_of_ble_eq_true rfl⟩) hS (fun q _ h => hFc q h) hFc (fun r u t H1 locs ht hvm hw hB hz1 hk1 hS => ?_)
    obtain ⟨hP1, hK1, hD1⟩ := hB
    rw [ht] at hP1
    have hK1 := va_K.moved hvm.symm hK1
    obtain ⟨hP, hD⟩ := va_join (wr := [(oJ, .inl (cJ, 1, .inr (.inl u3)))]) (w1 := []) hP hD [1] [0] rfl rfl (by decide) (by decide) hk1 hFc hP1 hD1
    generalize H1 = H at hP hS ⊢
    have hP : va_P (dC, dI) vwCl [(oJ, .inl (cJ, 1, .inr (.inl u3)))] _ := hP
    have hD : va_D A [(oJ, .inl (cJ, 1, .inr (.inl u3)))] := hD
    subst hw
    refine lv_iload hx hb dL_law_1939 (lv_at hl 1 rfl) ?_
    refine lv_icmp_eq (tgt := 1946) hx hb dL_law_1941 (by decide) (fun _ => ?_) (fun h9 => absurd (by decide) h9)
    refine lv_iload hx hb dL_law_1946 (lv_at hl 1 rfl) ?_
    refine lv_if_ne (tgt := 1970) hx hb dL_law_1948 (by decide) (fun _ => ?_) (fun h9 => absurd h9 (by decide))
    refine lv_goto (tgt := 2720) hx hb dL_law_1970 (by decide) ?_
    refine lv_iinc (v := 7) (lv' := [(5, .int 7), (7, .int r7), (6, .int 1), (4, .ref oD), (3, .ref oJ), (2, .ref k0), (1, .ref h0), (0, .ref b)]) hx hb dL_law_2720 hl (k := 2) rfl (by decide) (Nat.le_of_ble_eq_true rfl) rfl (fun ls hl => ?_)
    refine lv_goto (tgt := 28) hx hb dL_law_2723 (by decide) ?_
    refine lv_iload hx hb dL_law_28 (lv_at hl 0 rfl) ?_
    refine lv_aload_n hx hb dL_law_30 rfl (lv_at hl 7 rfl) ?_
    refine va_slen hx hb hX9 hbl hbA hS dL_law_31 ?_
    refine W.eq (g2 := F0 m 32 ls [.int 7, .int 7]) rfl ?_
    refine lv_bipush (v := 7) hx hb dL_law_32 (by decide) ?_
    refine lv_isub hx hb dL_law_34 ?_
    refine lv_topi (fun y8 ey8 => ?_)
    obtain rfl : y8 = 0 := ey8.trans (by decide)
    refine lv_icmp_gt (tgt := 2726) hx hb dL_law_35 (by decide) (fun _ => ?_) (fun h9 => absurd (by decide) h9)
    refine lv_iconst (v := 1) hx hb dL_law_2726 (by decide) ?_
    refine va_forget (fun q hq => hAe _ (hS.2.2 q hq)) ?_
    refine W.widen (k := 603072) (n := 7198826) (Nat.le_of_ble_eq_true rfl) (Nat.le_of_ble_eq_true rfl) ?_
    exact W.base (lw_ret (d0 := s.drawn) (Drawn.sameBut.refl _ _) hx hb hr hlk dL_law_2727)

set_option maxHeartbeats 4000000 in
set_option maxRecDepth 100000 in
/-- case 27 of the law: isMatched, on fresh objects -/
theorem lc_27 {p : Program} {e : Env} {s : State} {m : MethodId} {below : List Frame} {meth : Method} {c : Code} (l : Launch) (hfl : l.stackTraces = false) {b : Nat} {xs : Nat → Int32} (hx : p.tables.exec = Jvm.exec) (hb : c.code = cL_law) (hr : meth.sig.returnType = ret) (hml : c.maxLocals = 9) (hown : s.vm.findClass RL = some m.cls) (hts : ∀ w ∈ wsL_law, w.before #[Value.ref b] s = true) (hlk : meth.locks = false) (A : Nat → Prop) (hAe : ∀ q, A q → s.heap.size ≤ q) (hA : ∀ q : Nat, s.heap.size ≤ q → A q) (hX9 : va_X b 7 xs s s.heap) (hbl : b < s.heap.size) (hN : fN s) (hZ : fZ A s s.heap) (hX : fX s) (dC : Nat → ClassId) (dI : Nat → Nat → Nat) (h0 w d wL wP wS dL dP dS co on onR onL onC onD op opR opL opC opD un unK ma maI maO maP tm k0 kN kA kO kK kV kG kP kC kD kE kF kX kY kT kU oJ oD : Nat) (cI : ClassId) {H : Heap} {locs : List Loc} {ls : Array Slot} (hK : va_K (dC, dI) vwCl [(cI, .int)] s) (hP : va_P (dC, dI) vwCl [(h0, .inr (9, [.ref w, .ref d, .ref co, .ref un, .ref ma, .ref tm, .int 0, .int 0, .int 0])), (co, .inr (4, [.ref w, .ref d, .ref on, .ref op, .int 0])), (w, .inr (3, [.int 0, .int 0, .ref wL, .ref wP, .ref wS])), (d, .inr (3, [.int 0, .int 0, .ref dL, .ref dP, .ref dS])), (on, .inr (7, [.ref onR, .ref onL, .ref onC, .ref onD, .int 0])), (onL, .inl (cI, 20, .inl (fun _ => 0))), (onC, .inl (cI, 20, .inl (fun _ => 0))), (op, .inr (7, [.ref opR, .ref opL, .ref opC, .ref opD, .int 0])), (opL, .inl (cI, 20, .inl (fun _ => 0))), (opC, .inl (cI, 20, .inl (fun _ => 0))), (un, .inr (5, [.ref unK, .int 0])), (ma, .inr (6, [.ref w, .ref d, .ref maI, .ref maO, .ref maP, .int 0])), (maI, .inl (cI, 10, .inl (fun _ => 0))), (maO, .inl (cI, 10, .inl (fun _ => 0))), (k0, .inr (10, [.ref kN, .ref kA, .ref kO, .ref kK, .ref kV, .ref kG, .ref kP, .ref kC, .ref kD, .ref kE, .ref kF, .ref kX, .ref kY, .int 0, .ref kT, .ref kU, .int 0, .int 0, .int 0])), (kN, .inl (cI, 2, .inl (fun _ => 0))), (kA, .inl (cI, 2, .inl (fun _ => 0))), (kC, .inl (cI, 20, .inl (fun _ => 0))), (kD, .inl (cI, 20, .inl (fun _ => 0))), (kE, .inl (cI, 20, .inl (fun _ => 0))), (kF, .inl (cI, 20, .inl (fun _ => 0)))] H) (hD : va_D A [(h0, .inr (9, [.ref w, .ref d, .ref co, .ref un, .ref ma, .ref tm, .int 0, .int 0, .int 0])), (co, .inr (4, [.ref w, .ref d, .ref on, .ref op, .int 0])), (w, .inr (3, [.int 0, .int 0, .ref wL, .ref wP, .ref wS])), (d, .inr (3, [.int 0, .int 0, .ref dL, .ref dP, .ref dS])), (on, .inr (7, [.ref onR, .ref onL, .ref onC, .ref onD, .int 0])), (onL, .inl (cI, 20, .inl (fun _ => 0))), (onC, .inl (cI, 20, .inl (fun _ => 0))), (op, .inr (7, [.ref opR, .ref opL, .ref opC, .ref opD, .int 0])), (opL, .inl (cI, 20, .inl (fun _ => 0))), (opC, .inl (cI, 20, .inl (fun _ => 0))), (un, .inr (5, [.ref unK, .int 0])), (ma, .inr (6, [.ref w, .ref d, .ref maI, .ref maO, .ref maP, .int 0])), (maI, .inl (cI, 10, .inl (fun _ => 0))), (maO, .inl (cI, 10, .inl (fun _ => 0))), (k0, .inr (10, [.ref kN, .ref kA, .ref kO, .ref kK, .ref kV, .ref kG, .ref kP, .ref kC, .ref kD, .ref kE, .ref kF, .ref kX, .ref kY, .int 0, .ref kT, .ref kU, .int 0, .int 0, .int 0])), (kN, .inl (cI, 2, .inl (fun _ => 0))), (kA, .inl (cI, 2, .inl (fun _ => 0))), (kC, .inl (cI, 20, .inl (fun _ => 0))), (kD, .inl (cI, 20, .inl (fun _ => 0))), (kE, .inl (cI, 20, .inl (fun _ => 0))), (kF, .inl (cI, 20, .inl (fun _ => 0)))]) (hS : va_S A s.heap H locs) (hl : lv_has ls 9 [(5, .int 0), (4, .ref oD), (3, .ref oJ), (2, .ref k0), (1, .ref h0), (0, .ref b)]) : W p l e room_1 s m #[Value.ref b] below meth c H locs 148 2317 (lw_Z below #[Value.ref b] s) (F0 m 1973 ls []) := by
  have hbA : ¬ A b := fun h => Nat.not_le.mpr hbl (hAe _ h)
  have hX0 := hX
  refine lv_aload_n hx hb dL_law_1973 rfl (lv_at hl 4 rfl) ?_
  have hPc := hP.sub (ws' := [(h0, .inr (9, [.ref w, .ref d, .ref co, .ref un, .ref ma, .ref tm, .int 0, .int 0, .int 0])), (co, .inr (4, [.ref w, .ref d, .ref on, .ref op, .int 0])), (w, .inr (3, [.int 0, .int 0, .ref wL, .ref wP, .ref wS])), (d, .inr (3, [.int 0, .int 0, .ref dL, .ref dP, .ref dS])), (on, .inr (7, [.ref onR, .ref onL, .ref onC, .ref onD, .int 0])), (onL, .inl (cI, 20, .inl (fun _ => 0))), (onC, .inl (cI, 20, .inl (fun _ => 0))), (op, .inr (7, [.ref opR, .ref opL, .ref opC, .ref opD, .int 0])), (opL, .inl (cI, 20, .inl (fun _ => 0))), (opC, .inl (cI, 20, .inl (fun _ => 0))), (un, .inr (5, [.ref unK, .int 0])), (ma, .inr (6, [.ref w, .ref d, .ref maI, .ref maO, .ref maP, .int 0])), (maI, .inl (cI, 10, .inl (fun _ => 0))), (maO, .inl (cI, 10, .inl (fun _ => 0)))]) [0, 1, 2, 3, 4, 5, 6, 7, 8, 9, 10, 11, 12, 13] rfl
  have hDc := hD.sub (ws' := [(h0, .inr (9, [.ref w, .ref d, .ref co, .ref un, .ref ma, .ref tm, .int 0, .int 0, .int 0])), (co, .inr (4, [.ref w, .ref d, .ref on, .ref op, .int 0])), (w, .inr (3, [.int 0, .int 0, .ref wL, .ref wP, .ref wS])), (d, .inr (3, [.int 0, .int 0, .ref dL, .ref dP, .ref dS])), (on, .inr (7, [.ref onR, .ref onL, .ref onC, .ref onD, .int 0])), (onL, .inl (cI, 20, .inl (fun _ => 0))), (onC, .inl (cI, 20, .inl (fun _ => 0))), (op, .inr (7, [.ref opR, .ref opL, .ref opC, .ref opD, .int 0])), (opL, .inl (cI, 20, .inl (fun _ => 0))), (opC, .inl (cI, 20, .inl (fun _ => 0))), (un, .inr (5, [.ref unK, .int 0])), (ma, .inr (6, [.ref w, .ref d, .ref maI, .ref maO, .ref maP, .int 0])), (maI, .inl (cI, 10, .inl (fun _ => 0))), (maO, .inl (cI, 10, .inl (fun _ => 0)))]) [0, 1, 2, 3, 4, 5, 6, 7, 8, 9, 10, 11, 12, 13] (by decide) rfl
  have hKc := hK.sub (tys' := [(cI, .int)]) [0] rfl
  have hFc := va_free (wc := [(h0, .inr (9, [.ref w, .ref d, .ref co, .ref un, .ref ma, .ref tm, .int 0, .int 0, .int 0])), (co, .inr (4, [.ref w, .ref d, .ref on, .ref op, .int 0])), (w, .inr (3, [.int 0, .int 0, .ref wL, .ref wP, .ref wS])), (d, .inr (3, [.int 0, .int 0, .ref dL, .ref dP, .ref dS])), (on, .inr (7, [.ref onR, .ref onL, .ref onC, .ref onD, .int 0])), (onL, .inl (cI, 20, .inl (fun _ => 0))), (onC, .inl (cI, 20, .inl (fun _ => 0))), (op, .inr (7, [.ref opR, .ref opL, .ref opC, .ref opD, .int 0])), (opL, .inl (cI, 20, .inl (fun _ => 0))), (opC, .inl (cI, 20, .inl (fun _ => 0))), (un, .inr (5, [.ref unK, .int 0])), (ma, .inr (6, [.ref w, .ref d, .ref maI, .ref maO, .ref maP, .int 0])), (maI, .inl (cI, 10, .inl (fun _ => 0))), (maO, .inl (cI, 10, .inl (fun _ => 0)))]) hD hS hA [0, 1, 2, 3, 4, 5, 6, 7, 8, 9, 10, 11, 12, 13] rfl
  refine va_calli (va_runV (As := []) (rest := []) ⟨hx, hb, hml, hown, hts⟩ (kX6_isMatched l dC dI h0 ma tm un unK co w wL wP wS d dL dP dS on onR onL onC onD op opR opL opC opD cI (fun _ => 0) (fun _ => 0) maI maO maP (fun _ => 0) (fun _ => 0) H.size) (cwV 0 hts gL_law_X6_isMatched rfl rfl rfl (by decide +kernel) ⟨Nat.le_of_ble_eq_true rfl, Nat.le_of_ble_eq_true rfl⟩) (fPreV hN hZ hS (fun q h => hFc q h) hPc hKc hDc (ci := 9) (q0 := 0) rfl rfl) rfl rfl hl.1 rfl (lv_room (Nat.le_of_ble_eq_true rfl)) dL_law_1974 ⟨Nat.le_of_ble_eq_true rfl, Nat.le_of_ble_eq_true rfl⟩) hS (fun q _ h => hFc q h) hFc (fun r u t H1 locs ht hvm hw hB hz1 hk1 hS => ?_)
  obtain ⟨hP1, hK1, hD1⟩ := hB
  rw [ht] at hP1
  have hK1 := va_K.moved hvm.symm hK1
  obtain ⟨hP, hD⟩ := va_join (wr := [(k0, .inr (10, [.ref kN, .ref kA, .ref kO, .ref kK, .ref kV, .ref kG, .ref kP, .ref kC, .ref kD, .ref kE, .ref kF, .ref kX, .ref kY, .int 0, .ref kT, .ref kU, .int 0, .int 0, .int 0])), (kN, .inl (cI, 2, .inl (fun _ => 0))), (kA, .inl (cI, 2, .inl (fun _ => 0))), (kC, .inl (cI, 20, .inl (fun _ => 0))), (kD, .inl (cI, 20, .inl (fun _ => 0))), (kE, .inl (cI, 20, .inl (fun _ => 0))), (kF, .inl (cI, 20, .inl (fun _ => 0)))]) (w1 := []) hP hD [0, 1, 2, 3, 4, 5, 6, 7, 8, 9, 10, 11, 12, 13] [14, 15, 16, 17, 18, 19, 20] rfl rfl (by decide) (by decide) hk1 hFc hP1 hD1
  generalize H1 = H at hP hS ⊢
  have hP : va_P (dC, dI) vwCl [(k0, .inr (10, [.ref kN, .ref kA, .ref kO, .ref kK, .ref kV, .ref kG, .ref kP, .ref kC, .ref kD, .ref kE, .ref kF, .ref kX, .ref kY, .int 0, .ref kT, .ref kU, .int 0, .int 0, .int 0])), (kN, .inl (cI, 2, .inl (fun _ => 0))), (kA, .inl (cI, 2, .inl (fun _ => 0))), (kC, .inl (cI, 20, .inl (fun _ => 0))), (kD, .inl (cI, 20, .inl (fun _ => 0))), (kE, .inl (cI, 20, .inl (fun _ => 0))), (kF, .inl (cI, 20, .inl (fun _ => 0)))] _ := hP
  have hD : va_D A [(k0, .inr (10, [.ref kN, .ref kA, .ref kO, .ref kK, .ref kV, .ref kG, .ref kP, .ref kC, .ref kD, .ref kE, .ref kF, .ref kX, .ref kY, .int 0, .ref kT, .ref kU, .int 0, .int 0, .int 0])), (kN, .inl (cI, 2, .inl (fun _ => 0))), (kA, .inl (cI, 2, .inl (fun _ => 0))), (kC, .inl (cI, 20, .inl (fun _ => 0))), (kD, .inl (cI, 20, .inl (fun _ => 0))), (kE, .inl (cI, 20, .inl (fun _ => 0))), (kF, .inl (cI, 20, .inl (fun _ => 0)))] := hD
  subst hw
  refine lv_aload_n hx hb dL_law_1977 rfl (lv_at hl 3 rfl) ?_
  have hPc := hP.sub (ws' := [(k0, .inr (10, [.ref kN, .ref kA, .ref kO, .ref kK, .ref kV, .ref kG, .ref kP, .ref kC, .ref kD, .ref kE, .ref kF, .ref kX, .ref kY, .int 0, .ref kT, .ref kU, .int 0, .int 0, .int 0])), (kN, .inl (cI, 2, .inl (fun _ => 0))), (kA, .inl (cI, 2, .inl (fun _ => 0))), (kC, .inl (cI, 20, .inl (fun _ => 0))), (kD, .inl (cI, 20, .inl (fun _ => 0))), (kE, .inl (cI, 20, .inl (fun _ => 0))), (kF, .inl (cI, 20, .inl (fun _ => 0)))]) [0, 1, 2, 3, 4, 5, 6] rfl
  have hDc := hD.sub (ws' := [(k0, .inr (10, [.ref kN, .ref kA, .ref kO, .ref kK, .ref kV, .ref kG, .ref kP, .ref kC, .ref kD, .ref kE, .ref kF, .ref kX, .ref kY, .int 0, .ref kT, .ref kU, .int 0, .int 0, .int 0])), (kN, .inl (cI, 2, .inl (fun _ => 0))), (kA, .inl (cI, 2, .inl (fun _ => 0))), (kC, .inl (cI, 20, .inl (fun _ => 0))), (kD, .inl (cI, 20, .inl (fun _ => 0))), (kE, .inl (cI, 20, .inl (fun _ => 0))), (kF, .inl (cI, 20, .inl (fun _ => 0)))]) [0, 1, 2, 3, 4, 5, 6] (by decide) rfl
  have hKc := hK.sub (tys' := [(cI, .int)]) [0] rfl
  have hFc := va_free (wc := [(k0, .inr (10, [.ref kN, .ref kA, .ref kO, .ref kK, .ref kV, .ref kG, .ref kP, .ref kC, .ref kD, .ref kE, .ref kF, .ref kX, .ref kY, .int 0, .ref kT, .ref kU, .int 0, .int 0, .int 0])), (kN, .inl (cI, 2, .inl (fun _ => 0))), (kA, .inl (cI, 2, .inl (fun _ => 0))), (kC, .inl (cI, 20, .inl (fun _ => 0))), (kD, .inl (cI, 20, .inl (fun _ => 0))), (kE, .inl (cI, 20, .inl (fun _ => 0))), (kF, .inl (cI, 20, .inl (fun _ => 0)))]) hD hS hA [0, 1, 2, 3, 4, 5, 6] rfl
  refine va_calli (va_runV (As := []) (rest := [.int 1]) ⟨hx, hb, hml, hown, hts⟩ (kX7_isMatched l dC dI k0 kN kA kO kK kV kG kP kC kD kE kF kX kY kT kU cI (fun _ => 0) (fun _ => 0) (fun _ => 0) (fun _ => 0) H.size) (cwV 0 hts gL_law_X7_isMatched rfl rfl rfl (by decide +kernel) ⟨Nat.le_of_ble_eq_true rfl, Nat.le_of_ble_eq_true rfl⟩) (fPreV hN hZ hS (fun q h => hFc q h) hPc hKc hDc (ci := 10) (q0 := 0) rfl rfl) rfl rfl hl.1 rfl (lv_room (Nat.le_of_ble_eq_true rfl)) dL_law_1978 ⟨Nat.le_of_ble_eq_true rfl, Nat.le_of_ble_eq_true rfl⟩) hS (fun q _ h => hFc q h) hFc (fun r u t H1 locs ht hvm hw hB hz1 hk1 hS => ?_)
  obtain ⟨hP1, hK1, hD1⟩ := hB
  rw [ht] at hP1
  have hK1 := va_K.moved hvm.symm hK1
  obtain ⟨u1, rfl⟩ : ∃ z, z = u := ⟨_, rfl⟩
  obtain ⟨hP, hD⟩ := va_join (wr := []) (w1 := [(k0, .inr (10, [.ref kN, .ref kA, .ref kO, .ref kK, .ref kV, .ref kG, .ref kP, .ref kC, .ref kD, .ref kE, .ref kF, .ref kX, .ref kY, .int 0, .ref kT, .ref kU, .int u1, .int 0, .int 0]))]) hP hD [0, 1, 2, 3, 4, 5, 6] [] rfl rfl (by decide) (by decide) hk1 hFc hP1 hD1
  generalize H1 = H at hP hS ⊢
  have hP : va_P (dC, dI) vwCl [(k0, .inr (10, [.ref kN, .ref kA, .ref kO, .ref kK, .ref kV, .ref kG, .ref kP, .ref kC, .ref kD, .ref kE, .ref kF, .ref kX, .ref kY, .int 0, .ref kT, .ref kU, .int u1, .int 0, .int 0]))] _ := hP
  have hD : va_D A [(k0, .inr (10, [.ref kN, .ref kA, .ref kO, .ref kK, .ref kV, .ref kG, .ref kP, .ref kC, .ref kD, .ref kE, .ref kF, .ref kX, .ref kY, .int 0, .ref kT, .ref kU, .int u1, .int 0, .int 0]))] := hD
  refine W.widen (k := 151) (n := 2367) (Nat.le_of_ble_eq_true rfl) (Nat.le_of_ble_eq_true rfl) ?_
  obtain ⟨r2, rfl⟩ : ∃ z, z = r := ⟨_, rfl⟩
  obtain ⟨rfl, rfl⟩ := hw
  have hP : va_P (dC, dI) vwCl [(k0, .inr (10, [.ref kN, .ref kA, .ref kO, .ref kK, .ref kV, .ref kG, .ref kP, .ref kC, .ref kD, .ref kE, .ref kF, .ref kX, .ref kY, .int 0, .ref kT, .ref kU, .int 0, .int 0, .int 0]))] _ := hP
  have hD : va_D A [(k0, .inr (10, [.ref kN, .ref kA, .ref kO, .ref kK, .ref kV, .ref kG, .ref kP, .ref kC, .ref kD, .ref kE, .ref kF, .ref kX, .ref kY, .int 0, .ref kT, .ref kU, .int 0, .int 0, .int 0]))] := hD
  refine lv_icmp_eq (tgt := 2720) hx hb dL_law_1981 (by decide) (fun _ => ?_) (fun h9 => absurd (by decide) h9)
  refine lv_iinc (v := 7) (lv' := [(5, .int 7), (4, .ref oD), (3, .ref oJ), (2, .ref k0), (1, .ref h0), (0, .ref b)]) hx hb dL_law_2720 hl (k := 0) rfl (by decide) (Nat.le_of_ble_eq_true rfl) rfl (fun ls hl => ?_)
  refine lv_goto (tgt := 28) hx hb dL_law_2723 (by decide) ?_
  refine lv_iload hx hb dL_law_28 (lv_at hl 0 rfl) ?_
  refine lv_aload_n hx hb dL_law_30 rfl (lv_at hl 5 rfl) ?_
  refine va_slen hx hb hX9 hbl hbA hS dL_law_31 ?_
  refine W.eq (g2 := F0 m 32 ls [.int 7, .int 7]) rfl ?_
  refine lv_bipush (v := 7) hx hb dL_law_32 (by decide) ?_
  refine lv_isub hx hb dL_law_34 ?_
  refine lv_topi (fun y3 ey3 => ?_)
  obtain rfl : y3 = 0 := ey3.trans (by decide)
  refine lv_icmp_gt (tgt := 2726) hx hb dL_law_35 (by decide) (fun _ => ?_) (fun h9 => absurd (by decide) h9)
  refine lv_iconst (v := 1) hx hb dL_law_2726 (by decide) ?_
  refine va_forget (fun q hq => hAe _ (hS.2.2 q hq)) ?_
  refine W.widen (k := 603072) (n := 7198826) (Nat.le_of_ble_eq_true rfl) (Nat.le_of_ble_eq_true rfl) ?_
  exact W.base (lw_ret (d0 := s.drawn) (Drawn.sameBut.refl _ _) hx hb hr hlk dL_law_2727)

set_option maxHeartbeats 4000000 in
set_option maxRecDepth 100000 in
/-- case 28 of the law: isMatchedByTrying, on fresh objects -/
theorem lc_28 {p : Program} {e : Env} {s : State} {m : MethodId} {below : List Frame} {meth : Method} {c : Code} (l : Launch) (hfl : l.stackTraces = false) {b : Nat} {xs : Nat → Int32} (hx : p.tables.exec = Jvm.exec) (hb : c.code = cL_law) (hr : meth.sig.returnType = ret) (hml : c.maxLocals = 9) (hown : s.vm.findClass RL = some m.cls) (hts : ∀ w ∈ wsL_law, w.before #[Value.ref b] s = true) (hlk : meth.locks = false) (A : Nat → Prop) (hAe : ∀ q, A q → s.heap.size ≤ q) (hA : ∀ q : Nat, s.heap.size ≤ q → A q) (hX9 : va_X b 7 xs s s.heap) (hbl : b < s.heap.size) (hN : fN s) (hZ : fZ A s s.heap) (hX : fX s) (dC : Nat → ClassId) (dI : Nat → Nat → Nat) (h0 w d wL wP wS dL dP dS co un ma tm tmI tmO tmP k0 kN kA kO kK kV kG kP kC kD kE kF kX kY kT kU oJ oD : Nat) (cI cJ : ClassId) {H : Heap} {locs : List Loc} {ls : Array Slot} (hK : va_K (dC, dI) vwCl [(cI, .int), (cJ, .long)] s) (hP : va_P (dC, dI) vwCl [(h0, .inr (9, [.ref w, .ref d, .ref co, .ref un, .ref ma, .ref tm, .int 0, .int 0, .int 0])), (w, .inr (3, [.int 0, .int 0, .ref wL, .ref wP, .ref wS])), (d, .inr (3, [.int 0, .int 0, .ref dL, .ref dP, .ref dS])), (tm, .inr (6, [.ref w, .ref d, .ref tmI, .ref tmO, .ref tmP, .int 0])), (tmI, .inl (cI, 10, .inl (fun _ => 0))), (tmO, .inl (cI, 10, .inl (fun _ => 0))), (k0, .inr (10, [.ref kN, .ref kA, .ref kO, .ref kK, .ref kV, .ref kG, .ref kP, .ref kC, .ref kD, .ref kE, .ref kF, .ref kX, .ref kY, .int 0, .ref kT, .ref kU, .int 0, .int 0, .int 0])), (kN, .inl (cI, 2, .inl (fun _ => 0))), (kA, .inl (cI, 2, .inl (fun _ => 0))), (kC, .inl (cI, 20, .inl (fun _ => 0))), (kD, .inl (cI, 20, .inl (fun _ => 0))), (kE, .inl (cI, 20, .inl (fun _ => 0))), (kF, .inl (cI, 20, .inl (fun _ => 0))), (oJ, .inl (cJ, 1, .inr (.inl (fun _ => 0))))] H) (hD : va_D A [(h0, .inr (9, [.ref w, .ref d, .ref co, .ref un, .ref ma, .ref tm, .int 0, .int 0, .int 0])), (w, .inr (3, [.int 0, .int 0, .ref wL, .ref wP, .ref wS])), (d, .inr (3, [.int 0, .int 0, .ref dL, .ref dP, .ref dS])), (tm, .inr (6, [.ref w, .ref d, .ref tmI, .ref tmO, .ref tmP, .int 0])), (tmI, .inl (cI, 10, .inl (fun _ => 0))), (tmO, .inl (cI, 10, .inl (fun _ => 0))), (k0, .inr (10, [.ref kN, .ref kA, .ref kO, .ref kK, .ref kV, .ref kG, .ref kP, .ref kC, .ref kD, .ref kE, .ref kF, .ref kX, .ref kY, .int 0, .ref kT, .ref kU, .int 0, .int 0, .int 0])), (kN, .inl (cI, 2, .inl (fun _ => 0))), (kA, .inl (cI, 2, .inl (fun _ => 0))), (kC, .inl (cI, 20, .inl (fun _ => 0))), (kD, .inl (cI, 20, .inl (fun _ => 0))), (kE, .inl (cI, 20, .inl (fun _ => 0))), (kF, .inl (cI, 20, .inl (fun _ => 0))), (oJ, .inl (cJ, 1, .inr (.inl (fun _ => 0))))]) (hS : va_S A s.heap H locs) (hl : lv_has ls 9 [(5, .int 0), (4, .ref oD), (3, .ref oJ), (2, .ref k0), (1, .ref h0), (0, .ref b)]) : W p l e room_1 s m #[Value.ref b] below meth c H locs 148 2317 (lw_Z below #[Value.ref b] s) (F0 m 1986 ls []) := by
  have hbA : ¬ A b := fun h => Nat.not_le.mpr hbl (hAe _ h)
  have hX0 := hX
  refine lv_aload_n hx hb dL_law_1986 rfl (lv_at hl 4 rfl) ?_
  refine lv_aload_n hx hb dL_law_1987 rfl (lv_at hl 2 rfl) ?_
  have hPc := hP.sub (ws' := [(h0, .inr (9, [.ref w, .ref d, .ref co, .ref un, .ref ma, .ref tm, .int 0, .int 0, .int 0])), (w, .inr (3, [.int 0, .int 0, .ref wL, .ref wP, .ref wS])), (d, .inr (3, [.int 0, .int 0, .ref dL, .ref dP, .ref dS])), (tm, .inr (6, [.ref w, .ref d, .ref tmI, .ref tmO, .ref tmP, .int 0])), (tmI, .inl (cI, 10, .inl (fun _ => 0))), (tmO, .inl (cI, 10, .inl (fun _ => 0))), (oJ, .inl (cJ, 1, .inr (.inl (fun _ => 0))))]) [0, 1, 2, 3, 4, 5, 13] rfl
  have hDc := hD.sub (ws' := [(h0, .inr (9, [.ref w, .ref d, .ref co, .ref un, .ref ma, .ref tm, .int 0, .int 0, .int 0])), (w, .inr (3, [.int 0, .int 0, .ref wL, .ref wP, .ref wS])), (d, .inr (3, [.int 0, .int 0, .ref dL, .ref dP, .ref dS])), (tm, .inr (6, [.ref w, .ref d, .ref tmI, .ref tmO, .ref tmP, .int 0])), (tmI, .inl (cI, 10, .inl (fun _ => 0))), (tmO, .inl (cI, 10, .inl (fun _ => 0))), (oJ, .inl (cJ, 1, .inr (.inl (fun _ => 0))))]) [0, 1, 2, 3, 4, 5, 13] (by decide) rfl
  have hKc := hK.sub (tys' := [(cI, .int), (cJ, .long)]) [0, 1] rfl
  have hFc := va_free (wc := [(h0, .inr (9, [.ref w, .ref d, .ref co, .ref un, .ref ma, .ref tm, .int 0, .int 0, .int 0])), (w, .inr (3, [.int 0, .int 0, .ref wL, .ref wP, .ref wS])), (d, .inr (3, [.int 0, .int 0, .ref dL, .ref dP, .ref dS])), (tm, .inr (6, [.ref w, .ref d, .ref tmI, .ref tmO, .ref tmP, .int 0])), (tmI, .inl (cI, 10, .inl (fun _ => 0))), (tmO, .inl (cI, 10, .inl (fun _ => 0))), (oJ, .inl (cJ, 1, .inr (.inl (fun _ => 0))))]) hD hS hA [0, 1, 2, 3, 4, 5, 13] rfl
  refine vx_calli (vx_runSX (As := [.ref h0, .ref oJ]) (rest := []) ⟨hx, hb, hml, hown, hts⟩ (kL_isMatchedByTrying l hfl dC dI h0 w d co un ma tm wL wP wS dL dP dS tmI tmO tmP cI (fun _ => 0) (fun _ => 0) oJ cJ H.size) (vx_cwSW 2 hts gL_law_L_isMatchedByTrying rfl rfl rfl (by decide +kernel) ⟨Nat.le_of_ble_eq_true rfl, Nat.le_of_ble_eq_true rfl⟩) (gPreS hX hN hZ hS (fun q h => hFc q h) hPc hKc hDc) rfl rfl hl.1 rfl (lv_room (Nat.le_of_ble_eq_true rfl)) dL_law_1988 ⟨Nat.le_of_ble_eq_true rfl, Nat.le_of_ble_eq_true rfl⟩) hS (fun q _ h => hFc q h) hFc (fun q _ h => hFc q h) (fun E ce q9 u t H locs ht hvm hpx hE hz1 hk1 hS hq9 hv9 hc9 => ?_) (fun r u t H1 locs ht hvm hw hB hz1 hk1 hS => ?_)
  · skip
    exact hE.elim
  · skip
    obtain ⟨hP1, hK1, hD1⟩ := hB
    rw [ht] at hP1
    have hK1 := va_K.moved hvm.symm hK1
    obtain ⟨u1, rfl⟩ : ∃ z, z = u := ⟨_, rfl⟩
    obtain ⟨hP, hD⟩ := va_join (wr := [(k0, .inr (10, [.ref kN, .ref kA, .ref kO, .ref kK, .ref kV, .ref kG, .ref kP, .ref kC, .ref kD, .ref kE, .ref kF, .ref kX, .ref kY, .int 0, .ref kT, .ref kU, .int 0, .int 0, .int 0])), (kN, .inl (cI, 2, .inl (fun _ => 0))), (kA, .inl (cI, 2, .inl (fun _ => 0))), (kC, .inl (cI, 20, .inl (fun _ => 0))), (kD, .inl (cI, 20, .inl (fun _ => 0))), (kE, .inl (cI, 20, .inl (fun _ => 0))), (kF, .inl (cI, 20, .inl (fun _ => 0)))]) (w1 := [(oJ, .inl (cJ, 1, .inr (.inl u1)))]) hP hD [0, 1, 2, 3, 4, 5, 13] [6, 7, 8, 9, 10, 11, 12] rfl rfl (by decide) (by decide) hk1 hFc hP1 hD1
    generalize H1 = H at hP hS ⊢
    have hP : va_P (dC, dI) vwCl [(k0, .inr (10, [.ref kN, .ref kA, .ref kO, .ref kK, .ref kV, .ref kG, .ref kP, .ref kC, .ref kD, .ref kE, .ref kF, .ref kX, .ref kY, .int 0, .ref kT, .ref kU, .int 0, .int 0, .int 0])), (kN, .inl (cI, 2, .inl (fun _ => 0))), (kA, .inl (cI, 2, .inl (fun _ => 0))), (kC, .inl (cI, 20, .inl (fun _ => 0))), (kD, .inl (cI, 20, .inl (fun _ => 0))), (kE, .inl (cI, 20, .inl (fun _ => 0))), (kF, .inl (cI, 20, .inl (fun _ => 0))), (oJ, .inl (cJ, 1, .inr (.inl u1)))] _ := hP
    have hD : va_D A [(k0, .inr (10, [.ref kN, .ref kA, .ref kO, .ref kK, .ref kV, .ref kG, .ref kP, .ref kC, .ref kD, .ref kE, .ref kF, .ref kX, .ref kY, .int 0, .ref kT, .ref kU, .int 0, .int 0, .int 0])), (kN, .inl (cI, 2, .inl (fun _ => 0))), (kA, .inl (cI, 2, .inl (fun _ => 0))), (kC, .inl (cI, 20, .inl (fun _ => 0))), (kD, .inl (cI, 20, .inl (fun _ => 0))), (kE, .inl (cI, 20, .inl (fun _ => 0))), (kF, .inl (cI, 20, .inl (fun _ => 0))), (oJ, .inl (cJ, 1, .inr (.inl u1)))] := hD
    obtain ⟨rfl, hu0⟩ := hw
    refine lv_istore (lv' := [(6, .int 0), (5, .int 0), (4, .ref oD), (3, .ref oJ), (2, .ref k0), (1, .ref h0), (0, .ref b)]) hx hb dL_law_1991 hl (Nat.le_of_ble_eq_true rfl) rfl (fun ls hl => ?_)
    refine lv_aload_n hx hb dL_law_1993 rfl (lv_at hl 4 rfl) ?_
    have hPc := hP.sub (ws' := [(k0, .inr (10, [.ref kN, .ref kA, .ref kO, .ref kK, .ref kV, .ref kG, .ref kP, .ref kC, .ref kD, .ref kE, .ref kF, .ref kX, .ref kY, .int 0, .ref kT, .ref kU, .int 0, .int 0, .int 0])), (kN, .inl (cI, 2, .inl (fun _ => 0))), (kA, .inl (cI, 2, .inl (fun _ => 0))), (kC, .inl (cI, 20, .inl (fun _ => 0))), (kD, .inl (cI, 20, .inl (fun _ => 0))), (kE, .inl (cI, 20, .inl (fun _ => 0))), (kF, .inl (cI, 20, .inl (fun _ => 0)))]) [0, 1, 2, 3, 4, 5, 6] rfl
    have hDc := hD.sub (ws' := [(k0, .inr (10, [.ref kN, .ref kA, .ref kO, .ref kK, .ref kV, .ref kG, .ref kP, .ref kC, .ref kD, .ref kE, .ref kF, .ref kX, .ref kY, .int 0, .ref kT, .ref kU, .int 0, .int 0, .int 0])), (kN, .inl (cI, 2, .inl (fun _ => 0))), (kA, .inl (cI, 2, .inl (fun _ => 0))), (kC, .inl (cI, 20, .inl (fun _ => 0))), (kD, .inl (cI, 20, .inl (fun _ => 0))), (kE, .inl (cI, 20, .inl (fun _ => 0))), (kF, .inl (cI, 20, .inl (fun _ => 0)))]) [0, 1, 2, 3, 4, 5, 6] (by decide) rfl
    have hKc := hK.sub (tys' := [(cI, .int)]) [0] rfl
    have hFc := va_free (wc := [(k0, .inr (10, [.ref kN, .ref kA, .ref kO, .ref kK, .ref kV, .ref kG, .ref kP, .ref kC, .ref kD, .ref kE, .ref kF, .ref kX, .ref kY, .int 0, .ref kT, .ref kU, .int 0, .int 0, .int 0])), (kN, .inl (cI, 2, .inl (fun _ => 0))), (kA, .inl (cI, 2, .inl (fun _ => 0))), (kC, .inl (cI, 20, .inl (fun _ => 0))), (kD, .inl (cI, 20, .inl (fun _ => 0))), (kE, .inl (cI, 20, .inl (fun _ => 0))), (kF, .inl (cI, 20, .inl (fun _ => 0)))]) hD hS hA [0, 1, 2, 3, 4, 5, 6] rfl
    refine va_calli (va_runV (As := []) (rest := []) ⟨hx, hb, hml, hown, hts⟩ (kX7_isMatchedByTrying l dC dI k0 kN kA kO kK kV kG kP kC kD kE kF kX kY kT kU cI (fun _ => 0) (fun _ => 0) (fun _ => 0) (fun _ => 0) H.size) (cwV 0 hts gL_law_X7_isMatchedByTrying rfl rfl rfl (by decide +kernel) ⟨Nat.le_of_ble_eq_true rfl, Nat.le_of_ble_eq_true rfl⟩) (fPreV hN hZ hS (fun q h => hFc q h) hPc hKc hDc (ci := 10) (q0 := 0) rfl rfl) rfl rfl hl.1 rfl (lv_room (Nat.le_of_ble_eq_true rfl)) dL_law_1994 ⟨Nat.le_of_ble_eq_true rfl, Nat.le_of_ble_eq_true rfl⟩) hS (fun q _ h => hFc q h) hFc (fun r u t H1 locs ht hvm hw hB hz1 hk1 hS => ?_)
    obtain ⟨hP1, hK1, hD1⟩ := hB
    rw [ht] at hP1
    have hK1 := va_K.moved hvm.symm hK1
    obtain ⟨u2, rfl⟩ : ∃ z, z = u := ⟨_, rfl⟩
    obtain ⟨hP, hD⟩ := va_join (wr := [(oJ, .inl (cJ, 1, .inr (.inl u1)))]) (w1 := [(k0, .inr (10, [.ref kN, .ref kA, .ref kO, .ref kK, .ref kV, .ref kG, .ref kP, .ref kC, .ref kD, .ref kE, .ref kF, .ref kX, .ref kY, .int 0, .ref kT, .ref kU, .int u2, .int 0, .int 0]))]) hP hD [0, 1, 2, 3, 4, 5, 6] [7] rfl rfl (by decide) (by decide) hk1 hFc hP1 hD1
    generalize H1 = H at hP hS ⊢
    have hP : va_P (dC, dI) vwCl [(oJ, .inl (cJ, 1, .inr (.inl u1))), (k0, .inr (10, [.ref kN, .ref kA, .ref kO, .ref kK, .ref kV, .ref kG, .ref kP, .ref kC, .ref kD, .ref kE, .ref kF, .ref kX, .ref kY, .int 0, .ref kT, .ref kU, .int u2, .int 0, .int 0]))] _ := hP
    have hD : va_D A [(oJ, .inl (cJ, 1, .inr (.inl u1))), (k0, .inr (10, [.ref kN, .ref kA, .ref kO, .ref kK, .ref kV, .ref kG, .ref kP, .ref kC, .ref kD, .ref kE, .ref kF, .ref kX, .ref kY, .int 0, .ref kT, .ref kU, .int u2, .int 0, .int 0]))] := hD
    refine W.widen (k := 151) (n := 2367) (Nat.le_of_ble_eq_true rfl) (Nat.le_of_ble_eq_true rfl) ?_
    obtain ⟨r3, rfl⟩ : ∃ z, z = r := ⟨_, rfl⟩
    obtain ⟨rfl, rfl⟩ := hw
    have hP : va_P (dC, dI) vwCl [(oJ, .inl (cJ, 1, .inr (.inl u1))), (k0, .inr (10, [.ref kN, .ref kA, .ref kO, .ref kK, .ref kV, .ref kG, .ref kP, .ref kC, .ref kD, .ref kE, .ref kF, .ref kX, .ref kY, .int 0, .ref kT, .ref kU, .int 0, .int 0, .int 0]))] _ := hP
    have hD : va_D A [(oJ, .inl (cJ, 1, .inr (.inl u1))), (k0, .inr (10, [.ref kN, .ref kA, .ref kO, .ref kK, .ref kV, .ref kG, .ref kP, .ref kC, .ref kD, .ref kE, .ref kF, .ref kX, .ref kY, .int 0, .ref kT, .ref kU, .int 0, .int 0, .int 0]))] := hD
    refine lv_istore (lv' := [(7, .int 1), (6, .int 0), (5, .int 0), (4, .ref oD), (3, .ref oJ), (2, .ref k0), (1, .ref h0), (0, .ref b)]) hx hb dL_law_1997 hl (Nat.le_of_ble_eq_true rfl) rfl (fun ls hl => ?_)
    refine lv_aload_n hx hb dL_law_1999 rfl (lv_at hl 5 rfl) ?_
    have hPc := hP.sub (ws' := [(k0, .inr (10, [.ref kN, .ref kA, .ref kO, .ref kK, .ref kV, .ref kG, .ref kP, .ref kC, .ref kD, .ref kE, .ref kF, .ref kX, .ref kY, .int 0, .ref kT, .ref kU, .int 0, .int 0, .int 0]))]) [1] rfl
    have hDc := hD.sub (ws' := [(k0, .inr (10, [.ref kN, .ref kA, .ref kO, .ref kK, .ref kV, .ref kG, .ref kP, .ref kC, .ref kD, .ref kE, .ref kF, .ref kX, .ref kY, .int 0, .ref kT, .ref kU, .int 0, .int 0, .int 0]))]) [1] (by decide) rfl
    have hKc := hK.sub (tys' := []) [] rfl
    have hFc := va_free (wc := [(k0, .inr (10, [.ref kN, .ref kA, .ref kO, .ref kK, .ref kV, .ref kG, .ref kP, .ref kC, .ref kD, .ref kE, .ref kF, .ref kX, .ref kY, .int 0, .ref kT, .ref kU, .int 0, .int 0, .int 0]))]) hD hS hA [1] rfl
    refine va_calli (va_runV (As := []) (rest := []) ⟨hx, hb, hml, hown, hts⟩ (kX7_thrown l dC dI k0 kN kA kO kK kV kG kP kC kD kE kF kX kY kT kU 0 H.size) (cwV 0 hts gL_law_X7_thrown rfl rfl rfl (by decide +kernel) ⟨Nat.le_of_ble_eq_true rfl, Nat.le_of_ble_eq_true rfl⟩) (fPreV hN hZ hS (fun q h => hFc q h) hPc hKc hDc (ci := 10) (q0 := 0) rfl rfl) rfl rfl hl.1 rfl (lv_room (Nat.le_of_ble_eq_true rfl)) dL_law_2000 ⟨Nat.le_of_ble_eq_true rfl, Nat.le_of_ble_eq_true rfl⟩) hS (fun q _ h => hFc q h) hFc (fun r u t H1 locs ht hvm hw hB hz1 hk1 hS => ?_)
    obtain ⟨hP1, hK1, hD1⟩ := hB
    rw [ht] at hP1
    have hK1 := va_K.moved hvm.symm hK1
    obtain ⟨hP, hD⟩ := va_join (wr := [(oJ, .inl (cJ, 1, .inr (.inl u1)))]) (w1 := []) hP hD [1] [0] rfl rfl (by decide) (by decide) hk1 hFc hP1 hD1
    generalize H1 = H at hP hS ⊢
    have hP : va_P (dC, dI) vwCl [(oJ, .inl (cJ, 1, .inr (.inl u1)))] _ := hP
    have hD : va_D A [(oJ, .inl (cJ, 1, .inr (.inl u1)))] := hD
    subst hw
    refine lv_iload hx hb dL_law_2003 (lv_at hl 1 rfl) ?_
    refine lv_icmp_eq (tgt := 2010) hx hb dL_law_2005 (by decide) (fun _ => ?_) (fun h9 => absurd (by decide) h9)
    refine lv_iload hx hb dL_law_2010 (lv_at hl 1 rfl) ?_
    refine lv_if_ne (tgt := 2034) hx hb dL_law_2012 (by decide) (fun h9 => absurd (by decide) h9) (fun _ => ?_)
    refine lv_aload_n hx hb dL_law_2015 rfl (lv_at hl 4 rfl) ?_
    refine lv_iconst (v := 0) hx hb dL_law_2016 (by decide) ?_
    refine va_lald hx hb hK hP 0 1 rfl rfl (show ¬ (_ ∨ _) by decide) dL_law_2017 ?_
    refine lv_topl (fun y4 ey4 => ?_)
    obtain rfl : y4 = 1 := ey4.trans hu0
    refine lv_iload hx hb dL_law_2018 (lv_at hl 0 rfl) ?_
    refine lv_if_eq (tgt := 2027) hx hb dL_law_2020 (by decide) (fun h9 => absurd h9 (by decide)) (fun _ => ?_)
    refine lv_lconst (v := 1) hx hb dL_law_2023 (by decide) ?_
    refine lv_goto (tgt := 2028) hx hb dL_law_2024 (by decide) ?_
    refine W.lcmp hx hb dL_law_2028 ?_
    refine lv_topi (fun y5 ey5 => ?_)
    obtain rfl : y5 = 0 := ey5.trans (by decide)
    refine lv_if_eq (tgt := 2034) hx hb dL_law_2029 (by decide) (fun _ => ?_) (fun h9 => absurd (by decide) h9)
    refine lv_goto (tgt := 2720) hx hb dL_law_2034 (by decide) ?_
    refine lv_iinc (v := 7) (lv' := [(5, .int 7), (7, .int 1), (6, .int 0), (4, .ref oD), (3, .ref oJ), (2, .ref k0), (1, .ref h0), (0, .ref b)]) hx hb dL_law_2720 hl (k := 2) rfl (by decide) (Nat.le_of_ble_eq_true rfl) rfl (fun ls hl => ?_)
    refine lv_goto (tgt := 28) hx hb dL_law_2723 (by decide) ?_
    refine lv_iload hx hb dL_law_28 (lv_at hl 0 rfl) ?_
    refine lv_aload_n hx hb dL_law_30 rfl (lv_at hl 7 rfl) ?_
    refine va_slen hx hb hX9 hbl hbA hS dL_law_31 ?_
    refine W.eq (g2 := F0 m 32 ls [.int 7, .int 7]) rfl ?_
    refine lv_bipush (v := 7) hx hb dL_law_32 (by decide) ?_
    refine lv_isub hx hb dL_law_34 ?_
    refine lv_topi (fun y6 ey6 => ?_)
    obtain rfl : y6 = 0 := ey6.trans (by decide)
    refine lv_icmp_gt (tgt := 2726) hx hb dL_law_35 (by decide) (fun _ => ?_) (fun h9 => absurd (by decide) h9)
    refine lv_iconst (v := 1) hx hb dL_law_2726 (by decide) ?_
    refine va_forget (fun q hq => hAe _ (hS.2.2 q hq)) ?_
    refine W.widen (k := 603072) (n := 7198826) (Nat.le_of_ble_eq_true rfl) (Nat.le_of_ble_eq_true rfl) ?_
    exact W.base (lw_ret (d0 := s.drawn) (Drawn.sameBut.refl _ _) hx hb hr hlk dL_law_2727)

set_option maxHeartbeats 4000000 in
set_option maxRecDepth 100000 in
/-- case 29 of the law: matchedNet, on fresh objects -/
theorem lc_29 {p : Program} {e : Env} {s : State} {m : MethodId} {below : List Frame} {meth : Method} {c : Code} (l : Launch) (hfl : l.stackTraces = false) {b : Nat} {xs : Nat → Int32} (hx : p.tables.exec = Jvm.exec) (hb : c.code = cL_law) (hr : meth.sig.returnType = ret) (hml : c.maxLocals = 9) (hown : s.vm.findClass RL = some m.cls) (hts : ∀ w ∈ wsL_law, w.before #[Value.ref b] s = true) (hlk : meth.locks = false) (A : Nat → Prop) (hAe : ∀ q, A q → s.heap.size ≤ q) (hA : ∀ q : Nat, s.heap.size ≤ q → A q) (hX9 : va_X b 7 xs s s.heap) (hbl : b < s.heap.size) (hN : fN s) (hZ : fZ A s s.heap) (hX : fX s) (dC : Nat → ClassId) (dI : Nat → Nat → Nat) (h0 w d wL wP wS dL dP dS co un ma tm k0 kN kA kO kK kV kG kP kC kD kE kF kX kY kT kU oJ oD : Nat) (cI cJ : ClassId) {H : Heap} {locs : List Loc} {ls : Array Slot} (hK : va_K (dC, dI) vwCl [(cI, .int), (cJ, .long)] s) (hP : va_P (dC, dI) vwCl [(h0, .inr (9, [.ref w, .ref d, .ref co, .ref un, .ref ma, .ref tm, .int 0, .int 0, .int 0])), (w, .inr (3, [.int 0, .int 0, .ref wL, .ref wP, .ref wS])), (d, .inr (3, [.int 0, .int 0, .ref dL, .ref dP, .ref dS])), (k0, .inr (10, [.ref kN, .ref kA, .ref kO, .ref kK, .ref kV, .ref kG, .ref kP, .ref kC, .ref kD, .ref kE, .ref kF, .ref kX, .ref kY, .int 0, .ref kT, .ref kU, .int 0, .int 0, .int 0])), (kN, .inl (cI, 2, .inl (fun _ => 0))), (kA, .inl (cI, 2, .inl (fun _ => 0))), (oJ, .inl (cJ, 1, .inr (.inl (fun _ => 0))))] H) (hD : va_D A [(h0, .inr (9, [.ref w, .ref d, .ref co, .ref un, .ref ma, .ref tm, .int 0, .int 0, .int 0])), (w, .inr (3, [.int 0, .int 0, .ref wL, .ref wP, .ref wS])), (d, .inr (3, [.int 0, .int 0, .ref dL, .ref dP, .ref dS])), (k0, .inr (10, [.ref kN, .ref kA, .ref kO, .ref kK, .ref kV, .ref kG, .ref kP, .ref kC, .ref kD, .ref kE, .ref kF, .ref kX, .ref kY, .int 0, .ref kT, .ref kU, .int 0, .int 0, .int 0])), (kN, .inl (cI, 2, .inl (fun _ => 0))), (kA, .inl (cI, 2, .inl (fun _ => 0))), (oJ, .inl (cJ, 1, .inr (.inl (fun _ => 0))))]) (hS : va_S A s.heap H locs) (hl : lv_has ls 9 [(5, .int 0), (4, .ref oD), (3, .ref oJ), (2, .ref k0), (1, .ref h0), (0, .ref b)]) : W p l e room_1 s m #[Value.ref b] below meth c H locs 148 2317 (lw_Z below #[Value.ref b] s) (F0 m 2037 ls []) := by
  have hbA : ¬ A b := fun h => Nat.not_le.mpr hbl (hAe _ h)
  have hX0 := hX
  refine lv_aload_n hx hb dL_law_2037 rfl (lv_at hl 4 rfl) ?_
  refine lv_aload_n hx hb dL_law_2038 rfl (lv_at hl 5 rfl) ?_
  refine lv_iload hx hb dL_law_2039 (lv_at hl 0 rfl) ?_
  refine lv_iconst (v := 1) hx hb dL_law_2041 (by decide) ?_
  refine lv_iadd hx hb dL_law_2042 ?_
  refine lv_topi (fun y1 ey1 => ?_)
  obtain rfl : y1 = 1 := ey1.trans (by decide)
  refine va_sld hx hb hX9 hbl hbA hS (show ¬ (_ ∨ _) by decide) dL_law_2043 ?_
  refine W.eq (g2 := F0 m 2044 ls [.int (xs 1), .ref h0]) rfl ?_
  refine lv_aload_n hx hb dL_law_2044 rfl (lv_at hl 2 rfl) ?_
  have hPc := hP.sub (ws' := [(h0, .inr (9, [.ref w, .ref d, .ref co, .ref un, .ref ma, .ref tm, .int 0, .int 0, .int 0])), (w, .inr (3, [.int 0, .int 0, .ref wL, .ref wP, .ref wS])), (d, .inr (3, [.int 0, .int 0, .ref dL, .ref dP, .ref dS])), (oJ, .inl (cJ, 1, .inr (.inl (fun _ => 0))))]) [0, 1, 2, 6] rfl
  have hDc := hD.sub (ws' := [(h0, .inr (9, [.ref w, .ref d, .ref co, .ref un, .ref ma, .ref tm, .int 0, .int 0, .int 0])), (w, .inr (3, [.int 0, .int 0, .ref wL, .ref wP, .ref wS])), (d, .inr (3, [.int 0, .int 0, .ref dL, .ref dP, .ref dS])), (oJ, .inl (cJ, 1, .inr (.inl (fun _ => 0))))]) [0, 1, 2, 6] (by decide) rfl
  have hKc := hK.sub (tys' := [(cJ, .long)]) [1] rfl
  have hFc := va_free (wc := [(h0, .inr (9, [.ref w, .ref d, .ref co, .ref un, .ref ma, .ref tm, .int 0, .int 0, .int 0])), (w, .inr (3, [.int 0, .int 0, .ref wL, .ref wP, .ref wS])), (d, .inr (3, [.int 0, .int 0, .ref dL, .ref dP, .ref dS])), (oJ, .inl (cJ, 1, .inr (.inl (fun _ => 0))))]) hD hS hA [0, 1, 2, 6] rfl
  refine vx_calli (vx_runSX (As := [.ref h0, .int (xs 1), .ref oJ]) (rest := []) ⟨hx, hb, hml, hown, hts⟩ (kL_matchedNet l hfl dC dI h0 w d co un ma tm wL wP wS dL dP dS oJ cJ (xs 1) H.size) (vx_cwSW 3 hts gL_law_L_matchedNet rfl rfl rfl (by decide +kernel) ⟨Nat.le_of_ble_eq_true rfl, Nat.le_of_ble_eq_true rfl⟩) (gPreS hX hN hZ hS (fun q h => hFc q h) hPc hKc hDc) rfl rfl hl.1 rfl (lv_room (Nat.le_of_ble_eq_true rfl)) dL_law_2045 ⟨Nat.le_of_ble_eq_true rfl, Nat.le_of_ble_eq_true rfl⟩) hS (fun q _ h => hFc q h) hFc (fun q _ h => hFc q h) (fun E ce q9 u t H locs ht hvm hpx hE hz1 hk1 hS hq9 hv9 hc9 => ?_) (fun r u t H1 locs ht hvm hw hB hz1 hk1 hS => ?_)
  · skip
    exact hE.elim
  · skip
    obtain ⟨hP1, hK1, hD1⟩ := hB
    rw [ht] at hP1
    have hK1 := va_K.moved hvm.symm hK1
    obtain ⟨u2, rfl⟩ : ∃ z, z = u := ⟨_, rfl⟩
    obtain ⟨hP, hD⟩ := va_join (wr := [(k0, .inr (10, [.ref kN, .ref kA, .ref kO, .ref kK, .ref kV, .ref kG, .ref kP, .ref kC, .ref kD, .ref kE, .ref kF, .ref kX, .ref kY, .int 0, .ref kT, .ref kU, .int 0, .int 0, .int 0])), (kN, .inl (cI, 2, .inl (fun _ => 0))), (kA, .inl (cI, 2, .inl (fun _ => 0)))]) (w1 := [(oJ, .inl (cJ, 1, .inr (.inl u2)))]) hP hD [0, 1, 2, 6] [3, 4, 5] rfl rfl (by decide) (by decide) hk1 hFc hP1 hD1
    generalize H1 = H at hP hS ⊢
    have hP : va_P (dC, dI) vwCl [(k0, .inr (10, [.ref kN, .ref kA, .ref kO, .ref kK, .ref kV, .ref kG, .ref kP, .ref kC, .ref kD, .ref kE, .ref kF, .ref kX, .ref kY, .int 0, .ref kT, .ref kU, .int 0, .int 0, .int 0])), (kN, .inl (cI, 2, .inl (fun _ => 0))), (kA, .inl (cI, 2, .inl (fun _ => 0))), (oJ, .inl (cJ, 1, .inr (.inl u2)))] _ := hP
    have hD : va_D A [(k0, .inr (10, [.ref kN, .ref kA, .ref kO, .ref kK, .ref kV, .ref kG, .ref kP, .ref kC, .ref kD, .ref kE, .ref kF, .ref kX, .ref kY, .int 0, .ref kT, .ref kU, .int 0, .int 0, .int 0])), (kN, .inl (cI, 2, .inl (fun _ => 0))), (kA, .inl (cI, 2, .inl (fun _ => 0))), (oJ, .inl (cJ, 1, .inr (.inl u2)))] := hD
    refine W.widen (k := 149) (n := 2323) (Nat.le_of_ble_eq_true rfl) (Nat.le_of_ble_eq_true rfl) ?_
    subst hw
    refine lv_istore (lv' := [(6, .int 1), (5, .int 0), (4, .ref oD), (3, .ref oJ), (2, .ref k0), (1, .ref h0), (0, .ref b)]) hx hb dL_law_2048 hl (Nat.le_of_ble_eq_true rfl) rfl (fun ls hl => ?_)
    refine lv_aload_n hx hb dL_law_2050 rfl (lv_at hl 4 rfl) ?_
    refine lv_aload_n hx hb dL_law_2051 rfl (lv_at hl 6 rfl) ?_
    refine lv_iload hx hb dL_law_2052 (lv_at hl 1 rfl) ?_
    refine lv_iconst (v := 1) hx hb dL_law_2054 (by decide) ?_
    refine lv_iadd hx hb dL_law_2055 ?_
    refine lv_topi (fun y3 ey3 => ?_)
    obtain rfl : y3 = 1 := ey3.trans (by decide)
    refine va_sld hx hb hX9 hbl hbA hS (show ¬ (_ ∨ _) by decide) dL_law_2056 ?_
    refine W.eq (g2 := F0 m 2057 ls [.int (xs 1), .ref k0]) rfl ?_
    have hPc := hP.sub (ws' := [(k0, .inr (10, [.ref kN, .ref kA, .ref kO, .ref kK, .ref kV, .ref kG, .ref kP, .ref kC, .ref kD, .ref kE, .ref kF, .ref kX, .ref kY, .int 0, .ref kT, .ref kU, .int 0, .int 0, .int 0])), (kN, .inl (cI, 2, .inl (fun _ => 0))), (kA, .inl (cI, 2, .inl (fun _ => 0)))]) [0, 1, 2] rfl
    have hDc := hD.sub (ws' := [(k0, .inr (10, [.ref kN, .ref kA, .ref kO, .ref kK, .ref kV, .ref kG, .ref kP, .ref kC, .ref kD, .ref kE, .ref kF, .ref kX, .ref kY, .int 0, .ref kT, .ref kU, .int 0, .int 0, .int 0])), (kN, .inl (cI, 2, .inl (fun _ => 0))), (kA, .inl (cI, 2, .inl (fun _ => 0)))]) [0, 1, 2] (by decide) rfl
    have hKc := hK.sub (tys' := [(cI, .int)]) [0] rfl
    have hFc := va_free (wc := [(k0, .inr (10, [.ref kN, .ref kA, .ref kO, .ref kK, .ref kV, .ref kG, .ref kP, .ref kC, .ref kD, .ref kE, .ref kF, .ref kX, .ref kY, .int 0, .ref kT, .ref kU, .int 0, .int 0, .int 0])), (kN, .inl (cI, 2, .inl (fun _ => 0))), (kA, .inl (cI, 2, .inl (fun _ => 0)))]) hD hS hA [0, 1, 2] rfl
    refine va_calli (va_runV (As := [.int (xs 1)]) (rest := []) ⟨hx, hb, hml, hown, hts⟩ (kX7_matchedNet l dC dI k0 kN kA kO kK kV kG kP kC kD kE kF kX kY kT kU cI (xs 1) H.size) (cwV 1 hts gL_law_X7_matchedNet rfl rfl rfl (by decide +kernel) ⟨Nat.le_of_ble_eq_true rfl, Nat.le_of_ble_eq_true rfl⟩) (fPreV hN hZ hS (fun q h => hFc q h) hPc hKc hDc (ci := 10) (q0 := 0) rfl rfl) rfl rfl hl.1 rfl (lv_room (Nat.le_of_ble_eq_true rfl)) dL_law_2057 ⟨Nat.le_of_ble_eq_true rfl, Nat.le_of_ble_eq_true rfl⟩) hS (fun q _ h => hFc q h) hFc (fun r u t H1 locs ht hvm hw hB hz1 hk1 hS => ?_)
    obtain ⟨hP1, hK1, hD1⟩ := hB
    rw [ht] at hP1
    have hK1 := va_K.moved hvm.symm hK1
    obtain ⟨u4, rfl⟩ : ∃ z, z = u := ⟨_, rfl⟩
    obtain ⟨hP, hD⟩ := va_join (wr := [(oJ, .inl (cJ, 1, .inr (.inl u2)))]) (w1 := [(k0, .inr (10, [.ref kN, .ref kA, .ref kO, .ref kK, .ref kV, .ref kG, .ref kP, .ref kC, .ref kD, .ref kE, .ref kF, .ref kX, .ref kY, .int 0, .ref kT, .ref kU, .int u4, .int 0, .int 0]))]) hP hD [0, 1, 2] [3] rfl rfl (by decide) (by decide) hk1 hFc hP1 hD1
    generalize H1 = H at hP hS ⊢
    have hP : va_P (dC, dI) vwCl [(oJ, .inl (cJ, 1, .inr (.inl u2))), (k0, .inr (10, [.ref kN, .ref kA, .ref kO, .ref kK, .ref kV, .ref kG, .ref kP, .ref kC, .ref kD, .ref kE, .ref kF, .ref kX, .ref kY, .int 0, .ref kT, .ref kU, .int u4, .int 0, .int 0]))] _ := hP
    have hD : va_D A [(oJ, .inl (cJ, 1, .inr (.inl u2))), (k0, .inr (10, [.ref kN, .ref kA, .ref kO, .ref kK, .ref kV, .ref kG, .ref kP, .ref kC, .ref kD, .ref kE, .ref kF, .ref kX, .ref kY, .int 0, .ref kT, .ref kU, .int u4, .int 0, .int 0]))] := hD
    obtain ⟨r5, rfl⟩ : ∃ z, z = r := ⟨_, rfl⟩
    subst hw
    have hP : va_P (dC, dI) vwCl [(oJ, .inl (cJ, 1, .inr (.inl u2))), (k0, .inr (10, [.ref kN, .ref kA, .ref kO, .ref kK, .ref kV, .ref kG, .ref kP, .ref kC, .ref kD, .ref kE, .ref kF, .ref kX, .ref kY, .int 0, .ref kT, .ref kU, .int 1, .int 0, .int 0]))] _ := hP
    have hD : va_D A [(oJ, .inl (cJ, 1, .inr (.inl u2))), (k0, .inr (10, [.ref kN, .ref kA, .ref kO, .ref kK, .ref kV, .ref kG, .ref kP, .ref kC, .ref kD, .ref kE, .ref kF, .ref kX, .ref kY, .int 0, .ref kT, .ref kU, .int 1, .int 0, .int 0]))] := hD
    refine lv_istore (lv' := [(7, .int r5), (6, .int 1), (5, .int 0), (4, .ref oD), (3, .ref oJ), (2, .ref k0), (1, .ref h0), (0, .ref b)]) hx hb dL_law_2060 hl (Nat.le_of_ble_eq_true rfl) rfl (fun ls hl => ?_)
    refine lv_aload_n hx hb dL_law_2062 rfl (lv_at hl 5 rfl) ?_
    have hPc := hP.sub (ws' := [(k0, .inr (10, [.ref kN, .ref kA, .ref kO, .ref kK, .ref kV, .ref kG, .ref kP, .ref kC, .ref kD, .ref kE, .ref kF, .ref kX, .ref kY, .int 0, .ref kT, .ref kU, .int 1, .int 0, .int 0]))]) [1] rfl
    have hDc := hD.sub (ws' := [(k0, .inr (10, [.ref kN, .ref kA, .ref kO, .ref kK, .ref kV, .ref kG, .ref kP, .ref kC, .ref kD, .ref kE, .ref kF, .ref kX, .ref kY, .int 0, .ref kT, .ref kU, .int 1, .int 0, .int 0]))]) [1] (by decide) rfl
    have hKc := hK.sub (tys' := []) [] rfl
    have hFc := va_free (wc := [(k0, .inr (10, [.ref kN, .ref kA, .ref kO, .ref kK, .ref kV, .ref kG, .ref kP, .ref kC, .ref kD, .ref kE, .ref kF, .ref kX, .ref kY, .int 0, .ref kT, .ref kU, .int 1, .int 0, .int 0]))]) hD hS hA [1] rfl
    refine va_calli (va_runV (As := []) (rest := []) ⟨hx, hb, hml, hown, hts⟩ (kX7_thrown l dC dI k0 kN kA kO kK kV kG kP kC kD kE kF kX kY kT kU 1 H.size) (cwV 0 hts gL_law_X7_thrown rfl rfl rfl (by decide +kernel) ⟨Nat.le_of_ble_eq_true rfl, Nat.le_of_ble_eq_true rfl⟩) (fPreV hN hZ hS (fun q h => hFc q h) hPc hKc hDc (ci := 10) (q0 := 0) rfl rfl) rfl rfl hl.1 rfl (lv_room (Nat.le_of_ble_eq_true rfl)) dL_law_2063 ⟨Nat.le_of_ble_eq_true rfl, Nat.le_of_ble_eq_true rfl⟩) hS (fun q _ h => hFc q h) hFc (fun r u t H1 locs ht hvm hw hB hz1 hk1 hS => ?_)
    obtain ⟨hP1, hK1, hD1⟩ := hB
    rw [ht] at hP1
    have hK1 := va_K.moved hvm.symm hK1
    obtain ⟨hP, hD⟩ := va_join (wr := [(oJ, .inl (cJ, 1, .inr (.inl u2)))]) (w1 := []) hP hD [1] [0] rfl rfl (by decide) (by decide) hk1 hFc hP1 hD1
    generalize H1 = H at hP hS ⊢
    have hP : va_P (dC, dI) vwCl [(oJ, .inl (cJ, 1, .inr (.inl u2)))] _ := hP
    have hD : va_D A [(oJ, .inl (cJ, 1, .inr (.inl u2)))] := hD
    subst hw
    refine lv_iload hx hb dL_law_2066 (lv_at hl 1 rfl) ?_
    refine lv_icmp_eq (tgt := 2073) hx hb dL_law_2068 (by decide) (fun _ => ?_) (fun h9 => absurd (by decide) h9)
    refine lv_iload hx hb dL_law_2073 (lv_at hl 1 rfl) ?_
    refine lv_if_ne (tgt := 2090) hx hb dL_law_2075 (by decide) (fun _ => ?_) (fun h9 => absurd h9 (by decide))
    refine lv_goto (tgt := 2720) hx hb dL_law_2090 (by decide) ?_
    refine lv_iinc (v := 7) (lv' := [(5, .int 7), (7, .int r5), (6, .int 1), (4, .ref oD), (3, .ref oJ), (2, .ref k0), (1, .ref h0), (0, .ref b)]) hx hb dL_law_2720 hl (k := 2) rfl (by decide) (Nat.le_of_ble_eq_true rfl) rfl (fun ls hl => ?_)
    refine lv_goto (tgt := 28) hx hb dL_law_2723 (by decide) ?_
    refine lv_iload hx hb dL_law_28 (lv_at hl 0 rfl) ?_
    refine lv_aload_n hx hb dL_law_30 rfl (lv_at hl 7 rfl) ?_
    refine va_slen hx hb hX9 hbl hbA hS dL_law_31 ?_
    refine W.eq (g2 := F0 m 32 ls [.int 7, .int 7]) rfl ?_
    refine lv_bipush (v := 7) hx hb dL_law_32 (by decide) ?_
    refine lv_isub hx hb dL_law_34 ?_
    refine lv_topi (fun y6 ey6 => ?_)
    obtain rfl : y6 = 0 := ey6.trans (by decide)
    refine lv_icmp_gt (tgt := 2726) hx hb dL_law_35 (by decide) (fun _ => ?_) (fun h9 => absurd (by decide) h9)
    refine lv_iconst (v := 1) hx hb dL_law_2726 (by decide) ?_
    refine va_forget (fun q hq => hAe _ (hS.2.2 q hq)) ?_
    refine W.widen (k := 603072) (n := 7198826) (Nat.le_of_ble_eq_true rfl) (Nat.le_of_ble_eq_true rfl) ?_
    exact W.base (lw_ret (d0 := s.drawn) (Drawn.sameBut.refl _ _) hx hb hr hlk dL_law_2727)

set_option maxHeartbeats 4000000 in
set_option maxRecDepth 100000 in
/-- case 30 of the law: netByTrying, on fresh objects -/
theorem lc_30 {p : Program} {e : Env} {s : State} {m : MethodId} {below : List Frame} {meth : Method} {c : Code} (l : Launch) (hfl : l.stackTraces = false) {b : Nat} {xs : Nat → Int32} (hx : p.tables.exec = Jvm.exec) (hb : c.code = cL_law) (hr : meth.sig.returnType = ret) (hml : c.maxLocals = 9) (hown : s.vm.findClass RL = some m.cls) (hts : ∀ w ∈ wsL_law, w.before #[Value.ref b] s = true) (hlk : meth.locks = false) (A : Nat → Prop) (hAe : ∀ q, A q → s.heap.size ≤ q) (hA : ∀ q : Nat, s.heap.size ≤ q → A q) (hX9 : va_X b 7 xs s s.heap) (hbl : b < s.heap.size) (hN : fN s) (hZ : fZ A s s.heap) (hX : fX s) (dC : Nat → ClassId) (dI : Nat → Nat → Nat) (h0 w d wL wP wS dL dP dS co un ma tm k0 kN kA kO kK kV kG kP kC kD kE kF kX kY kT kU oJ oD : Nat) (cI cJ : ClassId) {H : Heap} {locs : List Loc} {ls : Array Slot} (hK : va_K (dC, dI) vwCl [(cI, .int), (cJ, .long)] s) (hP : va_P (dC, dI) vwCl [(h0, .inr (9, [.ref w, .ref d, .ref co, .ref un, .ref ma, .ref tm, .int 0, .int 0, .int 0])), (w, .inr (3, [.int 0, .int 0, .ref wL, .ref wP, .ref wS])), (d, .inr (3, [.int 0, .int 0, .ref dL, .ref dP, .ref dS])), (k0, .inr (10, [.ref kN, .ref kA, .ref kO, .ref kK, .ref kV, .ref kG, .ref kP, .ref kC, .ref kD, .ref kE, .ref kF, .ref kX, .ref kY, .int 0, .ref kT, .ref kU, .int 0, .int 0, .int 0])), (kN, .inl (cI, 2, .inl (fun _ => 0))), (kA, .inl (cI, 2, .inl (fun _ => 0))), (oJ, .inl (cJ, 1, .inr (.inl (fun _ => 0))))] H) (hD : va_D A [(h0, .inr (9, [.ref w, .ref d, .ref co, .ref un, .ref ma, .ref tm, .int 0, .int 0, .int 0])), (w, .inr (3, [.int 0, .int 0, .ref wL, .ref wP, .ref wS])), (d, .inr (3, [.int 0, .int 0, .ref dL, .ref dP, .ref dS])), (k0, .inr (10, [.ref kN, .ref kA, .ref kO, .ref kK, .ref kV, .ref kG, .ref kP, .ref kC, .ref kD, .ref kE, .ref kF, .ref kX, .ref kY, .int 0, .ref kT, .ref kU, .int 0, .int 0, .int 0])), (kN, .inl (cI, 2, .inl (fun _ => 0))), (kA, .inl (cI, 2, .inl (fun _ => 0))), (oJ, .inl (cJ, 1, .inr (.inl (fun _ => 0))))]) (hS : va_S A s.heap H locs) (hl : lv_has ls 9 [(5, .int 0), (4, .ref oD), (3, .ref oJ), (2, .ref k0), (1, .ref h0), (0, .ref b)]) : W p l e room_1 s m #[Value.ref b] below meth c H locs 148 2317 (lw_Z below #[Value.ref b] s) (F0 m 2093 ls []) := by
  have hbA : ¬ A b := fun h => Nat.not_le.mpr hbl (hAe _ h)
  have hX0 := hX
  refine lv_aload_n hx hb dL_law_2093 rfl (lv_at hl 4 rfl) ?_
  refine lv_aload_n hx hb dL_law_2094 rfl (lv_at hl 5 rfl) ?_
  refine lv_iload hx hb dL_law_2095 (lv_at hl 0 rfl) ?_
  refine lv_iconst (v := 1) hx hb dL_law_2097 (by decide) ?_
  refine lv_iadd hx hb dL_law_2098 ?_
  refine lv_topi (fun y1 ey1 => ?_)
  obtain rfl : y1 = 1 := ey1.trans (by decide)
  refine va_sld hx hb hX9 hbl hbA hS (show ¬ (_ ∨ _) by decide) dL_law_2099 ?_
  refine W.eq (g2 := F0 m 2100 ls [.int (xs 1), .ref h0]) rfl ?_
  refine lv_aload_n hx hb dL_law_2100 rfl (lv_at hl 2 rfl) ?_
  have hPc := hP.sub (ws' := [(h0, .inr (9, [.ref w, .ref d, .ref co, .ref un, .ref ma, .ref tm, .int 0, .int 0, .int 0])), (w, .inr (3, [.int 0, .int 0, .ref wL, .ref wP, .ref wS])), (d, .inr (3, [.int 0, .int 0, .ref dL, .ref dP, .ref dS])), (oJ, .inl (cJ, 1, .inr (.inl (fun _ => 0))))]) [0, 1, 2, 6] rfl
  have hDc := hD.sub (ws' := [(h0, .inr (9, [.ref w, .ref d, .ref co, .ref un, .ref ma, .ref tm, .int 0, .int 0, .int 0])), (w, .inr (3, [.int 0, .int 0, .ref wL, .ref wP, .ref wS])), (d, .inr (3, [.int 0, .int 0, .ref dL, .ref dP, .ref dS])), (oJ, .inl (cJ, 1, .inr (.inl (fun _ => 0))))]) [0, 1, 2, 6] (by decide) rfl
  have hKc := hK.sub (tys' := [(cJ, .long)]) [1] rfl
  have hFc := va_free (wc := [(h0, .inr (9, [.ref w, .ref d, .ref co, .ref un, .ref ma, .ref tm, .int 0, .int 0, .int 0])), (w, .inr (3, [.int 0, .int 0, .ref wL, .ref wP, .ref wS])), (d, .inr (3, [.int 0, .int 0, .ref dL, .ref dP, .ref dS])), (oJ, .inl (cJ, 1, .inr (.inl (fun _ => 0))))]) hD hS hA [0, 1, 2, 6] rfl
  refine vx_calli (vx_runSX (As := [.ref h0, .int (xs 1), .ref oJ]) (rest := []) ⟨hx, hb, hml, hown, hts⟩ (kL_netByTrying l hfl dC dI h0 w d co un ma tm wL wP wS dL dP dS oJ cJ (xs 1) H.size) (vx_cwSW 3 hts gL_law_L_netByTrying rfl rfl rfl (by decide +kernel) ⟨Nat.le_of_ble_eq_true rfl, Nat.le_of_ble_eq_true rfl⟩) (gPreS hX hN hZ hS (fun q h => hFc q h) hPc hKc hDc) rfl rfl hl.1 rfl (lv_room (Nat.le_of_ble_eq_true rfl)) dL_law_2101 ⟨Nat.le_of_ble_eq_true rfl, Nat.le_of_ble_eq_true rfl⟩) hS (fun q _ h => hFc q h) hFc (fun q _ h => hFc q h) (fun E ce q9 u t H locs ht hvm hpx hE hz1 hk1 hS hq9 hv9 hc9 => ?_) (fun r u t H1 locs ht hvm hw hB hz1 hk1 hS => ?_)
  · skip
    exact hE.elim
  · skip
    obtain ⟨hP1, hK1, hD1⟩ := hB
    rw [ht] at hP1
    have hK1 := va_K.moved hvm.symm hK1
    obtain ⟨u2, rfl⟩ : ∃ z, z = u := ⟨_, rfl⟩
    obtain ⟨hP, hD⟩ := va_join (wr := [(k0, .inr (10, [.ref kN, .ref kA, .ref kO, .ref kK, .ref kV, .ref kG, .ref kP, .ref kC, .ref kD, .ref kE, .ref kF, .ref kX, .ref kY, .int 0, .ref kT, .ref kU, .int 0, .int 0, .int 0])), (kN, .inl (cI, 2, .inl (fun _ => 0))), (kA, .inl (cI, 2, .inl (fun _ => 0)))]) (w1 := [(oJ, .inl (cJ, 1, .inr (.inl u2)))]) hP hD [0, 1, 2, 6] [3, 4, 5] rfl rfl (by decide) (by decide) hk1 hFc hP1 hD1
    generalize H1 = H at hP hS ⊢
    have hP : va_P (dC, dI) vwCl [(k0, .inr (10, [.ref kN, .ref kA, .ref kO, .ref kK, .ref kV, .ref kG, .ref kP, .ref kC, .ref kD, .ref kE, .ref kF, .ref kX, .ref kY, .int 0, .ref kT, .ref kU, .int 0, .int 0, .int 0])), (kN, .inl (cI, 2, .inl (fun _ => 0))), (kA, .inl (cI, 2, .inl (fun _ => 0))), (oJ, .inl (cJ, 1, .inr (.inl u2)))] _ := hP
    have hD : va_D A [(k0, .inr (10, [.ref kN, .ref kA, .ref kO, .ref kK, .ref kV, .ref kG, .ref kP, .ref kC, .ref kD, .ref kE, .ref kF, .ref kX, .ref kY, .int 0, .ref kT, .ref kU, .int 0, .int 0, .int 0])), (kN, .inl (cI, 2, .inl (fun _ => 0))), (kA, .inl (cI, 2, .inl (fun _ => 0))), (oJ, .inl (cJ, 1, .inr (.inl u2)))] := hD
    refine W.widen (k := 149) (n := 2323) (Nat.le_of_ble_eq_true rfl) (Nat.le_of_ble_eq_true rfl) ?_
    subst hw
    refine lv_istore (lv' := [(6, .int 1), (5, .int 0), (4, .ref oD), (3, .ref oJ), (2, .ref k0), (1, .ref h0), (0, .ref b)]) hx hb dL_law_2104 hl (Nat.le_of_ble_eq_true rfl) rfl (fun ls hl => ?_)
    refine lv_aload_n hx hb dL_law_2106 rfl (lv_at hl 4 rfl) ?_
    refine lv_aload_n hx hb dL_law_2107 rfl (lv_at hl 6 rfl) ?_
    refine lv_iload hx hb dL_law_2108 (lv_at hl 1 rfl) ?_
    refine lv_iconst (v := 1) hx hb dL_law_2110 (by decide) ?_
    refine lv_iadd hx hb dL_law_2111 ?_
    refine lv_topi (fun y3 ey3 => ?_)
    obtain rfl : y3 = 1 := ey3.trans (by decide)
    refine va_sld hx hb hX9 hbl hbA hS (show ¬ (_ ∨ _) by decide) dL_law_2112 ?_
    refine W.eq (g2 := F0 m 2113 ls [.int (xs 1), .ref k0]) rfl ?_
    have hPc := hP.sub (ws' := [(k0, .inr (10, [.ref kN, .ref kA, .ref kO, .ref kK, .ref kV, .ref kG, .ref kP, .ref kC, .ref kD, .ref kE, .ref kF, .ref kX, .ref kY, .int 0, .ref kT, .ref kU, .int 0, .int 0, .int 0])), (kN, .inl (cI, 2, .inl (fun _ => 0))), (kA, .inl (cI, 2, .inl (fun _ => 0)))]) [0, 1, 2] rfl
    have hDc := hD.sub (ws' := [(k0, .inr (10, [.ref kN, .ref kA, .ref kO, .ref kK, .ref kV, .ref kG, .ref kP, .ref kC, .ref kD, .ref kE, .ref kF, .ref kX, .ref kY, .int 0, .ref kT, .ref kU, .int 0, .int 0, .int 0])), (kN, .inl (cI, 2, .inl (fun _ => 0))), (kA, .inl (cI, 2, .inl (fun _ => 0)))]) [0, 1, 2] (by decide) rfl
    have hKc := hK.sub (tys' := [(cI, .int)]) [0] rfl
    have hFc := va_free (wc := [(k0, .inr (10, [.ref kN, .ref kA, .ref kO, .ref kK, .ref kV, .ref kG, .ref kP, .ref kC, .ref kD, .ref kE, .ref kF, .ref kX, .ref kY, .int 0, .ref kT, .ref kU, .int 0, .int 0, .int 0])), (kN, .inl (cI, 2, .inl (fun _ => 0))), (kA, .inl (cI, 2, .inl (fun _ => 0)))]) hD hS hA [0, 1, 2] rfl
    refine va_calli (va_runV (As := [.int (xs 1)]) (rest := []) ⟨hx, hb, hml, hown, hts⟩ (kX7_netByTrying l dC dI k0 kN kA kO kK kV kG kP kC kD kE kF kX kY kT kU cI (xs 1) H.size) (cwV 1 hts gL_law_X7_netByTrying rfl rfl rfl (by decide +kernel) ⟨Nat.le_of_ble_eq_true rfl, Nat.le_of_ble_eq_true rfl⟩) (fPreV hN hZ hS (fun q h => hFc q h) hPc hKc hDc (ci := 10) (q0 := 0) rfl rfl) rfl rfl hl.1 rfl (lv_room (Nat.le_of_ble_eq_true rfl)) dL_law_2113 ⟨Nat.le_of_ble_eq_true rfl, Nat.le_of_ble_eq_true rfl⟩) hS (fun q _ h => hFc q h) hFc (fun r u t H1 locs ht hvm hw hB hz1 hk1 hS => ?_)
    obtain ⟨hP1, hK1, hD1⟩ := hB
    rw [ht] at hP1
    have hK1 := va_K.moved hvm.symm hK1
    obtain ⟨u4, rfl⟩ : ∃ z, z = u := ⟨_, rfl⟩
    obtain ⟨hP, hD⟩ := va_join (wr := [(oJ, .inl (cJ, 1, .inr (.inl u2)))]) (w1 := [(k0, .inr (10, [.ref kN, .ref kA, .ref kO, .ref kK, .ref kV, .ref kG, .ref kP, .ref kC, .ref kD, .ref kE, .ref kF, .ref kX, .ref kY, .int 0, .ref kT, .ref kU, .int u4, .int 0, .int 0]))]) hP hD [0, 1, 2] [3] rfl rfl (by decide) (by decide) hk1 hFc hP1 hD1
    generalize H1 = H at hP hS ⊢
    have hP : va_P (dC, dI) vwCl [(oJ, .inl (cJ, 1, .inr (.inl u2))), (k0, .inr (10, [.ref kN, .ref kA, .ref kO, .ref kK, .ref kV, .ref kG, .ref kP, .ref kC, .ref kD, .ref kE, .ref kF, .ref kX, .ref kY, .int 0, .ref kT, .ref kU, .int u4, .int 0, .int 0]))] _ := hP
    have hD : va_D A [(oJ, .inl (cJ, 1, .inr (.inl u2))), (k0, .inr (10, [.ref kN, .ref kA, .ref kO, .ref kK, .ref kV, .ref kG, .ref kP, .ref kC, .ref kD, .ref kE, .ref kF, .ref kX, .ref kY, .int 0, .ref kT, .ref kU, .int u4, .int 0, .int 0]))] := hD
    obtain ⟨r5, rfl⟩ : ∃ z, z = r := ⟨_, rfl⟩
    subst hw
    have hP : va_P (dC, dI) vwCl [(oJ, .inl (cJ, 1, .inr (.inl u2))), (k0, .inr (10, [.ref kN, .ref kA, .ref kO, .ref kK, .ref kV, .ref kG, .ref kP, .ref kC, .ref kD, .ref kE, .ref kF, .ref kX, .ref kY, .int 0, .ref kT, .ref kU, .int 1, .int 0, .int 0]))] _ := hP
    have hD : va_D A [(oJ, .inl (cJ, 1, .inr (.inl u2))), (k0, .inr (10, [.ref kN, .ref kA, .ref kO, .ref kK, .ref kV, .ref kG, .ref kP, .ref kC, .ref kD, .ref kE, .ref kF, .ref kX, .ref kY, .int 0, .ref kT, .ref kU, .int 1, .int 0, .int 0]))] := hD
    refine lv_istore (lv' := [(7, .int r5), (6, .int 1), (5, .int 0), (4, .ref oD), (3, .ref oJ), (2, .ref k0), (1, .ref h0), (0, .ref b)]) hx hb dL_law_2116 hl (Nat.le_of_ble_eq_true rfl) rfl (fun ls hl => ?_)
    refine lv_aload_n hx hb dL_law_2118 rfl (lv_at hl 5 rfl) ?_
    have hPc := hP.sub (ws' := [(k0, .inr (10, [.ref kN, .ref kA, .ref kO, .ref kK, .ref kV, .ref kG, .ref kP, .ref kC, .ref kD, .ref kE, .ref kF, .ref kX, .ref kY, .int 0, .ref kT, .ref kU, .int 1, .int 0, .int 0]))]) [1] rfl
    have hDc := hD.sub (ws' := [(k0, .inr (10, [.ref kN, .ref kA, .ref kO, .ref kK, .ref kV, .ref kG, .ref kP, .ref kC, .ref kD, .ref kE, .ref kF, .ref kX, .ref kY, .int 0, .ref kT, .ref kU, .int 1, .int 0, .int 0]))]) [1] (by decide) rfl
    have hKc := hK.sub (tys' := []) [] rfl
    have hFc := va_free (wc := [(k0, .inr (10, [.ref kN, .ref kA, .ref kO, .ref kK, .ref kV, .ref kG, .ref kP, .ref kC, .ref kD, .ref kE, .ref kF, .ref kX, .ref kY, .int 0, .ref kT, .ref kU, .int 1, .int 0, .int 0]))]) hD hS hA [1] rfl
    refine va_calli (va_runV (As := []) (rest := []) ⟨hx, hb, hml, hown, hts⟩ (kX7_thrown l dC dI k0 kN kA kO kK kV kG kP kC kD kE kF kX kY kT kU 1 H.size) (cwV 0 hts gL_law_X7_thrown rfl rfl rfl (by decide +kernel) ⟨Nat.le_of_ble_eq_true rfl, Nat.le_of_ble_eq_true rfl⟩) (fPreV hN hZ hS (fun q h => hFc q h) hPc hKc hDc (ci := 10) (q0 := 0) rfl rfl) rfl rfl hl.1 rfl (lv_room (Nat.le_of_ble_eq_true rfl)) dL_law_2119 ⟨Nat.le_of_ble_eq_true rfl, Nat.le_of_ble_eq_true rfl⟩) hS (fun q _ h => hFc q h) hFc (fun r u t H1 locs ht hvm hw hB hz1 hk1 hS => ?_)
    obtain ⟨hP1, hK1, hD1⟩ := hB
    rw [ht] at hP1
    have hK1 := va_K.moved hvm.symm hK1
    obtain ⟨hP, hD⟩ := va_join (wr := [(oJ, .inl (cJ, 1, .inr (.inl u2)))]) (w1 := []) hP hD [1] [0] rfl rfl (by decide) (by decide) hk1 hFc hP1 hD1
    generalize H1 = H at hP hS ⊢
    have hP : va_P (dC, dI) vwCl [(oJ, .inl (cJ, 1, .inr (.inl u2)))] _ := hP
    have hD : va_D A [(oJ, .inl (cJ, 1, .inr (.inl u2)))] := hD
    subst hw
    refine lv_iload hx hb dL_law_2122 (lv_at hl 1 rfl) ?_
    refine lv_icmp_eq (tgt := 2129) hx hb dL_law_2124 (by decide) (fun _ => ?_) (fun h9 => absurd (by decide) h9)
    refine lv_iload hx hb dL_law_2129 (lv_at hl 1 rfl) ?_
    refine lv_if_ne (tgt := 2146) hx hb dL_law_2131 (by decide) (fun _ => ?_) (fun h9 => absurd h9 (by decide))
    refine lv_goto (tgt := 2720) hx hb dL_law_2146 (by decide) ?_
    refine lv_iinc (v := 7) (lv' := [(5, .int 7), (7, .int r5), (6, .int 1), (4, .ref oD), (3, .ref oJ), (2, .ref k0), (1, .ref h0), (0, .ref b)]) hx hb dL_law_2720 hl (k := 2) rfl (by decide) (Nat.le_of_ble_eq_true rfl) rfl (fun ls hl => ?_)
    refine lv_goto (tgt := 28) hx hb dL_law_2723 (by decide) ?_
    refine lv_iload hx hb dL_law_28 (lv_at hl 0 rfl) ?_
    refine lv_aload_n hx hb dL_law_30 rfl (lv_at hl 7 rfl) ?_
    refine va_slen hx hb hX9 hbl hbA hS dL_law_31 ?_
    refine W.eq (g2 := F0 m 32 ls [.int 7, .int 7]) rfl ?_
    refine lv_bipush (v := 7) hx hb dL_law_32 (by decide) ?_
    refine lv_isub hx hb dL_law_34 ?_
    refine lv_topi (fun y6 ey6 => ?_)
    obtain rfl : y6 = 0 := ey6.trans (by decide)
    refine lv_icmp_gt (tgt := 2726) hx hb dL_law_35 (by decide) (fun _ => ?_) (fun h9 => absurd (by decide) h9)
    refine lv_iconst (v := 1) hx hb dL_law_2726 (by decide) ?_
    refine va_forget (fun q hq => hAe _ (hS.2.2 q hq)) ?_
    refine W.widen (k := 603072) (n := 7198826) (Nat.le_of_ble_eq_true rfl) (Nat.le_of_ble_eq_true rfl) ?_
    exact W.base (lw_ret (d0 := s.drawn) (Drawn.sameBut.refl _ _) hx hb hr hlk dL_law_2727)

set_option maxHeartbeats 4000000 in
set_option maxRecDepth 100000 in
/-- case 31 of the law: matchedPart, on fresh objects -/
theorem lc_31 {p : Program} {e : Env} {s : State} {m : MethodId} {below : List Frame} {meth : Method} {c : Code} (l : Launch) (hfl : l.stackTraces = false) {b : Nat} {xs : Nat → Int32} (hx : p.tables.exec = Jvm.exec) (hb : c.code = cL_law) (hr : meth.sig.returnType = ret) (hml : c.maxLocals = 9) (hown : s.vm.findClass RL = some m.cls) (hts : ∀ w ∈ wsL_law, w.before #[Value.ref b] s = true) (hlk : meth.locks = false) (A : Nat → Prop) (hAe : ∀ q, A q → s.heap.size ≤ q) (hA : ∀ q : Nat, s.heap.size ≤ q → A q) (hX9 : va_X b 7 xs s s.heap) (hbl : b < s.heap.size) (hN : fN s) (hZ : fZ A s s.heap) (hX : fX s) (dC : Nat → ClassId) (dI : Nat → Nat → Nat) (h0 w d wL wP wS dL dP dS co un ma tm k0 kN kA kO kK kV kG kP kC kD kE kF kX kY kT kU oJ oD : Nat) (cI cJ : ClassId) {H : Heap} {locs : List Loc} {ls : Array Slot} (hK : va_K (dC, dI) vwCl [(cI, .int), (cJ, .long)] s) (hP : va_P (dC, dI) vwCl [(h0, .inr (9, [.ref w, .ref d, .ref co, .ref un, .ref ma, .ref tm, .int 0, .int 0, .int 0])), (w, .inr (3, [.int 0, .int 0, .ref wL, .ref wP, .ref wS])), (d, .inr (3, [.int 0, .int 0, .ref dL, .ref dP, .ref dS])), (k0, .inr (10, [.ref kN, .ref kA, .ref kO, .ref kK, .ref kV, .ref kG, .ref kP, .ref kC, .ref kD, .ref kE, .ref kF, .ref kX, .ref kY, .int 0, .ref kT, .ref kU, .int 0, .int 0, .int 0])), (kN, .inl (cI, 2, .inl (fun _ => 0))), (kA, .inl (cI, 2, .inl (fun _ => 0))), (oJ, .inl (cJ, 1, .inr (.inl (fun _ => 0))))] H) (hD : va_D A [(h0, .inr (9, [.ref w, .ref d, .ref co, .ref un, .ref ma, .ref tm, .int 0, .int 0, .int 0])), (w, .inr (3, [.int 0, .int 0, .ref wL, .ref wP, .ref wS])), (d, .inr (3, [.int 0, .int 0, .ref dL, .ref dP, .ref dS])), (k0, .inr (10, [.ref kN, .ref kA, .ref kO, .ref kK, .ref kV, .ref kG, .ref kP, .ref kC, .ref kD, .ref kE, .ref kF, .ref kX, .ref kY, .int 0, .ref kT, .ref kU, .int 0, .int 0, .int 0])), (kN, .inl (cI, 2, .inl (fun _ => 0))), (kA, .inl (cI, 2, .inl (fun _ => 0))), (oJ, .inl (cJ, 1, .inr (.inl (fun _ => 0))))]) (hS : va_S A s.heap H locs) (hl : lv_has ls 9 [(5, .int 0), (4, .ref oD), (3, .ref oJ), (2, .ref k0), (1, .ref h0), (0, .ref b)]) : W p l e room_1 s m #[Value.ref b] below meth c H locs 148 2317 (lw_Z below #[Value.ref b] s) (F0 m 2149 ls []) := by
  have hbA : ¬ A b := fun h => Nat.not_le.mpr hbl (hAe _ h)
  have hX0 := hX
  refine lv_aload_n hx hb dL_law_2149 rfl (lv_at hl 4 rfl) ?_
  refine lv_aload_n hx hb dL_law_2150 rfl (lv_at hl 5 rfl) ?_
  refine lv_iload hx hb dL_law_2151 (lv_at hl 0 rfl) ?_
  refine lv_iconst (v := 1) hx hb dL_law_2153 (by decide) ?_
  refine lv_iadd hx hb dL_law_2154 ?_
  refine lv_topi (fun y1 ey1 => ?_)
  obtain rfl : y1 = 1 := ey1.trans (by decide)
  refine va_sld hx hb hX9 hbl hbA hS (show ¬ (_ ∨ _) by decide) dL_law_2155 ?_
  refine W.eq (g2 := F0 m 2156 ls [.int (xs 1), .ref h0]) rfl ?_
  refine lv_aload_n hx hb dL_law_2156 rfl (lv_at hl 2 rfl) ?_
  have hPc := hP.sub (ws' := [(h0, .inr (9, [.ref w, .ref d, .ref co, .ref un, .ref ma, .ref tm, .int 0, .int 0, .int 0])), (w, .inr (3, [.int 0, .int 0, .ref wL, .ref wP, .ref wS])), (d, .inr (3, [.int 0, .int 0, .ref dL, .ref dP, .ref dS])), (oJ, .inl (cJ, 1, .inr (.inl (fun _ => 0))))]) [0, 1, 2, 6] rfl
  have hDc := hD.sub (ws' := [(h0, .inr (9, [.ref w, .ref d, .ref co, .ref un, .ref ma, .ref tm, .int 0, .int 0, .int 0])), (w, .inr (3, [.int 0, .int 0, .ref wL, .ref wP, .ref wS])), (d, .inr (3, [.int 0, .int 0, .ref dL, .ref dP, .ref dS])), (oJ, .inl (cJ, 1, .inr (.inl (fun _ => 0))))]) [0, 1, 2, 6] (by decide) rfl
  have hKc := hK.sub (tys' := [(cJ, .long)]) [1] rfl
  have hFc := va_free (wc := [(h0, .inr (9, [.ref w, .ref d, .ref co, .ref un, .ref ma, .ref tm, .int 0, .int 0, .int 0])), (w, .inr (3, [.int 0, .int 0, .ref wL, .ref wP, .ref wS])), (d, .inr (3, [.int 0, .int 0, .ref dL, .ref dP, .ref dS])), (oJ, .inl (cJ, 1, .inr (.inl (fun _ => 0))))]) hD hS hA [0, 1, 2, 6] rfl
  refine vx_calli (vx_runSX (As := [.ref h0, .int (xs 1), .ref oJ]) (rest := []) ⟨hx, hb, hml, hown, hts⟩ (kL_matchedPart l hfl dC dI h0 w d co un ma tm wL wP wS dL dP dS oJ cJ (xs 1) H.size) (vx_cwSW 3 hts gL_law_L_matchedPart rfl rfl rfl (by decide +kernel) ⟨Nat.le_of_ble_eq_true rfl, Nat.le_of_ble_eq_true rfl⟩) (gPreS hX hN hZ hS (fun q h => hFc q h) hPc hKc hDc) rfl rfl hl.1 rfl (lv_room (Nat.le_of_ble_eq_true rfl)) dL_law_2157 ⟨Nat.le_of_ble_eq_true rfl, Nat.le_of_ble_eq_true rfl⟩) hS (fun q _ h => hFc q h) hFc (fun q _ h => hFc q h) (fun E ce q9 u t H locs ht hvm hpx hE hz1 hk1 hS hq9 hv9 hc9 => ?_) (fun r u t H1 locs ht hvm hw hB hz1 hk1 hS => ?_)
  · skip
    exact hE.elim
  · skip
    obtain ⟨hP1, hK1, hD1⟩ := hB
    rw [ht] at hP1
    have hK1 := va_K.moved hvm.symm hK1
    obtain ⟨u2, rfl⟩ : ∃ z, z = u := ⟨_, rfl⟩
    obtain ⟨hP, hD⟩ := va_join (wr := [(k0, .inr (10, [.ref kN, .ref kA, .ref kO, .ref kK, .ref kV, .ref kG, .ref kP, .ref kC, .ref kD, .ref kE, .ref kF, .ref kX, .ref kY, .int 0, .ref kT, .ref kU, .int 0, .int 0, .int 0])), (kN, .inl (cI, 2, .inl (fun _ => 0))), (kA, .inl (cI, 2, .inl (fun _ => 0)))]) (w1 := [(oJ, .inl (cJ, 1, .inr (.inl u2)))]) hP hD [0, 1, 2, 6] [3, 4, 5] rfl rfl (by decide) (by decide) hk1 hFc hP1 hD1
    generalize H1 = H at hP hS ⊢
    have hP : va_P (dC, dI) vwCl [(k0, .inr (10, [.ref kN, .ref kA, .ref kO, .ref kK, .ref kV, .ref kG, .ref kP, .ref kC, .ref kD, .ref kE, .ref kF, .ref kX, .ref kY, .int 0, .ref kT, .ref kU, .int 0, .int 0, .int 0])), (kN, .inl (cI, 2, .inl (fun _ => 0))), (kA, .inl (cI, 2, .inl (fun _ => 0))), (oJ, .inl (cJ, 1, .inr (.inl u2)))] _ := hP
    have hD : va_D A [(k0, .inr (10, [.ref kN, .ref kA, .ref kO, .ref kK, .ref kV, .ref kG, .ref kP, .ref kC, .ref kD, .ref kE, .ref kF, .ref kX, .ref kY, .int 0, .ref kT, .ref kU, .int 0, .int 0, .int 0])), (kN, .inl (cI, 2, .inl (fun _ => 0))), (kA, .inl (cI, 2, .inl (fun _ => 0))), (oJ, .inl (cJ, 1, .inr (.inl u2)))] := hD
    refine W.widen (k := 149) (n := 2323) (Nat.le_of_ble_eq_true rfl) (Nat.le_of_ble_eq_true rfl) ?_
    subst hw
    refine lv_istore (lv' := [(6, .int 1), (5, .int 0), (4, .ref oD), (3, .ref oJ), (2, .ref k0), (1, .ref h0), (0, .ref b)]) hx hb dL_law_2160 hl (Nat.le_of_ble_eq_true rfl) rfl (fun ls hl => ?_)
    refine lv_aload_n hx hb dL_law_2162 rfl (lv_at hl 4 rfl) ?_
    refine lv_aload_n hx hb dL_law_2163 rfl (lv_at hl 6 rfl) ?_
    refine lv_iload hx hb dL_law_2164 (lv_at hl 1 rfl) ?_
    refine lv_iconst (v := 1) hx hb dL_law_2166 (by decide) ?_
    refine lv_iadd hx hb dL_law_2167 ?_
    refine lv_topi (fun y3 ey3 => ?_)
    obtain rfl : y3 = 1 := ey3.trans (by decide)
    refine va_sld hx hb hX9 hbl hbA hS (show ¬ (_ ∨ _) by decide) dL_law_2168 ?_
    refine W.eq (g2 := F0 m 2169 ls [.int (xs 1), .ref k0]) rfl ?_
    have hPc := hP.sub (ws' := [(k0, .inr (10, [.ref kN, .ref kA, .ref kO, .ref kK, .ref kV, .ref kG, .ref kP, .ref kC, .ref kD, .ref kE, .ref kF, .ref kX, .ref kY, .int 0, .ref kT, .ref kU, .int 0, .int 0, .int 0])), (kN, .inl (cI, 2, .inl (fun _ => 0))), (kA, .inl (cI, 2, .inl (fun _ => 0)))]) [0, 1, 2] rfl
    have hDc := hD.sub (ws' := [(k0, .inr (10, [.ref kN, .ref kA, .ref kO, .ref kK, .ref kV, .ref kG, .ref kP, .ref kC, .ref kD, .ref kE, .ref kF, .ref kX, .ref kY, .int 0, .ref kT, .ref kU, .int 0, .int 0, .int 0])), (kN, .inl (cI, 2, .inl (fun _ => 0))), (kA, .inl (cI, 2, .inl (fun _ => 0)))]) [0, 1, 2] (by decide) rfl
    have hKc := hK.sub (tys' := [(cI, .int)]) [0] rfl
    have hFc := va_free (wc := [(k0, .inr (10, [.ref kN, .ref kA, .ref kO, .ref kK, .ref kV, .ref kG, .ref kP, .ref kC, .ref kD, .ref kE, .ref kF, .ref kX, .ref kY, .int 0, .ref kT, .ref kU, .int 0, .int 0, .int 0])), (kN, .inl (cI, 2, .inl (fun _ => 0))), (kA, .inl (cI, 2, .inl (fun _ => 0)))]) hD hS hA [0, 1, 2] rfl
    refine va_calli (va_runV (As := [.int (xs 1)]) (rest := []) ⟨hx, hb, hml, hown, hts⟩ (kX7_matchedPart l dC dI k0 kN kA kO kK kV kG kP kC kD kE kF kX kY kT kU cI (xs 1) H.size) (cwV 1 hts gL_law_X7_matchedPart rfl rfl rfl (by decide +kernel) ⟨Nat.le_of_ble_eq_true rfl, Nat.le_of_ble_eq_true rfl⟩) (fPreV hN hZ hS (fun q h => hFc q h) hPc hKc hDc (ci := 10) (q0 := 0) rfl rfl) rfl rfl hl.1 rfl (lv_room (Nat.le_of_ble_eq_true rfl)) dL_law_2169 ⟨Nat.le_of_ble_eq_true rfl, Nat.le_of_ble_eq_true rfl⟩) hS (fun q _ h => hFc q h) hFc (fun r u t H1 locs ht hvm hw hB hz1 hk1 hS => ?_)
    obtain ⟨hP1, hK1, hD1⟩ := hB
    rw [ht] at hP1
    have hK1 := va_K.moved hvm.symm hK1
    obtain ⟨u4, rfl⟩ : ∃ z, z = u := ⟨_, rfl⟩
    obtain ⟨hP, hD⟩ := va_join (wr := [(oJ, .inl (cJ, 1, .inr (.inl u2)))]) (w1 := [(k0, .inr (10, [.ref kN, .ref kA, .ref kO, .ref kK, .ref kV, .ref kG, .ref kP, .ref kC, .ref kD, .ref kE, .ref kF, .ref kX, .ref kY, .int 0, .ref kT, .ref kU, .int u4, .int 0, .int 0]))]) hP hD [0, 1, 2] [3] rfl rfl (by decide) (by decide) hk1 hFc hP1 hD1
    generalize H1 = H at hP hS ⊢
    have hP : va_P (dC, dI) vwCl [(oJ, .inl (cJ, 1, .inr (.inl u2))), (k0, .inr (10, [.ref kN, .ref kA, .ref kO, .ref kK, .ref kV, .ref kG, .ref kP, .ref kC, .ref kD, .ref kE, .ref kF, .ref kX, .ref kY, .int 0, .ref kT, .ref kU, .int u4, .int 0, .int 0]))] _ := hP
    have hD : va_D A [(oJ, .inl (cJ, 1, .inr (.inl u2))), (k0, .inr (10, [.ref kN, .ref kA, .ref kO, .ref kK, .ref kV, .ref kG, .ref kP, .ref kC, .ref kD, .ref kE, .ref kF, .ref kX, .ref kY, .int 0, .ref kT, .ref kU, .int u4, .int 0, .int 0]))] := hD
    obtain ⟨r5, rfl⟩ : ∃ z, z = r := ⟨_, rfl⟩
    subst hw
    have hP : va_P (dC, dI) vwCl [(oJ, .inl (cJ, 1, .inr (.inl u2))), (k0, .inr (10, [.ref kN, .ref kA, .ref kO, .ref kK, .ref kV, .ref kG, .ref kP, .ref kC, .ref kD, .ref kE, .ref kF, .ref kX, .ref kY, .int 0, .ref kT, .ref kU, .int 1, .int 0, .int 0]))] _ := hP
    have hD : va_D A [(oJ, .inl (cJ, 1, .inr (.inl u2))), (k0, .inr (10, [.ref kN, .ref kA, .ref kO, .ref kK, .ref kV, .ref kG, .ref kP, .ref kC, .ref kD, .ref kE, .ref kF, .ref kX, .ref kY, .int 0, .ref kT, .ref kU, .int 1, .int 0, .int 0]))] := hD
    refine lv_istore (lv' := [(7, .int r5), (6, .int 1), (5, .int 0), (4, .ref oD), (3, .ref oJ), (2, .ref k0), (1, .ref h0), (0, .ref b)]) hx hb dL_law_2172 hl (Nat.le_of_ble_eq_true rfl) rfl (fun ls hl => ?_)
    refine lv_aload_n hx hb dL_law_2174 rfl (lv_at hl 5 rfl) ?_
    have hPc := hP.sub (ws' := [(k0, .inr (10, [.ref kN, .ref kA, .ref kO, .ref kK, .ref kV, .ref kG, .ref kP, .ref kC, .ref kD, .ref kE, .ref kF, .ref kX, .ref kY, .int 0, .ref kT, .ref kU, .int 1, .int 0, .int 0]))]) [1] rfl
    have hDc := hD.sub (ws' := [(k0, .inr (10, [.ref kN, .ref kA, .ref kO, .ref kK, .ref kV, .ref kG, .ref kP, .ref kC, .ref kD, .ref kE, .ref kF, .ref kX, .ref kY, .int 0, .ref kT, .ref kU, .int 1, .int 0, .int 0]))]) [1] (by decide) rfl
    have hKc := hK.sub (tys' := []) [] rfl
    have hFc := va_free (wc := [(k0, .inr (10, [.ref kN, .ref kA, .ref kO, .ref kK, .ref kV, .ref kG, .ref kP, .ref kC, .ref kD, .ref kE, .ref kF, .ref kX, .ref kY, .int 0, .ref kT, .ref kU, .int 1, .int 0, .int 0]))]) hD hS hA [1] rfl
    refine va_calli (va_runV (As := []) (rest := []) ⟨hx, hb, hml, hown, hts⟩ (kX7_thrown l dC dI k0 kN kA kO kK kV kG kP kC kD kE kF kX kY kT kU 1 H.size) (cwV 0 hts gL_law_X7_thrown rfl rfl rfl (by decide +kernel) ⟨Nat.le_of_ble_eq_true rfl, Nat.le_of_ble_eq_true rfl⟩) (fPreV hN hZ hS (fun q h => hFc q h) hPc hKc hDc (ci := 10) (q0 := 0) rfl rfl) rfl rfl hl.1 rfl (lv_room (Nat.le_of_ble_eq_true rfl)) dL_law_2175 ⟨Nat.le_of_ble_eq_true rfl, Nat.le_of_ble_eq_true rfl⟩) hS (fun q _ h => hFc q h) hFc (fun r u t H1 locs ht hvm hw hB hz1 hk1 hS => ?_)
    obtain ⟨hP1, hK1, hD1⟩ := hB
    rw [ht] at hP1
    have hK1 := va_K.moved hvm.symm hK1
    obtain ⟨hP, hD⟩ := va_join (wr := [(oJ, .inl (cJ, 1, .inr (.inl u2)))]) (w1 := []) hP hD [1] [0] rfl rfl (by decide) (by decide) hk1 hFc hP1 hD1
    generalize H1 = H at hP hS ⊢
    have hP : va_P (dC, dI) vwCl [(oJ, .inl (cJ, 1, .inr (.inl u2)))] _ := hP
    have hD : va_D A [(oJ, .inl (cJ, 1, .inr (.inl u2)))] := hD
    subst hw
    refine lv_iload hx hb dL_law_2178 (lv_at hl 1 rfl) ?_
    refine lv_icmp_eq (tgt := 2185) hx hb dL_law_2180 (by decide) (fun _ => ?_) (fun h9 => absurd (by decide) h9)
    refine lv_iload hx hb dL_law_2185 (lv_at hl 1 rfl) ?_
    refine lv_if_ne (tgt := 2202) hx hb dL_law_2187 (by decide) (fun _ => ?_) (fun h9 => absurd h9 (by decide))
    refine lv_goto (tgt := 2720) hx hb dL_law_2202 (by decide) ?_
    refine lv_iinc (v := 7) (lv' := [(5, .int 7), (7, .int r5), (6, .int 1), (4, .ref oD), (3, .ref oJ), (2, .ref k0), (1, .ref h0), (0, .ref b)]) hx hb dL_law_2720 hl (k := 2) rfl (by decide) (Nat.le_of_ble_eq_true rfl) rfl (fun ls hl => ?_)
    refine lv_goto (tgt := 28) hx hb dL_law_2723 (by decide) ?_
    refine lv_iload hx hb dL_law_28 (lv_at hl 0 rfl) ?_
    refine lv_aload_n hx hb dL_law_30 rfl (lv_at hl 7 rfl) ?_
    refine va_slen hx hb hX9 hbl hbA hS dL_law_31 ?_
    refine W.eq (g2 := F0 m 32 ls [.int 7, .int 7]) rfl ?_
    refine lv_bipush (v := 7) hx hb dL_law_32 (by decide) ?_
    refine lv_isub hx hb dL_law_34 ?_
    refine lv_topi (fun y6 ey6 => ?_)
    obtain rfl : y6 = 0 := ey6.trans (by decide)
    refine lv_icmp_gt (tgt := 2726) hx hb dL_law_35 (by decide) (fun _ => ?_) (fun h9 => absurd (by decide) h9)
    refine lv_iconst (v := 1) hx hb dL_law_2726 (by decide) ?_
    refine va_forget (fun q hq => hAe _ (hS.2.2 q hq)) ?_
    refine W.widen (k := 603072) (n := 7198826) (Nat.le_of_ble_eq_true rfl) (Nat.le_of_ble_eq_true rfl) ?_
    exact W.base (lw_ret (d0 := s.drawn) (Drawn.sameBut.refl _ _) hx hb hr hlk dL_law_2727)

set_option maxHeartbeats 4000000 in
set_option maxRecDepth 100000 in
/-- case 32 of the law: matchedPin, on fresh objects -/
theorem lc_32 {p : Program} {e : Env} {s : State} {m : MethodId} {below : List Frame} {meth : Method} {c : Code} (l : Launch) (hfl : l.stackTraces = false) {b : Nat} {xs : Nat → Int32} (hx : p.tables.exec = Jvm.exec) (hb : c.code = cL_law) (hr : meth.sig.returnType = ret) (hml : c.maxLocals = 9) (hown : s.vm.findClass RL = some m.cls) (hts : ∀ w ∈ wsL_law, w.before #[Value.ref b] s = true) (hlk : meth.locks = false) (A : Nat → Prop) (hAe : ∀ q, A q → s.heap.size ≤ q) (hA : ∀ q : Nat, s.heap.size ≤ q → A q) (hX9 : va_X b 7 xs s s.heap) (hbl : b < s.heap.size) (hN : fN s) (hZ : fZ A s s.heap) (hX : fX s) (dC : Nat → ClassId) (dI : Nat → Nat → Nat) (h0 w d wL wP wS dL dP dS co un ma tm k0 kN kA kO kK kV kG kP kC kD kE kF kX kY kT kU oJ oD : Nat) (cI cJ : ClassId) {H : Heap} {locs : List Loc} {ls : Array Slot} (hK : va_K (dC, dI) vwCl [(cI, .int), (cJ, .long)] s) (hP : va_P (dC, dI) vwCl [(h0, .inr (9, [.ref w, .ref d, .ref co, .ref un, .ref ma, .ref tm, .int 0, .int 0, .int 0])), (w, .inr (3, [.int 0, .int 0, .ref wL, .ref wP, .ref wS])), (d, .inr (3, [.int 0, .int 0, .ref dL, .ref dP, .ref dS])), (k0, .inr (10, [.ref kN, .ref kA, .ref kO, .ref kK, .ref kV, .ref kG, .ref kP, .ref kC, .ref kD, .ref kE, .ref kF, .ref kX, .ref kY, .int 0, .ref kT, .ref kU, .int 0, .int 0, .int 0])), (kN, .inl (cI, 2, .inl (fun _ => 0))), (kA, .inl (cI, 2, .inl (fun _ => 0))), (oJ, .inl (cJ, 1, .inr (.inl (fun _ => 0))))] H) (hD : va_D A [(h0, .inr (9, [.ref w, .ref d, .ref co, .ref un, .ref ma, .ref tm, .int 0, .int 0, .int 0])), (w, .inr (3, [.int 0, .int 0, .ref wL, .ref wP, .ref wS])), (d, .inr (3, [.int 0, .int 0, .ref dL, .ref dP, .ref dS])), (k0, .inr (10, [.ref kN, .ref kA, .ref kO, .ref kK, .ref kV, .ref kG, .ref kP, .ref kC, .ref kD, .ref kE, .ref kF, .ref kX, .ref kY, .int 0, .ref kT, .ref kU, .int 0, .int 0, .int 0])), (kN, .inl (cI, 2, .inl (fun _ => 0))), (kA, .inl (cI, 2, .inl (fun _ => 0))), (oJ, .inl (cJ, 1, .inr (.inl (fun _ => 0))))]) (hS : va_S A s.heap H locs) (hl : lv_has ls 9 [(5, .int 0), (4, .ref oD), (3, .ref oJ), (2, .ref k0), (1, .ref h0), (0, .ref b)]) : W p l e room_1 s m #[Value.ref b] below meth c H locs 148 2317 (lw_Z below #[Value.ref b] s) (F0 m 2205 ls []) := by
  have hbA : ¬ A b := fun h => Nat.not_le.mpr hbl (hAe _ h)
  have hX0 := hX
  refine lv_aload_n hx hb dL_law_2205 rfl (lv_at hl 4 rfl) ?_
  refine lv_aload_n hx hb dL_law_2206 rfl (lv_at hl 5 rfl) ?_
  refine lv_iload hx hb dL_law_2207 (lv_at hl 0 rfl) ?_
  refine lv_iconst (v := 1) hx hb dL_law_2209 (by decide) ?_
  refine lv_iadd hx hb dL_law_2210 ?_
  refine lv_topi (fun y1 ey1 => ?_)
  obtain rfl : y1 = 1 := ey1.trans (by decide)
  refine va_sld hx hb hX9 hbl hbA hS (show ¬ (_ ∨ _) by decide) dL_law_2211 ?_
  refine W.eq (g2 := F0 m 2212 ls [.int (xs 1), .ref h0]) rfl ?_
  refine lv_aload_n hx hb dL_law_2212 rfl (lv_at hl 5 rfl) ?_
  refine lv_iload hx hb dL_law_2213 (lv_at hl 0 rfl) ?_
  refine lv_iconst (v := 2) hx hb dL_law_2215 (by decide) ?_
  refine lv_iadd hx hb dL_law_2216 ?_
  refine lv_topi (fun y2 ey2 => ?_)
  obtain rfl : y2 = 2 := ey2.trans (by decide)
  refine va_sld hx hb hX9 hbl hbA hS (show ¬ (_ ∨ _) by decide) dL_law_2217 ?_
  refine W.eq (g2 := F0 m 2218 ls [.int (xs 2), .int (xs 1), .ref h0]) rfl ?_
  refine lv_aload_n hx hb dL_law_2218 rfl (lv_at hl 2 rfl) ?_
  have hPc := hP.sub (ws' := [(h0, .inr (9, [.ref w, .ref d, .ref co, .ref un, .ref ma, .ref tm, .int 0, .int 0, .int 0])), (w, .inr (3, [.int 0, .int 0, .ref wL, .ref wP, .ref wS])), (d, .inr (3, [.int 0, .int 0, .ref dL, .ref dP, .ref dS])), (oJ, .inl (cJ, 1, .inr (.inl (fun _ => 0))))]) [0, 1, 2, 6] rfl
  have hDc := hD.sub (ws' := [(h0, .inr (9, [.ref w, .ref d, .ref co, .ref un, .ref ma, .ref tm, .int 0, .int 0, .int 0])), (w, .inr (3, [.int 0, .int 0, .ref wL, .ref wP, .ref wS])), (d, .inr (3, [.int 0, .int 0, .ref dL, .ref dP, .ref dS])), (oJ, .inl (cJ, 1, .inr (.inl (fun _ => 0))))]) [0, 1, 2, 6] (by decide) rfl
  have hKc := hK.sub (tys' := [(cJ, .long)]) [1] rfl
  have hFc := va_free (wc := [(h0, .inr (9, [.ref w, .ref d, .ref co, .ref un, .ref ma, .ref tm, .int 0, .int 0, .int 0])), (w, .inr (3, [.int 0, .int 0, .ref wL, .ref wP, .ref wS])), (d, .inr (3, [.int 0, .int 0, .ref dL, .ref dP, .ref dS])), (oJ, .inl (cJ, 1, .inr (.inl (fun _ => 0))))]) hD hS hA [0, 1, 2, 6] rfl
  refine vx_calli (vx_runSX (As := [.ref h0, .int (xs 1), .int (xs 2), .ref oJ]) (rest := []) ⟨hx, hb, hml, hown, hts⟩ (kL_matchedPin l hfl dC dI h0 w d co un ma tm wL wP wS dL dP dS oJ cJ (xs 1) (xs 2) H.size) (vx_cwSW 4 hts gL_law_L_matchedPin rfl rfl rfl (by decide +kernel) ⟨Nat.le_of_ble_eq_true rfl, Nat.le_of_ble_eq_true rfl⟩) (gPreS hX hN hZ hS (fun q h => hFc q h) hPc hKc hDc) rfl rfl hl.1 rfl (lv_room (Nat.le_of_ble_eq_true rfl)) dL_law_2219 ⟨Nat.le_of_ble_eq_true rfl, Nat.le_of_ble_eq_true rfl⟩) hS (fun q _ h => hFc q h) hFc (fun q _ h => hFc q h) (fun E ce q9 u t H locs ht hvm hpx hE hz1 hk1 hS hq9 hv9 hc9 => ?_) (fun r u t H1 locs ht hvm hw hB hz1 hk1 hS => ?_)
  · skip
    exact hE.elim
  · skip
    obtain ⟨hP1, hK1, hD1⟩ := hB
    rw [ht] at hP1
    have hK1 := va_K.moved hvm.symm hK1
    obtain ⟨u3, rfl⟩ : ∃ z, z = u := ⟨_, rfl⟩
    obtain ⟨hP, hD⟩ := va_join (wr := [(k0, .inr (10, [.ref kN, .ref kA, .ref kO, .ref kK, .ref kV, .ref kG, .ref kP, .ref kC, .ref kD, .ref kE, .ref kF, .ref kX, .ref kY, .int 0, .ref kT, .ref kU, .int 0, .int 0, .int 0])), (kN, .inl (cI, 2, .inl (fun _ => 0))), (kA, .inl (cI, 2, .inl (fun _ => 0)))]) (w1 := [(oJ, .inl (cJ, 1, .inr (.inl u3)))]) hP hD [0, 1, 2, 6] [3, 4, 5] rfl rfl (by decide) (by decide) hk1 hFc hP1 hD1
    generalize H1 = H at hP hS ⊢
    have hP : va_P (dC, dI) vwCl [(k0, .inr (10, [.ref kN, .ref kA, .ref kO, .ref kK, .ref kV, .ref kG, .ref kP, .ref kC, .ref kD, .ref kE, .ref kF, .ref kX, .ref kY, .int 0, .ref kT, .ref kU, .int 0, .int 0, .int 0])), (kN, .inl (cI, 2, .inl (fun _ => 0))), (kA, .inl (cI, 2, .inl (fun _ => 0))), (oJ, .inl (cJ, 1, .inr (.inl u3)))] _ := hP
    have hD : va_D A [(k0, .inr (10, [.ref kN, .ref kA, .ref kO, .ref kK, .ref kV, .ref kG, .ref kP, .ref kC, .ref kD, .ref kE, .ref kF, .ref kX, .ref kY, .int 0, .ref kT, .ref kU, .int 0, .int 0, .int 0])), (kN, .inl (cI, 2, .inl (fun _ => 0))), (kA, .inl (cI, 2, .inl (fun _ => 0))), (oJ, .inl (cJ, 1, .inr (.inl u3)))] := hD
    refine W.widen (k := 149) (n := 2323) (Nat.le_of_ble_eq_true rfl) (Nat.le_of_ble_eq_true rfl) ?_
    subst hw
    refine lv_istore (lv' := [(6, .int 1), (5, .int 0), (4, .ref oD), (3, .ref oJ), (2, .ref k0), (1, .ref h0), (0, .ref b)]) hx hb dL_law_2222 hl (Nat.le_of_ble_eq_true rfl) rfl (fun ls hl => ?_)
    refine lv_aload_n hx hb dL_law_2224 rfl (lv_at hl 4 rfl) ?_
    refine lv_aload_n hx hb dL_law_2225 rfl (lv_at hl 6 rfl) ?_
    refine lv_iload hx hb dL_law_2226 (lv_at hl 1 rfl) ?_
    refine lv_iconst (v := 1) hx hb dL_law_2228 (by decide) ?_
    refine lv_iadd hx hb dL_law_2229 ?_
    refine lv_topi (fun y4 ey4 => ?_)
    obtain rfl : y4 = 1 := ey4.trans (by decide)
    refine va_sld hx hb hX9 hbl hbA hS (show ¬ (_ ∨ _) by decide) dL_law_2230 ?_
    refine W.eq (g2 := F0 m 2231 ls [.int (xs 1), .ref k0]) rfl ?_
    refine lv_aload_n hx hb dL_law_2231 rfl (lv_at hl 6 rfl) ?_
    refine lv_iload hx hb dL_law_2232 (lv_at hl 1 rfl) ?_
    refine lv_iconst (v := 2) hx hb dL_law_2234 (by decide) ?_
    refine lv_iadd hx hb dL_law_2235 ?_
    refine lv_topi (fun y5 ey5 => ?_)
    obtain rfl : y5 = 2 := ey5.trans (by decide)
    refine va_sld hx hb hX9 hbl hbA hS (show ¬ (_ ∨ _) by decide) dL_law_2236 ?_
    refine W.eq (g2 := F0 m 2237 ls [.int (xs 2), .int (xs 1), .ref k0]) rfl ?_
    have hPc := hP.sub (ws' := [(k0, .inr (10, [.ref kN, .ref kA, .ref kO, .ref kK, .ref kV, .ref kG, .ref kP, .ref kC, .ref kD, .ref kE, .ref kF, .ref kX, .ref kY, .int 0, .ref kT, .ref kU, .int 0, .int 0, .int 0])), (kN, .inl (cI, 2, .inl (fun _ => 0))), (kA, .inl (cI, 2, .inl (fun _ => 0)))]) [0, 1, 2] rfl
    have hDc := hD.sub (ws' := [(k0, .inr (10, [.ref kN, .ref kA, .ref kO, .ref kK, .ref kV, .ref kG, .ref kP, .ref kC, .ref kD, .ref kE, .ref kF, .ref kX, .ref kY, .int 0, .ref kT, .ref kU, .int 0, .int 0, .int 0])), (kN, .inl (cI, 2, .inl (fun _ => 0))), (kA, .inl (cI, 2, .inl (fun _ => 0)))]) [0, 1, 2] (by decide) rfl
    have hKc := hK.sub (tys' := [(cI, .int)]) [0] rfl
    have hFc := va_free (wc := [(k0, .inr (10, [.ref kN, .ref kA, .ref kO, .ref kK, .ref kV, .ref kG, .ref kP, .ref kC, .ref kD, .ref kE, .ref kF, .ref kX, .ref kY, .int 0, .ref kT, .ref kU, .int 0, .int 0, .int 0])), (kN, .inl (cI, 2, .inl (fun _ => 0))), (kA, .inl (cI, 2, .inl (fun _ => 0)))]) hD hS hA [0, 1, 2] rfl
    refine va_calli (va_runV (As := [.int (xs 1), .int (xs 2)]) (rest := []) ⟨hx, hb, hml, hown, hts⟩ (kX7_matchedPin l dC dI k0 kN kA kO kK kV kG kP kC kD kE kF kX kY kT kU cI (xs 1) (xs 2) H.size) (cwV 2 hts gL_law_X7_matchedPin rfl rfl rfl (by decide +kernel) ⟨Nat.le_of_ble_eq_true rfl, Nat.le_of_ble_eq_true rfl⟩) (fPreV hN hZ hS (fun q h => hFc q h) hPc hKc hDc (ci := 10) (q0 := 0) rfl rfl) rfl rfl hl.1 rfl (lv_room (Nat.le_of_ble_eq_true rfl)) dL_law_2237 ⟨Nat.le_of_ble_eq_true rfl, Nat.le_of_ble_eq_true rfl⟩) hS (fun q _ h => hFc q h) hFc (fun r u t H1 locs ht hvm hw hB hz1 hk1 hS => ?_)
    obtain ⟨hP1, hK1, hD1⟩ := hB
    rw [ht] at hP1
    have hK1 := va_K.moved hvm.symm hK1
    obtain ⟨u6, rfl⟩ : ∃ z, z = u := ⟨_, rfl⟩
    obtain ⟨hP, hD⟩ := va_join (wr := [(oJ, .inl (cJ, 1, .inr (.inl u3)))]) (w1 := [(k0, .inr (10, [.ref kN, .ref kA, .ref kO, .ref kK, .ref kV, .ref kG, .ref kP, .ref kC, .ref kD, .ref kE, .ref kF, .ref kX, .ref kY, .int 0, .ref kT, .ref kU, .int u6, .int 0, .int 0]))]) hP hD [0, 1, 2] [3] rfl rfl (by decide) (by decide) hk1 hFc hP1 hD1
    generalize H1 = H at hP hS ⊢
    have hP : va_P (dC, dI) vwCl [(oJ, .inl (cJ, 1, .inr (.inl u3))), (k0, .inr (10, [.ref kN, .ref kA, .ref kO, .ref kK, .ref kV, .ref kG, .ref kP, .ref kC, .ref kD, .ref kE, .ref kF, .ref kX, .ref kY, .int 0, .ref kT, .ref kU, .int u6, .int 0, .int 0]))] _ := hP
    have hD : va_D A [(oJ, .inl (cJ, 1, .inr (.inl u3))), (k0, .inr (10, [.ref kN, .ref kA, .ref kO, .ref kK, .ref kV, .ref kG, .ref kP, .ref kC, .ref kD, .ref kE, .ref kF, .ref kX, .ref kY, .int 0, .ref kT, .ref kU, .int u6, .int 0, .int 0]))] := hD
    obtain ⟨r7, rfl⟩ : ∃ z, z = r := ⟨_, rfl⟩
    subst hw
    have hP : va_P (dC, dI) vwCl [(oJ, .inl (cJ, 1, .inr (.inl u3))), (k0, .inr (10, [.ref kN, .ref kA, .ref kO, .ref kK, .ref kV, .ref kG, .ref kP, .ref kC, .ref kD, .ref kE, .ref kF, .ref kX, .ref kY, .int 0, .ref kT, .ref kU, .int 1, .int 0, .int 0]))] _ := hP
    have hD : va_D A [(oJ, .inl (cJ, 1, .inr (.inl u3))), (k0, .inr (10, [.ref kN, .ref kA, .ref kO, .ref kK, .ref kV, .ref kG, .ref kP, .ref kC, .ref kD, .ref kE, .ref kF, .ref kX, .ref kY, .int 0, .ref kT, .ref kU, .int 1, .int 0, .int 0]))] := hD
    refine lv_istore (lv' := [(7, .int r7), (6, .int 1), (5, .int 0), (4, .ref oD), (3, .ref oJ), (2, .ref k0), (1, .ref h0), (0, .ref b)]) hx hb dL_law_2240 hl (Nat.le_of_ble_eq_true rfl) rfl (fun ls hl => ?_)
    refine lv_aload_n hx hb dL_law_2242 rfl (lv_at hl 5 rfl) ?_
    have hPc := hP.sub (ws' := [(k0, .inr (10, [.ref kN, .ref kA, .ref kO, .ref kK, .ref kV, .ref kG, .ref kP, .ref kC, .ref kD, .ref kE, .ref kF, .ref kX, .ref kY, .int 0, .ref kT, .ref kU, .int 1, .int 0, .int 0]))]) [1] rfl
    have hDc := hD.sub (ws' := [(k0, .inr (10, [.ref kN, .ref kA, .ref kO, .ref kK, .ref kV, .ref kG, .ref kP, .ref kC, .ref kD, .ref kE, .ref kF, .ref kX, .ref kY, .int 0, .ref kT, .ref kU, .int 1, .int 0, .int 0]))]) [1] (by decide) rfl
    have hKc := hK.sub (tys' := []) [] rfl
    have hFc := va_free (wc := [(k0, .inr (10, [.ref kN, .ref kA, .ref kO, .ref kK, .ref kV, .ref kG, .ref kP, .ref kC, .ref kD, .ref kE, .ref kF, .ref kX, .ref kY, .int 0, .ref kT, .ref kU, .int 1, .int 0, .int 0]))]) hD hS hA [1] rfl
    refine va_calli (va_runV (As := []) (rest := []) ⟨hx, hb, hml, hown, hts⟩ (kX7_thrown l dC dI k0 kN kA kO kK kV kG kP kC kD kE kF kX kY kT kU 1 H.size) (cwV 0 hts gL_law_X7_thrown rfl rfl rfl (by decide +kernel) ⟨Nat.le_of_ble_eq_true rfl, Nat.le_of_ble_eq_true rfl⟩) (fPreV hN hZ hS (fun q h => hFc q h) hPc hKc hDc (ci := 10) (q0 := 0) rfl rfl) rfl rfl hl.1 rfl (lv_room (Nat.le_of_ble_eq_true rfl)) dL_law_2243 ⟨Nat.le_of_ble_eq_true rfl, Nat.le_of_ble_eq_true rfl⟩) hS (fun q _ h => hFc q h) hFc (fun r u t H1 locs ht hvm hw hB hz1 hk1 hS => ?_)
    obtain ⟨hP1, hK1, hD1⟩ := hB
    rw [ht] at hP1
    have hK1 := va_K.moved hvm.symm hK1
    obtain ⟨hP, hD⟩ := va_join (wr := [(oJ, .inl (cJ, 1, .inr (.inl u3)))]) (w1 := []) hP hD [1] [0] rfl rfl (by decide) (by decide) hk1 hFc hP1 hD1
    generalize H1 = H at hP hS ⊢
    have hP : va_P (dC, dI) vwCl [(oJ, .inl (cJ, 1, .inr (.inl u3)))] _ := hP
    have hD : va_D A [(oJ, .inl (cJ, 1, .inr (.inl u3)))] := hD
    subst hw
    refine lv_iload hx hb dL_law_2246 (lv_at hl 1 rfl) ?_
    refine lv_icmp_eq (tgt := 2253) hx hb dL_law_2248 (by decide) (fun _ => ?_) (fun h9 => absurd (by decide) h9)
    refine lv_iload hx hb dL_law_2253 (lv_at hl 1 rfl) ?_
    refine lv_if_ne (tgt := 2270) hx hb dL_law_2255 (by decide) (fun _ => ?_) (fun h9 => absurd h9 (by decide))
    refine lv_goto (tgt := 2720) hx hb dL_law_2270 (by decide) ?_
    refine lv_iinc (v := 7) (lv' := [(5, .int 7), (7, .int r7), (6, .int 1), (4, .ref oD), (3, .ref oJ), (2, .ref k0), (1, .ref h0), (0, .ref b)]) hx hb dL_law_2720 hl (k := 2) rfl (by decide) (Nat.le_of_ble_eq_true rfl) rfl (fun ls hl => ?_)
    refine lv_goto (tgt := 28) hx hb dL_law_2723 (by decide) ?_
    refine lv_iload hx hb dL_law_28 (lv_at hl 0 rfl) ?_
    refine lv_aload_n hx hb dL_law_30 rfl (lv_at hl 7 rfl) ?_
    refine va_slen hx hb hX9 hbl hbA hS dL_law_31 ?_
    refine W.eq (g2 := F0 m 32 ls [.int 7, .int 7]) rfl ?_
    refine lv_bipush (v := 7) hx hb dL_law_32 (by decide) ?_
    refine lv_isub hx hb dL_law_34 ?_
    refine lv_topi (fun y8 ey8 => ?_)
    obtain rfl : y8 = 0 := ey8.trans (by decide)
    refine lv_icmp_gt (tgt := 2726) hx hb dL_law_35 (by decide) (fun _ => ?_) (fun h9 => absurd (by decide) h9)
    refine lv_iconst (v := 1) hx hb dL_law_2726 (by decide) ?_
    refine va_forget (fun q hq => hAe _ (hS.2.2 q hq)) ?_
    refine W.widen (k := 603072) (n := 7198826) (Nat.le_of_ble_eq_true rfl) (Nat.le_of_ble_eq_true rfl) ?_
    exact W.base (lw_ret (d0 := s.drawn) (Drawn.sameBut.refl _ _) hx hb hr hlk dL_law_2727)

set_option maxHeartbeats 4000000 in
set_option maxRecDepth 100000 in
/-- case 33 of the law: differences, on fresh objects -/
theorem lc_33 {p : Program} {e : Env} {s : State} {m : MethodId} {below : List Frame} {meth : Method} {c : Code} (l : Launch) (hfl : l.stackTraces = false) {b : Nat} {xs : Nat → Int32} (hx : p.tables.exec = Jvm.exec) (hb : c.code = cL_law) (hr : meth.sig.returnType = ret) (hml : c.maxLocals = 9) (hown : s.vm.findClass RL = some m.cls) (hts : ∀ w ∈ wsL_law, w.before #[Value.ref b] s = true) (hlk : meth.locks = false) (A : Nat → Prop) (hAe : ∀ q, A q → s.heap.size ≤ q) (hA : ∀ q : Nat, s.heap.size ≤ q → A q) (hX9 : va_X b 7 xs s s.heap) (hbl : b < s.heap.size) (hN : fN s) (hZ : fZ A s s.heap) (hX : fX s) (dC : Nat → ClassId) (dI : Nat → Nat → Nat) (h0 w d wL wP wS dL dP dS co on onR onL onC onD op opR opL opC opD un unK ma tm k0 kN kA kO kK kV kG kP kC kD kE kF kX kY kT kU oJ oD : Nat) (cI : ClassId) {H : Heap} {locs : List Loc} {ls : Array Slot} (hK : va_K (dC, dI) vwCl [(cI, .int)] s) (hP : va_P (dC, dI) vwCl [(h0, .inr (9, [.ref w, .ref d, .ref co, .ref un, .ref ma, .ref tm, .int 0, .int 0, .int 0])), (co, .inr (4, [.ref w, .ref d, .ref on, .ref op, .int 0])), (w, .inr (3, [.int 0, .int 0, .ref wL, .ref wP, .ref wS])), (d, .inr (3, [.int 0, .int 0, .ref dL, .ref dP, .ref dS])), (on, .inr (7, [.ref onR, .ref onL, .ref onC, .ref onD, .int 0])), (onL, .inl (cI, 20, .inl (fun _ => 0))), (onC, .inl (cI, 20, .inl (fun _ => 0))), (op, .inr (7, [.ref opR, .ref opL, .ref opC, .ref opD, .int 0])), (opL, .inl (cI, 20, .inl (fun _ => 0))), (opC, .inl (cI, 20, .inl (fun _ => 0))), (un, .inr (5, [.ref unK, .int 0])), (k0, .inr (10, [.ref kN, .ref kA, .ref kO, .ref kK, .ref kV, .ref kG, .ref kP, .ref kC, .ref kD, .ref kE, .ref kF, .ref kX, .ref kY, .int 0, .ref kT, .ref kU, .int 0, .int 0, .int 0])), (kN, .inl (cI, 2, .inl (fun _ => 0))), (kA, .inl (cI, 2, .inl (fun _ => 0))), (kC, .inl (cI, 20, .inl (fun _ => 0))), (kD, .inl (cI, 20, .inl (fun _ => 0))), (kE, .inl (cI, 20, .inl (fun _ => 0))), (kF, .inl (cI, 20, .inl (fun _ => 0)))] H) (hD : va_D A [(h0, .inr (9, [.ref w, .ref d, .ref co, .ref un, .ref ma, .ref tm, .int 0, .int 0, .int 0])), (co, .inr (4, [.ref w, .ref d, .ref on, .ref op, .int 0])), (w, .inr (3, [.int 0, .int 0, .ref wL, .ref wP, .ref wS])), (d, .inr (3, [.int 0, .int 0, .ref dL, .ref dP, .ref dS])), (on, .inr (7, [.ref onR, .ref onL, .ref onC, .ref onD, .int 0])), (onL, .inl (cI, 20, .inl (fun _ => 0))), (onC, .inl (cI, 20, .inl (fun _ => 0))), (op, .inr (7, [.ref opR, .ref opL, .ref opC, .ref opD, .int 0])), (opL, .inl (cI, 20, .inl (fun _ => 0))), (opC, .inl (cI, 20, .inl (fun _ => 0))), (un, .inr (5, [.ref unK, .int 0])), (k0, .inr (10, [.ref kN, .ref kA, .ref kO, .ref kK, .ref kV, .ref kG, .ref kP, .ref kC, .ref kD, .ref kE, .ref kF, .ref kX, .ref kY, .int 0, .ref kT, .ref kU, .int 0, .int 0, .int 0])), (kN, .inl (cI, 2, .inl (fun _ => 0))), (kA, .inl (cI, 2, .inl (fun _ => 0))), (kC, .inl (cI, 20, .inl (fun _ => 0))), (kD, .inl (cI, 20, .inl (fun _ => 0))), (kE, .inl (cI, 20, .inl (fun _ => 0))), (kF, .inl (cI, 20, .inl (fun _ => 0)))]) (hS : va_S A s.heap H locs) (hl : lv_has ls 9 [(5, .int 0), (4, .ref oD), (3, .ref oJ), (2, .ref k0), (1, .ref h0), (0, .ref b)]) : W p l e room_1 s m #[Value.ref b] below meth c H locs 148 2317 (lw_Z below #[Value.ref b] s) (F0 m 2273 ls []) := by
  have hbA : ¬ A b := fun h => Nat.not_le.mpr hbl (hAe _ h)
  have hX0 := hX
  refine lv_aload_n hx hb dL_law_2273 rfl (lv_at hl 4 rfl) ?_
  have hPc := hP.sub (ws' := [(h0, .inr (9, [.ref w, .ref d, .ref co, .ref un, .ref ma, .ref tm, .int 0, .int 0, .int 0])), (co, .inr (4, [.ref w, .ref d, .ref on, .ref op, .int 0])), (w, .inr (3, [.int 0, .int 0, .ref wL, .ref wP, .ref wS])), (d, .inr (3, [.int 0, .int 0, .ref dL, .ref dP, .ref dS])), (on, .inr (7, [.ref onR, .ref onL, .ref onC, .ref onD, .int 0])), (onL, .inl (cI, 20, .inl (fun _ => 0))), (onC, .inl (cI, 20, .inl (fun _ => 0))), (op, .inr (7, [.ref opR, .ref opL, .ref opC, .ref opD, .int 0])), (opL, .inl (cI, 20, .inl (fun _ => 0))), (opC, .inl (cI, 20, .inl (fun _ => 0))), (un, .inr (5, [.ref unK, .int 0]))]) [0, 1, 2, 3, 4, 5, 6, 7, 8, 9, 10] rfl
  have hDc := hD.sub (ws' := [(h0, .inr (9, [.ref w, .ref d, .ref co, .ref un, .ref ma, .ref tm, .int 0, .int 0, .int 0])), (co, .inr (4, [.ref w, .ref d, .ref on, .ref op, .int 0])), (w, .inr (3, [.int 0, .int 0, .ref wL, .ref wP, .ref wS])), (d, .inr (3, [.int 0, .int 0, .ref dL, .ref dP, .ref dS])), (on, .inr (7, [.ref onR, .ref onL, .ref onC, .ref onD, .int 0])), (onL, .inl (cI, 20, .inl (fun _ => 0))), (onC, .inl (cI, 20, .inl (fun _ => 0))), (op, .inr (7, [.ref opR, .ref opL, .ref opC, .ref opD, .int 0])), (opL, .inl (cI, 20, .inl (fun _ => 0))), (opC, .inl (cI, 20, .inl (fun _ => 0))), (un, .inr (5, [.ref unK, .int 0]))]) [0, 1, 2, 3, 4, 5, 6, 7, 8, 9, 10] (by decide) rfl
  have hKc := hK.sub (tys' := [(cI, .int)]) [0] rfl
  have hFc := va_free (wc := [(h0, .inr (9, [.ref w, .ref d, .ref co, .ref un, .ref ma, .ref tm, .int 0, .int 0, .int 0])), (co, .inr (4, [.ref w, .ref d, .ref on, .ref op, .int 0])), (w, .inr (3, [.int 0, .int 0, .ref wL, .ref wP, .ref wS])), (d, .inr (3, [.int 0, .int 0, .ref dL, .ref dP, .ref dS])), (on, .inr (7, [.ref onR, .ref onL, .ref onC, .ref onD, .int 0])), (onL, .inl (cI, 20, .inl (fun _ => 0))), (onC, .inl (cI, 20, .inl (fun _ => 0))), (op, .inr (7, [.ref opR, .ref opL, .ref opC, .ref opD, .int 0])), (opL, .inl (cI, 20, .inl (fun _ => 0))), (opC, .inl (cI, 20, .inl (fun _ => 0))), (un, .inr (5, [.ref unK, .int 0]))]) hD hS hA [0, 1, 2, 3, 4, 5, 6, 7, 8, 9, 10] rfl
  refine va_calli (va_runV (As := []) (rest := []) ⟨hx, hb, hml, hown, hts⟩ (kX6_differences l dC dI h0 ma tm un unK co w wL wP wS d dL dP dS on onR onL onC onD op opR opL opC opD cI (fun _ => 0) (fun _ => 0) H.size) (cwV 0 hts gL_law_X6_differences rfl rfl rfl (by decide +kernel) ⟨Nat.le_of_ble_eq_true rfl, Nat.le_of_ble_eq_true rfl⟩) (fPreV hN hZ hS (fun q h => hFc q h) hPc hKc hDc (ci := 9) (q0 := 0) rfl rfl) rfl rfl hl.1 rfl (lv_room (Nat.le_of_ble_eq_true rfl)) dL_law_2274 ⟨Nat.le_of_ble_eq_true rfl, Nat.le_of_ble_eq_true rfl⟩) hS (fun q _ h => hFc q h) hFc (fun r u t H1 locs ht hvm hw hB hz1 hk1 hS => ?_)
  obtain ⟨hP1, hK1, hD1⟩ := hB
  rw [ht] at hP1
  have hK1 := va_K.moved hvm.symm hK1
  obtain ⟨hP, hD⟩ := va_join (wr := [(k0, .inr (10, [.ref kN, .ref kA, .ref kO, .ref kK, .ref kV, .ref kG, .ref kP, .ref kC, .ref kD, .ref kE, .ref kF, .ref kX, .ref kY, .int 0, .ref kT, .ref kU, .int 0, .int 0, .int 0])), (kN, .inl (cI, 2, .inl (fun _ => 0))), (kA, .inl (cI, 2, .inl (fun _ => 0))), (kC, .inl (cI, 20, .inl (fun _ => 0))), (kD, .inl (cI, 20, .inl (fun _ => 0))), (kE, .inl (cI, 20, .inl (fun _ => 0))), (kF, .inl (cI, 20, .inl (fun _ => 0)))]) (w1 := []) hP hD [0, 1, 2, 3, 4, 5, 6, 7, 8, 9, 10] [11, 12, 13, 14, 15, 16, 17] rfl rfl (by decide) (by decide) hk1 hFc hP1 hD1
  generalize H1 = H at hP hS ⊢
  have hP : va_P (dC, dI) vwCl [(k0, .inr (10, [.ref kN, .ref kA, .ref kO, .ref kK, .ref kV, .ref kG, .ref kP, .ref kC, .ref kD, .ref kE, .ref kF, .ref kX, .ref kY, .int 0, .ref kT, .ref kU, .int 0, .int 0, .int 0])), (kN, .inl (cI, 2, .inl (fun _ => 0))), (kA, .inl (cI, 2, .inl (fun _ => 0))), (kC, .inl (cI, 20, .inl (fun _ => 0))), (kD, .inl (cI, 20, .inl (fun _ => 0))), (kE, .inl (cI, 20, .inl (fun _ => 0))), (kF, .inl (cI, 20, .inl (fun _ => 0)))] _ := hP
  have hD : va_D A [(k0, .inr (10, [.ref kN, .ref kA, .ref kO, .ref kK, .ref kV, .ref kG, .ref kP, .ref kC, .ref kD, .ref kE, .ref kF, .ref kX, .ref kY, .int 0, .ref kT, .ref kU, .int 0, .int 0, .int 0])), (kN, .inl (cI, 2, .inl (fun _ => 0))), (kA, .inl (cI, 2, .inl (fun _ => 0))), (kC, .inl (cI, 20, .inl (fun _ => 0))), (kD, .inl (cI, 20, .inl (fun _ => 0))), (kE, .inl (cI, 20, .inl (fun _ => 0))), (kF, .inl (cI, 20, .inl (fun _ => 0)))] := hD
  subst hw
  refine lv_aload_n hx hb dL_law_2277 rfl (lv_at hl 3 rfl) ?_
  have hPc := hP.sub (ws' := [(k0, .inr (10, [.ref kN, .ref kA, .ref kO, .ref kK, .ref kV, .ref kG, .ref kP, .ref kC, .ref kD, .ref kE, .ref kF, .ref kX, .ref kY, .int 0, .ref kT, .ref kU, .int 0, .int 0, .int 0])), (kN, .inl (cI, 2, .inl (fun _ => 0))), (kA, .inl (cI, 2, .inl (fun _ => 0))), (kC, .inl (cI, 20, .inl (fun _ => 0))), (kD, .inl (cI, 20, .inl (fun _ => 0))), (kE, .inl (cI, 20, .inl (fun _ => 0))), (kF, .inl (cI, 20, .inl (fun _ => 0)))]) [0, 1, 2, 3, 4, 5, 6] rfl
  have hDc := hD.sub (ws' := [(k0, .inr (10, [.ref kN, .ref kA, .ref kO, .ref kK, .ref kV, .ref kG, .ref kP, .ref kC, .ref kD, .ref kE, .ref kF, .ref kX, .ref kY, .int 0, .ref kT, .ref kU, .int 0, .int 0, .int 0])), (kN, .inl (cI, 2, .inl (fun _ => 0))), (kA, .inl (cI, 2, .inl (fun _ => 0))), (kC, .inl (cI, 20, .inl (fun _ => 0))), (kD, .inl (cI, 20, .inl (fun _ => 0))), (kE, .inl (cI, 20, .inl (fun _ => 0))), (kF, .inl (cI, 20, .inl (fun _ => 0)))]) [0, 1, 2, 3, 4, 5, 6] (by decide) rfl
  have hKc := hK.sub (tys' := [(cI, .int)]) [0] rfl
  have hFc := va_free (wc := [(k0, .inr (10, [.ref kN, .ref kA, .ref kO, .ref kK, .ref kV, .ref kG, .ref kP, .ref kC, .ref kD, .ref kE, .ref kF, .ref kX, .ref kY, .int 0, .ref kT, .ref kU, .int 0, .int 0, .int 0])), (kN, .inl (cI, 2, .inl (fun _ => 0))), (kA, .inl (cI, 2, .inl (fun _ => 0))), (kC, .inl (cI, 20, .inl (fun _ => 0))), (kD, .inl (cI, 20, .inl (fun _ => 0))), (kE, .inl (cI, 20, .inl (fun _ => 0))), (kF, .inl (cI, 20, .inl (fun _ => 0)))]) hD hS hA [0, 1, 2, 3, 4, 5, 6] rfl
  refine va_calli (va_runV (As := []) (rest := [.int 0]) ⟨hx, hb, hml, hown, hts⟩ (kX7_differences l dC dI k0 kN kA kO kK kV kG kP kC kD kE kF kX kY kT kU cI (fun _ => 0) (fun _ => 0) (fun _ => 0) (fun _ => 0) H.size) (cwV 0 hts gL_law_X7_differences rfl rfl rfl (by decide +kernel) ⟨Nat.le_of_ble_eq_true rfl, Nat.le_of_ble_eq_true rfl⟩) (fPreV hN hZ hS (fun q h => hFc q h) hPc hKc hDc (ci := 10) (q0 := 0) rfl rfl) rfl rfl hl.1 rfl (lv_room (Nat.le_of_ble_eq_true rfl)) dL_law_2278 ⟨Nat.le_of_ble_eq_true rfl, Nat.le_of_ble_eq_true rfl⟩) hS (fun q _ h => hFc q h) hFc (fun r u t H1 locs ht hvm hw hB hz1 hk1 hS => ?_)
  obtain ⟨hP1, hK1, hD1⟩ := hB
  rw [ht] at hP1
  have hK1 := va_K.moved hvm.symm hK1
  obtain ⟨u1, rfl⟩ : ∃ z, z = u := ⟨_, rfl⟩
  obtain ⟨hP, hD⟩ := va_join (wr := []) (w1 := [(k0, .inr (10, [.ref kN, .ref kA, .ref kO, .ref kK, .ref kV, .ref kG, .ref kP, .ref kC, .ref kD, .ref kE, .ref kF, .ref kX, .ref kY, .int 0, .ref kT, .ref kU, .int u1, .int 0, .int 0]))]) hP hD [0, 1, 2, 3, 4, 5, 6] [] rfl rfl (by decide) (by decide) hk1 hFc hP1 hD1
  generalize H1 = H at hP hS ⊢
  have hP : va_P (dC, dI) vwCl [(k0, .inr (10, [.ref kN, .ref kA, .ref kO, .ref kK, .ref kV, .ref kG, .ref kP, .ref kC, .ref kD, .ref kE, .ref kF, .ref kX, .ref kY, .int 0, .ref kT, .ref kU, .int u1, .int 0, .int 0]))] _ := hP
  have hD : va_D A [(k0, .inr (10, [.ref kN, .ref kA, .ref kO, .ref kK, .ref kV, .ref kG, .ref kP, .ref kC, .ref kD, .ref kE, .ref kF, .ref kX, .ref kY, .int 0, .ref kT, .ref kU, .int u1, .int 0, .int 0]))] := hD
  refine W.widen (k := 150) (n := 2357) (Nat.le_of_ble_eq_true rfl) (Nat.le_of_ble_eq_true rfl) ?_
  obtain ⟨r2, rfl⟩ : ∃ z, z = r := ⟨_, rfl⟩
  obtain ⟨rfl, rfl⟩ := hw
  have hP : va_P (dC, dI) vwCl [(k0, .inr (10, [.ref kN, .ref kA, .ref kO, .ref kK, .ref kV, .ref kG, .ref kP, .ref kC, .ref kD, .ref kE, .ref kF, .ref kX, .ref kY, .int 0, .ref kT, .ref kU, .int 0, .int 0, .int 0]))] _ := hP
  have hD : va_D A [(k0, .inr (10, [.ref kN, .ref kA, .ref kO, .ref kK, .ref kV, .ref kG, .ref kP, .ref kC, .ref kD, .ref kE, .ref kF, .ref kX, .ref kY, .int 0, .ref kT, .ref kU, .int 0, .int 0, .int 0]))] := hD
  refine lv_icmp_eq (tgt := 2720) hx hb dL_law_2281 (by decide) (fun _ => ?_) (fun h9 => absurd (by decide) h9)
  refine lv_iinc (v := 7) (lv' := [(5, .int 7), (4, .ref oD), (3, .ref oJ), (2, .ref k0), (1, .ref h0), (0, .ref b)]) hx hb dL_law_2720 hl (k := 0) rfl (by decide) (Nat.le_of_ble_eq_true rfl) rfl (fun ls hl => ?_)
  refine lv_goto (tgt := 28) hx hb dL_law_2723 (by decide) ?_
  refine lv_iload hx hb dL_law_28 (lv_at hl 0 rfl) ?_
  refine lv_aload_n hx hb dL_law_30 rfl (lv_at hl 5 rfl) ?_
  refine va_slen hx hb hX9 hbl hbA hS dL_law_31 ?_
  refine W.eq (g2 := F0 m 32 ls [.int 7, .int 7]) rfl ?_
  refine lv_bipush (v := 7) hx hb dL_law_32 (by decide) ?_
  refine lv_isub hx hb dL_law_34 ?_
  refine lv_topi (fun y3 ey3 => ?_)
  obtain rfl : y3 = 0 := ey3.trans (by decide)
  refine lv_icmp_gt (tgt := 2726) hx hb dL_law_35 (by decide) (fun _ => ?_) (fun h9 => absurd (by decide) h9)
  refine lv_iconst (v := 1) hx hb dL_law_2726 (by decide) ?_
  refine va_forget (fun q hq => hAe _ (hS.2.2 q hq)) ?_
  refine W.widen (k := 603072) (n := 7198826) (Nat.le_of_ble_eq_true rfl) (Nat.le_of_ble_eq_true rfl) ?_
  exact W.base (lw_ret (d0 := s.drawn) (Drawn.sameBut.refl _ _) hx hb hr hlk dL_law_2727)

set_option maxHeartbeats 4000000 in
set_option maxRecDepth 100000 in
/-- case 34 of the law: differenceKind, on fresh objects -/
theorem lc_34 {p : Program} {e : Env} {s : State} {m : MethodId} {below : List Frame} {meth : Method} {c : Code} (l : Launch) (hfl : l.stackTraces = false) {b : Nat} {xs : Nat → Int32} (hx : p.tables.exec = Jvm.exec) (hb : c.code = cL_law) (hr : meth.sig.returnType = ret) (hml : c.maxLocals = 9) (hown : s.vm.findClass RL = some m.cls) (hts : ∀ w ∈ wsL_law, w.before #[Value.ref b] s = true) (hlk : meth.locks = false) (A : Nat → Prop) (hAe : ∀ q, A q → s.heap.size ≤ q) (hA : ∀ q : Nat, s.heap.size ≤ q → A q) (hX9 : va_X b 7 xs s s.heap) (hbl : b < s.heap.size) (hN : fN s) (hZ : fZ A s s.heap) (hX : fX s) (dC : Nat → ClassId) (dI : Nat → Nat → Nat) (h0 w d wL wP wS dL dP dS co on onR onL onC onD op opR opL opC opD un unK ma tm k0 kN kA kO kK kV kG kP kC kD kE kF kX kY kT kU oJ oD : Nat) (cI cJ : ClassId) {H : Heap} {locs : List Loc} {ls : Array Slot} (hK : va_K (dC, dI) vwCl [(cI, .int), (cJ, .long)] s) (hP : va_P (dC, dI) vwCl [(h0, .inr (9, [.ref w, .ref d, .ref co, .ref un, .ref ma, .ref tm, .int 0, .int 0, .int 0])), (co, .inr (4, [.ref w, .ref d, .ref on, .ref op, .int 0])), (w, .inr (3, [.int 0, .int 0, .ref wL, .ref wP, .ref wS])), (d, .inr (3, [.int 0, .int 0, .ref dL, .ref dP, .ref dS])), (on, .inr (7, [.ref onR, .ref onL, .ref onC, .ref onD, .int 0])), (onL, .inl (cI, 20, .inl (fun _ => 0))), (onC, .inl (cI, 20, .inl (fun _ => 0))), (op, .inr (7, [.ref opR, .ref opL, .ref opC, .ref opD, .int 0])), (opL, .inl (cI, 20, .inl (fun _ => 0))), (opC, .inl (cI, 20, .inl (fun _ => 0))), (un, .inr (5, [.ref unK, .int 0])), (k0, .inr (10, [.ref kN, .ref kA, .ref kO, .ref kK, .ref kV, .ref kG, .ref kP, .ref kC, .ref kD, .ref kE, .ref kF, .ref kX, .ref kY, .int 0, .ref kT, .ref kU, .int 0, .int 0, .int 0])), (kN, .inl (cI, 2, .inl (fun _ => 0))), (kA, .inl (cI, 2, .inl (fun _ => 0))), (kC, .inl (cI, 20, .inl (fun _ => 0))), (kD, .inl (cI, 20, .inl (fun _ => 0))), (kE, .inl (cI, 20, .inl (fun _ => 0))), (kF, .inl (cI, 20, .inl (fun _ => 0))), (oJ, .inl (cJ, 1, .inr (.inl (fun _ => 0))))] H) (hD : va_D A [(h0, .inr (9, [.ref w, .ref d, .ref co, .ref un, .ref ma, .ref tm, .int 0, .int 0, .int 0])), (co, .inr (4, [.ref w, .ref d, .ref on, .ref op, .int 0])), (w, .inr (3, [.int 0, .int 0, .ref wL, .ref wP, .ref wS])), (d, .inr (3, [.int 0, .int 0, .ref dL, .ref dP, .ref dS])), (on, .inr (7, [.ref onR, .ref onL, .ref onC, .ref onD, .int 0])), (onL, .inl (cI, 20, .inl (fun _ => 0))), (onC, .inl (cI, 20, .inl (fun _ => 0))), (op, .inr (7, [.ref opR, .ref opL, .ref opC, .ref opD, .int 0])), (opL, .inl (cI, 20, .inl (fun _ => 0))), (opC, .inl (cI, 20, .inl (fun _ => 0))), (un, .inr (5, [.ref unK, .int 0])), (k0, .inr (10, [.ref kN, .ref kA, .ref kO, .ref kK, .ref kV, .ref kG, .ref kP, .ref kC, .ref kD, .ref kE, .ref kF, .ref kX, .ref kY, .int 0, .ref kT, .ref kU, .int 0, .int 0, .int 0])), (kN, .inl (cI, 2, .inl (fun _ => 0))), (kA, .inl (cI, 2, .inl (fun _ => 0))), (kC, .inl (cI, 20, .inl (fun _ => 0))), (kD, .inl (cI, 20, .inl (fun _ => 0))), (kE, .inl (cI, 20, .inl (fun _ => 0))), (kF, .inl (cI, 20, .inl (fun _ => 0))), (oJ, .inl (cJ, 1, .inr (.inl (fun _ => 0))))]) (hS : va_S A s.heap H locs) (hl : lv_has ls 9 [(5, .int 0), (4, .ref oD), (3, .ref oJ), (2, .ref k0), (1, .ref h0), (0, .ref b)]) : W p l e room_1 s m #[Value.ref b] below meth c H locs 148 2317 (lw_Z below #[Value.ref b] s) (F0 m 2286 ls []) := by
  have hbA : ¬ A b := fun h => Nat.not_le.mpr hbl (hAe _ h)
  have hX0 := hX
  refine lv_aload_n hx hb dL_law_2286 rfl (lv_at hl 4 rfl) ?_
  refine lv_aload_n hx hb dL_law_2287 rfl (lv_at hl 5 rfl) ?_
  refine lv_iload hx hb dL_law_2288 (lv_at hl 0 rfl) ?_
  refine lv_iconst (v := 1) hx hb dL_law_2290 (by decide) ?_
  refine lv_iadd hx hb dL_law_2291 ?_
  refine lv_topi (fun y1 ey1 => ?_)
  obtain rfl : y1 = 1 := ey1.trans (by decide)
  refine va_sld hx hb hX9 hbl hbA hS (show ¬ (_ ∨ _) by decide) dL_law_2292 ?_
  refine W.eq (g2 := F0 m 2293 ls [.int (xs 1), .ref h0]) rfl ?_
  refine lv_aload_n hx hb dL_law_2293 rfl (lv_at hl 2 rfl) ?_
  have hPc := hP.sub (ws' := [(h0, .inr (9, [.ref w, .ref d, .ref co, .ref un, .ref ma, .ref tm, .int 0, .int 0, .int 0])), (co, .inr (4, [.ref w, .ref d, .ref on, .ref op, .int 0])), (w, .inr (3, [.int 0, .int 0, .ref wL, .ref wP, .ref wS])), (d, .inr (3, [.int 0, .int 0, .ref dL, .ref dP, .ref dS])), (on, .inr (7, [.ref onR, .ref onL, .ref onC, .ref onD, .int 0])), (onL, .inl (cI, 20, .inl (fun _ => 0))), (onC, .inl (cI, 20, .inl (fun _ => 0))), (op, .inr (7, [.ref opR, .ref opL, .ref opC, .ref opD, .int 0])), (opL, .inl (cI, 20, .inl (fun _ => 0))), (opC, .inl (cI, 20, .inl (fun _ => 0))), (un, .inr (5, [.ref unK, .int 0])), (oJ, .inl (cJ, 1, .inr (.inl (fun _ => 0))))]) [0, 1, 2, 3, 4, 5, 6, 7, 8, 9, 10, 18] rfl
  have hDc := hD.sub (ws' := [(h0, .inr (9, [.ref w, .ref d, .ref co, .ref un, .ref ma, .ref tm, .int 0, .int 0, .int 0])), (co, .inr (4, [.ref w, .ref d, .ref on, .ref op, .int 0])), (w, .inr (3, [.int 0, .int 0, .ref wL, .ref wP, .ref wS])), (d, .inr (3, [.int 0, .int 0, .ref dL, .ref dP, .ref dS])), (on, .inr (7, [.ref onR, .ref onL, .ref onC, .ref onD, .int 0])), (onL, .inl (cI, 20, .inl (fun _ => 0))), (onC, .inl (cI, 20, .inl (fun _ => 0))), (op, .inr (7, [.ref opR, .ref opL, .ref opC, .ref opD, .int 0])), (opL, .inl (cI, 20, .inl (fun _ => 0))), (opC, .inl (cI, 20, .inl (fun _ => 0))), (un, .inr (5, [.ref unK, .int 0])), (oJ, .inl (cJ, 1, .inr (.inl (fun _ => 0))))]) [0, 1, 2, 3, 4, 5, 6, 7, 8, 9, 10, 18] (by decide) rfl
  have hKc := hK.sub (tys' := [(cI, .int), (cJ, .long)]) [0, 1] rfl
  have hFc := va_free (wc := [(h0, .inr (9, [.ref w, .ref d, .ref co, .ref un, .ref ma, .ref tm, .int 0, .int 0, .int 0])), (co, .inr (4, [.ref w, .ref d, .ref on, .ref op, .int 0])), (w, .inr (3, [.int 0, .int 0, .ref wL, .ref wP, .ref wS])), (d, .inr (3, [.int 0, .int 0, .ref dL, .ref dP, .ref dS])), (on, .inr (7, [.ref onR, .ref onL, .ref onC, .ref onD, .int 0])), (onL, .inl (cI, 20, .inl (fun _ => 0))), (onC, .inl (cI, 20, .inl (fun _ => 0))), (op, .inr (7, [.ref opR, .ref opL, .ref opC, .ref opD, .int 0])), (opL, .inl (cI, 20, .inl (fun _ => 0))), (opC, .inl (cI, 20, .inl (fun _ => 0))), (un, .inr (5, [.ref unK, .int 0])), (oJ, .inl (cJ, 1, .inr (.inl (fun _ => 0))))]) hD hS hA [0, 1, 2, 3, 4, 5, 6, 7, 8, 9, 10, 18] rfl
  refine vx_calli (vx_runSX (As := [.ref h0, .int (xs 1), .ref oJ]) (rest := []) ⟨hx, hb, hml, hown, hts⟩ (kL_differenceKind l hfl dC dI h0 ma tm un unK co w wL wP wS d dL dP dS on onR onL onC onD op opR opL opC opD cI (fun _ => 0) (fun _ => 0) oJ cJ (xs 1) H.size) (vx_cwSW 3 hts gL_law_L_differenceKind rfl rfl rfl (by decide +kernel) ⟨Nat.le_of_ble_eq_true rfl, Nat.le_of_ble_eq_true rfl⟩) (gPreS hX hN hZ hS (fun q h => hFc q h) hPc hKc hDc) rfl rfl hl.1 rfl (lv_room (Nat.le_of_ble_eq_true rfl)) dL_law_2294 ⟨Nat.le_of_ble_eq_true rfl, Nat.le_of_ble_eq_true rfl⟩) hS (fun q _ h => hFc q h) hFc (fun q _ h => hFc q h) (fun E ce q9 u t H locs ht hvm hpx hE hz1 hk1 hS hq9 hv9 hc9 => ?_) (fun r u t H1 locs ht hvm hw hB hz1 hk1 hS => ?_)
  · skip
    exact hE.elim
  · skip
    obtain ⟨hP1, hK1, hD1⟩ := hB
    rw [ht] at hP1
    have hK1 := va_K.moved hvm.symm hK1
    obtain ⟨u2, rfl⟩ : ∃ z, z = u := ⟨_, rfl⟩
    obtain ⟨hP, hD⟩ := va_join (wr := [(k0, .inr (10, [.ref kN, .ref kA, .ref kO, .ref kK, .ref kV, .ref kG, .ref kP, .ref kC, .ref kD, .ref kE, .ref kF, .ref kX, .ref kY, .int 0, .ref kT, .ref kU, .int 0, .int 0, .int 0])), (kN, .inl (cI, 2, .inl (fun _ => 0))), (kA, .inl (cI, 2, .inl (fun _ => 0))), (kC, .inl (cI, 20, .inl (fun _ => 0))), (kD, .inl (cI, 20, .inl (fun _ => 0))), (kE, .inl (cI, 20, .inl (fun _ => 0))), (kF, .inl (cI, 20, .inl (fun _ => 0)))]) (w1 := [(oJ, .inl (cJ, 1, .inr (.inl u2)))]) hP hD [0, 1, 2, 3, 4, 5, 6, 7, 8, 9, 10, 18] [11, 12, 13, 14, 15, 16, 17] rfl rfl (by decide) (by decide) hk1 hFc hP1 hD1
    generalize H1 = H at hP hS ⊢
    have hP : va_P (dC, dI) vwCl [(k0, .inr (10, [.ref kN, .ref kA, .ref kO, .ref kK, .ref kV, .ref kG, .ref kP, .ref kC, .ref kD, .ref kE, .ref kF, .ref kX, .ref kY, .int 0, .ref kT, .ref kU, .int 0, .int 0, .int 0])), (kN, .inl (cI, 2, .inl (fun _ => 0))), (kA, .inl (cI, 2, .inl (fun _ => 0))), (kC, .inl (cI, 20, .inl (fun _ => 0))), (kD, .inl (cI, 20, .inl (fun _ => 0))), (kE, .inl (cI, 20, .inl (fun _ => 0))), (kF, .inl (cI, 20, .inl (fun _ => 0))), (oJ, .inl (cJ, 1, .inr (.inl u2)))] _ := hP
    have hD : va_D A [(k0, .inr (10, [.ref kN, .ref kA, .ref kO, .ref kK, .ref kV, .ref kG, .ref kP, .ref kC, .ref kD, .ref kE, .ref kF, .ref kX, .ref kY, .int 0, .ref kT, .ref kU, .int 0, .int 0, .int 0])), (kN, .inl (cI, 2, .inl (fun _ => 0))), (kA, .inl (cI, 2, .inl (fun _ => 0))), (kC, .inl (cI, 20, .inl (fun _ => 0))), (kD, .inl (cI, 20, .inl (fun _ => 0))), (kE, .inl (cI, 20, .inl (fun _ => 0))), (kF, .inl (cI, 20, .inl (fun _ => 0))), (oJ, .inl (cJ, 1, .inr (.inl u2)))] := hD
    refine W.widen (k := 149) (n := 2323) (Nat.le_of_ble_eq_true rfl) (Nat.le_of_ble_eq_true rfl) ?_
    subst hw
    refine lv_istore (lv' := [(6, .int 1), (5, .int 0), (4, .ref oD), (3, .ref oJ), (2, .ref k0), (1, .ref h0), (0, .ref b)]) hx hb dL_law_2297 hl (Nat.le_of_ble_eq_true rfl) rfl (fun ls hl => ?_)
    refine lv_aload_n hx hb dL_law_2299 rfl (lv_at hl 4 rfl) ?_
    refine lv_aload_n hx hb dL_law_2300 rfl (lv_at hl 6 rfl) ?_
    refine lv_iload hx hb dL_law_2301 (lv_at hl 1 rfl) ?_
    refine lv_iconst (v := 1) hx hb dL_law_2303 (by decide) ?_
    refine lv_iadd hx hb dL_law_2304 ?_
    refine lv_topi (fun y3 ey3 => ?_)
    obtain rfl : y3 = 1 := ey3.trans (by decide)
    refine va_sld hx hb hX9 hbl hbA hS (show ¬ (_ ∨ _) by decide) dL_law_2305 ?_
    refine W.eq (g2 := F0 m 2306 ls [.int (xs 1), .ref k0]) rfl ?_
    have hPc := hP.sub (ws' := [(k0, .inr (10, [.ref kN, .ref kA, .ref kO, .ref kK, .ref kV, .ref kG, .ref kP, .ref kC, .ref kD, .ref kE, .ref kF, .ref kX, .ref kY, .int 0, .ref kT, .ref kU, .int 0, .int 0, .int 0])), (kN, .inl (cI, 2, .inl (fun _ => 0))), (kA, .inl (cI, 2, .inl (fun _ => 0))), (kC, .inl (cI, 20, .inl (fun _ => 0))), (kD, .inl (cI, 20, .inl (fun _ => 0))), (kE, .inl (cI, 20, .inl (fun _ => 0))), (kF, .inl (cI, 20, .inl (fun _ => 0)))]) [0, 1, 2, 3, 4, 5, 6] rfl
    have hDc := hD.sub (ws' := [(k0, .inr (10, [.ref kN, .ref kA, .ref kO, .ref kK, .ref kV, .ref kG, .ref kP, .ref kC, .ref kD, .ref kE, .ref kF, .ref kX, .ref kY, .int 0, .ref kT, .ref kU, .int 0, .int 0, .int 0])), (kN, .inl (cI, 2, .inl (fun _ => 0))), (kA, .inl (cI, 2, .inl (fun _ => 0))), (kC, .inl (cI, 20, .inl (fun _ => 0))), (kD, .inl (cI, 20, .inl (fun _ => 0))), (kE, .inl (cI, 20, .inl (fun _ => 0))), (kF, .inl (cI, 20, .inl (fun _ => 0)))]) [0, 1, 2, 3, 4, 5, 6] (by decide) rfl
    have hKc := hK.sub (tys' := [(cI, .int)]) [0] rfl
    have hFc := va_free (wc := [(k0, .inr (10, [.ref kN, .ref kA, .ref kO, .ref kK, .ref kV, .ref kG, .ref kP, .ref kC, .ref kD, .ref kE, .ref kF, .ref kX, .ref kY, .int 0, .ref kT, .ref kU, .int 0, .int 0, .int 0])), (kN, .inl (cI, 2, .inl (fun _ => 0))), (kA, .inl (cI, 2, .inl (fun _ => 0))), (kC, .inl (cI, 20, .inl (fun _ => 0))), (kD, .inl (cI, 20, .inl (fun _ => 0))), (kE, .inl (cI, 20, .inl (fun _ => 0))), (kF, .inl (cI, 20, .inl (fun _ => 0)))]) hD hS hA [0, 1, 2, 3, 4, 5, 6] rfl
    refine va_calli (va_runV (As := [.int (xs 1)]) (rest := []) ⟨hx, hb, hml, hown, hts⟩ (kX7_differenceKind l dC dI k0 kN kA kO kK kV kG kP kC kD kE kF kX kY kT kU cI (fun _ => 0) (fun _ => 0) (fun _ => 0) (fun _ => 0) (xs 1) H.size) (cwV 1 hts gL_law_X7_differenceKind rfl rfl rfl (by decide +kernel) ⟨Nat.le_of_ble_eq_true rfl, Nat.le_of_ble_eq_true rfl⟩) (fPreV hN hZ hS (fun q h => hFc q h) hPc hKc hDc (ci := 10) (q0 := 0) rfl rfl) rfl rfl hl.1 rfl (lv_room (Nat.le_of_ble_eq_true rfl)) dL_law_2306 ⟨Nat.le_of_ble_eq_true rfl, Nat.le_of_ble_eq_true rfl⟩) hS (fun q _ h => hFc q h) hFc (fun r u t H1 locs ht hvm hw hB hz1 hk1 hS => ?_)
    obtain ⟨hP1, hK1, hD1⟩ := hB
    rw [ht] at hP1
    have hK1 := va_K.moved hvm.symm hK1
    obtain ⟨u4, rfl⟩ : ∃ z, z = u := ⟨_, rfl⟩
    obtain ⟨hP, hD⟩ := va_join (wr := [(oJ, .inl (cJ, 1, .inr (.inl u2)))]) (w1 := [(k0, .inr (10, [.ref kN, .ref kA, .ref kO, .ref kK, .ref kV, .ref kG, .ref kP, .ref kC, .ref kD, .ref kE, .ref kF, .ref kX, .ref kY, .int 0, .ref kT, .ref kU, .int u4, .int 0, .int 0]))]) hP hD [0, 1, 2, 3, 4, 5, 6] [7] rfl rfl (by decide) (by decide) hk1 hFc hP1 hD1
    generalize H1 = H at hP hS ⊢
    have hP : va_P (dC, dI) vwCl [(oJ, .inl (cJ, 1, .inr (.inl u2))), (k0, .inr (10, [.ref kN, .ref kA, .ref kO, .ref kK, .ref kV, .ref kG, .ref kP, .ref kC, .ref kD, .ref kE, .ref kF, .ref kX, .ref kY, .int 0, .ref kT, .ref kU, .int u4, .int 0, .int 0]))] _ := hP
    have hD : va_D A [(oJ, .inl (cJ, 1, .inr (.inl u2))), (k0, .inr (10, [.ref kN, .ref kA, .ref kO, .ref kK, .ref kV, .ref kG, .ref kP, .ref kC, .ref kD, .ref kE, .ref kF, .ref kX, .ref kY, .int 0, .ref kT, .ref kU, .int u4, .int 0, .int 0]))] := hD
    refine W.widen (k := 151) (n := 2363) (Nat.le_of_ble_eq_true rfl) (Nat.le_of_ble_eq_true rfl) ?_
    obtain ⟨r5, rfl⟩ : ∃ z, z = r := ⟨_, rfl⟩
    subst hw
    have hP : va_P (dC, dI) vwCl [(oJ, .inl (cJ, 1, .inr (.inl u2))), (k0, .inr (10, [.ref kN, .ref kA, .ref kO, .ref kK, .ref kV, .ref kG, .ref kP, .ref kC, .ref kD, .ref kE, .ref kF, .ref kX, .ref kY, .int 0, .ref kT, .ref kU, .int 1, .int 0, .int 0]))] _ := hP
    have hD : va_D A [(oJ, .inl (cJ, 1, .inr (.inl u2))), (k0, .inr (10, [.ref kN, .ref kA, .ref kO, .ref kK, .ref kV, .ref kG, .ref kP, .ref kC, .ref kD, .ref kE, .ref kF, .ref kX, .ref kY, .int 0, .ref kT, .ref kU, .int 1, .int 0, .int 0]))] := hD
    refine lv_istore (lv' := [(7, .int r5), (6, .int 1), (5, .int 0), (4, .ref oD), (3, .ref oJ), (2, .ref k0), (1, .ref h0), (0, .ref b)]) hx hb dL_law_2309 hl (Nat.le_of_ble_eq_true rfl) rfl (fun ls hl => ?_)
    refine lv_aload_n hx hb dL_law_2311 rfl (lv_at hl 5 rfl) ?_
    have hPc := hP.sub (ws' := [(k0, .inr (10, [.ref kN, .ref kA, .ref kO, .ref kK, .ref kV, .ref kG, .ref kP, .ref kC, .ref kD, .ref kE, .ref kF, .ref kX, .ref kY, .int 0, .ref kT, .ref kU, .int 1, .int 0, .int 0]))]) [1] rfl
    have hDc := hD.sub (ws' := [(k0, .inr (10, [.ref kN, .ref kA, .ref kO, .ref kK, .ref kV, .ref kG, .ref kP, .ref kC, .ref kD, .ref kE, .ref kF, .ref kX, .ref kY, .int 0, .ref kT, .ref kU, .int 1, .int 0, .int 0]))]) [1] (by decide) rfl
    have hKc := hK.sub (tys' := []) [] rfl
    have hFc := va_free (wc := [(k0, .inr (10, [.ref kN, .ref kA, .ref kO, .ref kK, .ref kV, .ref kG, .ref kP, .ref kC, .ref kD, .ref kE, .ref kF, .ref kX, .ref kY, .int 0, .ref kT, .ref kU, .int 1, .int 0, .int 0]))]) hD hS hA [1] rfl
    refine va_calli (va_runV (As := []) (rest := []) ⟨hx, hb, hml, hown, hts⟩ (kX7_thrown l dC dI k0 kN kA kO kK kV kG kP kC kD kE kF kX kY kT kU 1 H.size) (cwV 0 hts gL_law_X7_thrown rfl rfl rfl (by decide +kernel) ⟨Nat.le_of_ble_eq_true rfl, Nat.le_of_ble_eq_true rfl⟩) (fPreV hN hZ hS (fun q h => hFc q h) hPc hKc hDc (ci := 10) (q0 := 0) rfl rfl) rfl rfl hl.1 rfl (lv_room (Nat.le_of_ble_eq_true rfl)) dL_law_2312 ⟨Nat.le_of_ble_eq_true rfl, Nat.le_of_ble_eq_true rfl⟩) hS (fun q _ h => hFc q h) hFc (fun r u t H1 locs ht hvm hw hB hz1 hk1 hS => ?_)
    obtain ⟨hP1, hK1, hD1⟩ := hB
    rw [ht] at hP1
    have hK1 := va_K.moved hvm.symm hK1
    obtain ⟨hP, hD⟩ := va_join (wr := [(oJ, .inl (cJ, 1, .inr (.inl u2)))]) (w1 := []) hP hD [1] [0] rfl rfl (by decide) (by decide) hk1 hFc hP1 hD1
    generalize H1 = H at hP hS ⊢
    have hP : va_P (dC, dI) vwCl [(oJ, .inl (cJ, 1, .inr (.inl u2)))] _ := hP
    have hD : va_D A [(oJ, .inl (cJ, 1, .inr (.inl u2)))] := hD
    subst hw
    refine lv_iload hx hb dL_law_2315 (lv_at hl 1 rfl) ?_
    refine lv_icmp_eq (tgt := 2322) hx hb dL_law_2317 (by decide) (fun _ => ?_) (fun h9 => absurd (by decide) h9)
    refine lv_iload hx hb dL_law_2322 (lv_at hl 1 rfl) ?_
    refine lv_if_ne (tgt := 2339) hx hb dL_law_2324 (by decide) (fun _ => ?_) (fun h9 => absurd h9 (by decide))
    refine lv_goto (tgt := 2720) hx hb dL_law_2339 (by decide) ?_
    refine lv_iinc (v := 7) (lv' := [(5, .int 7), (7, .int r5), (6, .int 1), (4, .ref oD), (3, .ref oJ), (2, .ref k0), (1, .ref h0), (0, .ref b)]) hx hb dL_law_2720 hl (k := 2) rfl (by decide) (Nat.le_of_ble_eq_true rfl) rfl (fun ls hl => ?_)
    refine lv_goto (tgt := 28) hx hb dL_law_2723 (by decide) ?_
    refine lv_iload hx hb dL_law_28 (lv_at hl 0 rfl) ?_
    refine lv_aload_n hx hb dL_law_30 rfl (lv_at hl 7 rfl) ?_
    refine va_slen hx hb hX9 hbl hbA hS dL_law_31 ?_
    refine W.eq (g2 := F0 m 32 ls [.int 7, .int 7]) rfl ?_
    refine lv_bipush (v := 7) hx hb dL_law_32 (by decide) ?_
    refine lv_isub hx hb dL_law_34 ?_
    refine lv_topi (fun y6 ey6 => ?_)
    obtain rfl : y6 = 0 := ey6.trans (by decide)
    refine lv_icmp_gt (tgt := 2726) hx hb dL_law_35 (by decide) (fun _ => ?_) (fun h9 => absurd (by decide) h9)
    refine lv_iconst (v := 1) hx hb dL_law_2726 (by decide) ?_
    refine va_forget (fun q hq => hAe _ (hS.2.2 q hq)) ?_
    refine W.widen (k := 603072) (n := 7198826) (Nat.le_of_ble_eq_true rfl) (Nat.le_of_ble_eq_true rfl) ?_
    exact W.base (lw_ret (d0 := s.drawn) (Drawn.sameBut.refl _ _) hx hb hr hlk dL_law_2727)

set_option maxHeartbeats 4000000 in
set_option maxRecDepth 100000 in
/-- case 35 of the law: differenceMember, on fresh objects -/
theorem lc_35 {p : Program} {e : Env} {s : State} {m : MethodId} {below : List Frame} {meth : Method} {c : Code} (l : Launch) (hfl : l.stackTraces = false) {b : Nat} {xs : Nat → Int32} (hx : p.tables.exec = Jvm.exec) (hb : c.code = cL_law) (hr : meth.sig.returnType = ret) (hml : c.maxLocals = 9) (hown : s.vm.findClass RL = some m.cls) (hts : ∀ w ∈ wsL_law, w.before #[Value.ref b] s = true) (hlk : meth.locks = false) (A : Nat → Prop) (hAe : ∀ q, A q → s.heap.size ≤ q) (hA : ∀ q : Nat, s.heap.size ≤ q → A q) (hX9 : va_X b 7 xs s s.heap) (hbl : b < s.heap.size) (hN : fN s) (hZ : fZ A s s.heap) (hX : fX s) (dC : Nat → ClassId) (dI : Nat → Nat → Nat) (h0 w d wL wP wS dL dP dS co on onR onL onC onD op opR opL opC opD un unK ma tm k0 kN kA kO kK kV kG kP kC kD kE kF kX kY kT kU oJ oD : Nat) (cI cJ : ClassId) {H : Heap} {locs : List Loc} {ls : Array Slot} (hK : va_K (dC, dI) vwCl [(cI, .int), (cJ, .long)] s) (hP : va_P (dC, dI) vwCl [(h0, .inr (9, [.ref w, .ref d, .ref co, .ref un, .ref ma, .ref tm, .int 0, .int 0, .int 0])), (co, .inr (4, [.ref w, .ref d, .ref on, .ref op, .int 0])), (w, .inr (3, [.int 0, .int 0, .ref wL, .ref wP, .ref wS])), (d, .inr (3, [.int 0, .int 0, .ref dL, .ref dP, .ref dS])), (on, .inr (7, [.ref onR, .ref onL, .ref onC, .ref onD, .int 0])), (onL, .inl (cI, 20, .inl (fun _ => 0))), (onC, .inl (cI, 20, .inl (fun _ => 0))), (op, .inr (7, [.ref opR, .ref opL, .ref opC, .ref opD, .int 0])), (opL, .inl (cI, 20, .inl (fun _ => 0))), (opC, .inl (cI, 20, .inl (fun _ => 0))), (un, .inr (5, [.ref unK, .int 0])), (k0, .inr (10, [.ref kN, .ref kA, .ref kO, .ref kK, .ref kV, .ref kG, .ref kP, .ref kC, .ref kD, .ref kE, .ref kF, .ref kX, .ref kY, .int 0, .ref kT, .ref kU, .int 0, .int 0, .int 0])), (kN, .inl (cI, 2, .inl (fun _ => 0))), (kA, .inl (cI, 2, .inl (fun _ => 0))), (kC, .inl (cI, 20, .inl (fun _ => 0))), (kD, .inl (cI, 20, .inl (fun _ => 0))), (kE, .inl (cI, 20, .inl (fun _ => 0))), (kF, .inl (cI, 20, .inl (fun _ => 0))), (oJ, .inl (cJ, 1, .inr (.inl (fun _ => 0))))] H) (hD : va_D A [(h0, .inr (9, [.ref w, .ref d, .ref co, .ref un, .ref ma, .ref tm, .int 0, .int 0, .int 0])), (co, .inr (4, [.ref w, .ref d, .ref on, .ref op, .int 0])), (w, .inr (3, [.int 0, .int 0, .ref wL, .ref wP, .ref wS])), (d, .inr (3, [.int 0, .int 0, .ref dL, .ref dP, .ref dS])), (on, .inr (7, [.ref onR, .ref onL, .ref onC, .ref onD, .int 0])), (onL, .inl (cI, 20, .inl (fun _ => 0))), (onC, .inl (cI, 20, .inl (fun _ => 0))), (op, .inr (7, [.ref opR, .ref opL, .ref opC, .ref opD, .int 0])), (opL, .inl (cI, 20, .inl (fun _ => 0))), (opC, .inl (cI, 20, .inl (fun _ => 0))), (un, .inr (5, [.ref unK, .int 0])), (k0, .inr (10, [.ref kN, .ref kA, .ref kO, .ref kK, .ref kV, .ref kG, .ref kP, .ref kC, .ref kD, .ref kE, .ref kF, .ref kX, .ref kY, .int 0, .ref kT, .ref kU, .int 0, .int 0, .int 0])), (kN, .inl (cI, 2, .inl (fun _ => 0))), (kA, .inl (cI, 2, .inl (fun _ => 0))), (kC, .inl (cI, 20, .inl (fun _ => 0))), (kD, .inl (cI, 20, .inl (fun _ => 0))), (kE, .inl (cI, 20, .inl (fun _ => 0))), (kF, .inl (cI, 20, .inl (fun _ => 0))), (oJ, .inl (cJ, 1, .inr (.inl (fun _ => 0))))]) (hS : va_S A s.heap H locs) (hl : lv_has ls 9 [(5, .int 0), (4, .ref oD), (3, .ref oJ), (2, .ref k0), (1, .ref h0), (0, .ref b)]) : W p l e room_1 s m #[Value.ref b] below meth c H locs 148 2317 (lw_Z below #[Value.ref b] s) (F0 m 2342 ls []) := by
  have hbA : ¬ A b := fun h => Nat.not_le.mpr hbl (hAe _ h)
  have hX0 := hX
  refine lv_aload_n hx hb dL_law_2342 rfl (lv_at hl 4 rfl) ?_
  refine lv_aload_n hx hb dL_law_2343 rfl (lv_at hl 5 rfl) ?_
  refine lv_iload hx hb dL_law_2344 (lv_at hl 0 rfl) ?_
  refine lv_iconst (v := 1) hx hb dL_law_2346 (by decide) ?_
  refine lv_iadd hx hb dL_law_2347 ?_
  refine lv_topi (fun y1 ey1 => ?_)
  obtain rfl : y1 = 1 := ey1.trans (by decide)
  refine va_sld hx hb hX9 hbl hbA hS (show ¬ (_ ∨ _) by decide) dL_law_2348 ?_
  refine W.eq (g2 := F0 m 2349 ls [.int (xs 1), .ref h0]) rfl ?_
  refine lv_aload_n hx hb dL_law_2349 rfl (lv_at hl 2 rfl) ?_
  have hPc := hP.sub (ws' := [(h0, .inr (9, [.ref w, .ref d, .ref co, .ref un, .ref ma, .ref tm, .int 0, .int 0, .int 0])), (co, .inr (4, [.ref w, .ref d, .ref on, .ref op, .int 0])), (w, .inr (3, [.int 0, .int 0, .ref wL, .ref wP, .ref wS])), (d, .inr (3, [.int 0, .int 0, .ref dL, .ref dP, .ref dS])), (on, .inr (7, [.ref onR, .ref onL, .ref onC, .ref onD, .int 0])), (onL, .inl (cI, 20, .inl (fun _ => 0))), (onC, .inl (cI, 20, .inl (fun _ => 0))), (op, .inr (7, [.ref opR, .ref opL, .ref opC, .ref opD, .int 0])), (opL, .inl (cI, 20, .inl (fun _ => 0))), (opC, .inl (cI, 20, .inl (fun _ => 0))), (un, .inr (5, [.ref unK, .int 0])), (oJ, .inl (cJ, 1, .inr (.inl (fun _ => 0))))]) [0, 1, 2, 3, 4, 5, 6, 7, 8, 9, 10, 18] rfl
  have hDc := hD.sub (ws' := [(h0, .inr (9, [.ref w, .ref d, .ref co, .ref un, .ref ma, .ref tm, .int 0, .int 0, .int 0])), (co, .inr (4, [.ref w, .ref d, .ref on, .ref op, .int 0])), (w, .inr (3, [.int 0, .int 0, .ref wL, .ref wP, .ref wS])), (d, .inr (3, [.int 0, .int 0, .ref dL, .ref dP, .ref dS])), (on, .inr (7, [.ref onR, .ref onL, .ref onC, .ref onD, .int 0])), (onL, .inl (cI, 20, .inl (fun _ => 0))), (onC, .inl (cI, 20, .inl (fun _ => 0))), (op, .inr (7, [.ref opR, .ref opL, .ref opC, .ref opD, .int 0])), (opL, .inl (cI, 20, .inl (fun _ => 0))), (opC, .inl (cI, 20, .inl (fun _ => 0))), (un, .inr (5, [.ref unK, .int 0])), (oJ, .inl (cJ, 1, .inr (.inl (fun _ => 0))))]) [0, 1, 2, 3, 4, 5, 6, 7, 8, 9, 10, 18] (by decide) rfl
  have hKc := hK.sub (tys' := [(cI, .int), (cJ, .long)]) [0, 1] rfl
  have hFc := va_free (wc := [(h0, .inr (9, [.ref w, .ref d, .ref co, .ref un, .ref ma, .ref tm, .int 0, .int 0, .int 0])), (co, .inr (4, [.ref w, .ref d, .ref on, .ref op, .int 0])), (w, .inr (3, [.int 0, .int 0, .ref wL, .ref wP, .ref wS])), (d, .inr (3, [.int 0, .int 0, .ref dL, .ref dP, .ref dS])), (on, .inr (7, [.ref onR, .ref onL, .ref onC, .ref onD, .int 0])), (onL, .inl (cI, 20, .inl (fun _ => 0))), (onC, .inl (cI, 20, .inl (fun _ => 0))), (op, .inr (7, [.ref opR, .ref opL, .ref opC, .ref opD, .int 0])), (opL, .inl (cI, 20, .inl (fun _ => 0))), (opC, .inl (cI, 20, .inl (fun _ => 0))), (un, .inr (5, [.ref unK, .int 0])), (oJ, .inl (cJ, 1, .inr (.inl (fun _ => 0))))]) hD hS hA [0, 1, 2, 3, 4, 5, 6, 7, 8, 9, 10, 18] rfl
  refine vx_calli (vx_runSX (As := [.ref h0, .int (xs 1), .ref oJ]) (rest := []) ⟨hx, hb, hml, hown, hts⟩ (kL_differenceMember l hfl dC dI h0 ma tm un unK co w wL wP wS d dL dP dS on onR onL onC onD op opR opL opC opD cI (fun _ => 0) (fun _ => 0) oJ cJ (xs 1) H.size) (vx_cwSW 3 hts gL_law_L_differenceMember rfl rfl rfl (by decide +kernel) ⟨Nat.le_of_ble_eq_true rfl, Nat.le_of_ble_eq_true rfl⟩) (gPreS hX hN hZ hS (fun q h => hFc q h) hPc hKc hDc) rfl rfl hl.1 rfl (lv_room (Nat.le_of_ble_eq_true rfl)) dL_law_2350 ⟨Nat.le_of_ble_eq_true rfl, Nat.le_of_ble_eq_true rfl⟩) hS (fun q _ h => hFc q h) hFc (fun q _ h => hFc q h) (fun E ce q9 u t H locs ht hvm hpx hE hz1 hk1 hS hq9 hv9 hc9 => ?_) (fun r u t H1 locs ht hvm hw hB hz1 hk1 hS => ?_)
  · skip
    exact hE.elim
  · skip
    obtain ⟨hP1, hK1, hD1⟩ := hB
    rw [ht] at hP1
    have hK1 := va_K.moved hvm.symm hK1
    obtain ⟨u2, rfl⟩ : ∃ z, z = u := ⟨_, rfl⟩
    obtain ⟨hP, hD⟩ := va_join (wr := [(k0, .inr (10, [.ref kN, .ref kA, .ref kO, .ref kK, .ref kV, .ref kG, .ref kP, .ref kC, .ref kD, .ref kE, .ref kF, .ref kX, .ref kY, .int 0, .ref kT, .ref kU, .int 0, .int 0, .int 0])), (kN, .inl (cI, 2, .inl (fun _ => 0))), (kA, .inl (cI, 2, .inl (fun _ => 0))), (kC, .inl (cI, 20, .inl (fun _ => 0))), (kD, .inl (cI, 20, .inl (fun _ => 0))), (kE, .inl (cI, 20, .inl (fun _ => 0))), (kF, .inl (cI, 20, .inl (fun _ => 0)))]) (w1 := [(oJ, .inl (cJ, 1, .inr (.inl u2)))]) hP hD [0, 1, 2, 3, 4, 5, 6, 7, 8, 9, 10, 18] [11, 12, 13, 14, 15, 16, 17] rfl rfl (by decide) (by decide) hk1 hFc hP1 hD1
    generalize H1 = H at hP hS ⊢
    have hP : va_P (dC, dI) vwCl [(k0, .inr (10, [.ref kN, .ref kA, .ref kO, .ref kK, .ref kV, .ref kG, .ref kP, .ref kC, .ref kD, .ref kE, .ref kF, .ref kX, .ref kY, .int 0, .ref kT, .ref kU, .int 0, .int 0, .int 0])), (kN, .inl (cI, 2, .inl (fun _ => 0))), (kA, .inl (cI, 2, .inl (fun _ => 0))), (kC, .inl (cI, 20, .inl (fun _ => 0))), (kD, .inl (cI, 20, .inl (fun _ => 0))), (kE, .inl (cI, 20, .inl (fun _ => 0))), (kF, .inl (cI, 20, .inl (fun _ => 0))), (oJ, .inl (cJ, 1, .inr (.inl u2)))] _ := hP
    have hD : va_D A [(k0, .inr (10, [.ref kN, .ref kA, .ref kO, .ref kK, .ref kV, .ref kG, .ref kP, .ref kC, .ref kD, .ref kE, .ref kF, .ref kX, .ref kY, .int 0, .ref kT, .ref kU, .int 0, .int 0, .int 0])), (kN, .inl (cI, 2, .inl (fun _ => 0))), (kA, .inl (cI, 2, .inl (fun _ => 0))), (kC, .inl (cI, 20, .inl (fun _ => 0))), (kD, .inl (cI, 20, .inl (fun _ => 0))), (kE, .inl (cI, 20, .inl (fun _ => 0))), (kF, .inl (cI, 20, .inl (fun _ => 0))), (oJ, .inl (cJ, 1, .inr (.inl u2)))] := hD
    refine W.widen (k := 149) (n := 2323) (Nat.le_of_ble_eq_true rfl) (Nat.le_of_ble_eq_true rfl) ?_
    subst hw
    refine lv_istore (lv' := [(6, .int 1), (5, .int 0), (4, .ref oD), (3, .ref oJ), (2, .ref k0), (1, .ref h0), (0, .ref b)]) hx hb dL_law_2353 hl (Nat.le_of_ble_eq_true rfl) rfl (fun ls hl => ?_)
    refine lv_aload_n hx hb dL_law_2355 rfl (lv_at hl 4 rfl) ?_
    refine lv_aload_n hx hb dL_law_2356 rfl (lv_at hl 6 rfl) ?_
    refine lv_iload hx hb dL_law_2357 (lv_at hl 1 rfl) ?_
    refine lv_iconst (v := 1) hx hb dL_law_2359 (by decide) ?_
    refine lv_iadd hx hb dL_law_2360 ?_
    refine lv_topi (fun y3 ey3 => ?_)
    obtain rfl : y3 = 1 := ey3.trans (by decide)
    refine va_sld hx hb hX9 hbl hbA hS (show ¬ (_ ∨ _) by decide) dL_law_2361 ?_
    refine W.eq (g2 := F0 m 2362 ls [.int (xs 1), .ref k0]) rfl ?_
    have hPc := hP.sub (ws' := [(k0, .inr (10, [.ref kN, .ref kA, .ref kO, .ref kK, .ref kV, .ref kG, .ref kP, .ref kC, .ref kD, .ref kE, .ref kF, .ref kX, .ref kY, .int 0, .ref kT, .ref kU, .int 0, .int 0, .int 0])), (kN, .inl (cI, 2, .inl (fun _ => 0))), (kA, .inl (cI, 2, .inl (fun _ => 0))), (kC, .inl (cI, 20, .inl (fun _ => 0))), (kD, .inl (cI, 20, .inl (fun _ => 0))), (kE, .inl (cI, 20, .inl (fun _ => 0))), (kF, .inl (cI, 20, .inl (fun _ => 0)))]) [0, 1, 2, 3, 4, 5, 6] rfl
    have hDc := hD.sub (ws' := [(k0, .inr (10, [.ref kN, .ref kA, .ref kO, .ref kK, .ref kV, .ref kG, .ref kP, .ref kC, .ref kD, .ref kE, .ref kF, .ref kX, .ref kY, .int 0, .ref kT, .ref kU, .int 0, .int 0, .int 0])), (kN, .inl (cI, 2, .inl (fun _ => 0))), (kA, .inl (cI, 2, .inl (fun _ => 0))), (kC, .inl (cI, 20, .inl (fun _ => 0))), (kD, .inl (cI, 20, .inl (fun _ => 0))), (kE, .inl (cI, 20, .inl (fun _ => 0))), (kF, .inl (cI, 20, .inl (fun _ => 0)))]) [0, 1, 2, 3, 4, 5, 6] (by decide) rfl
    have hKc := hK.sub (tys' := [(cI, .int)]) [0] rfl
    have hFc := va_free (wc := [(k0, .inr (10, [.ref kN, .ref kA, .ref kO, .ref kK, .ref kV, .ref kG, .ref kP, .ref kC, .ref kD, .ref kE, .ref kF, .ref kX, .ref kY, .int 0, .ref kT, .ref kU, .int 0, .int 0, .int 0])), (kN, .inl (cI, 2, .inl (fun _ => 0))), (kA, .inl (cI, 2, .inl (fun _ => 0))), (kC, .inl (cI, 20, .inl (fun _ => 0))), (kD, .inl (cI, 20, .inl (fun _ => 0))), (kE, .inl (cI, 20, .inl (fun _ => 0))), (kF, .inl (cI, 20, .inl (fun _ => 0)))]) hD hS hA [0, 1, 2, 3, 4, 5, 6] rfl
    refine va_calli (va_runV (As := [.int (xs 1)]) (rest := []) ⟨hx, hb, hml, hown, hts⟩ (kX7_differenceMember l dC dI k0 kN kA kO kK kV kG kP kC kD kE kF kX kY kT kU cI (fun _ => 0) (fun _ => 0) (fun _ => 0) (fun _ => 0) (xs 1) H.size) (cwV 1 hts gL_law_X7_differenceMember rfl rfl rfl (by decide +kernel) ⟨Nat.le_of_ble_eq_true rfl, Nat.le_of_ble_eq_true rfl⟩) (fPreV hN hZ hS (fun q h => hFc q h) hPc hKc hDc (ci := 10) (q0 := 0) rfl rfl) rfl rfl hl.1 rfl (lv_room (Nat.le_of_ble_eq_true rfl)) dL_law_2362 ⟨Nat.le_of_ble_eq_true rfl, Nat.le_of_ble_eq_true rfl⟩) hS (fun q _ h => hFc q h) hFc (fun r u t H1 locs ht hvm hw hB hz1 hk1 hS => ?_)
    obtain ⟨hP1, hK1, hD1⟩ := hB
    rw [ht] at hP1
    have hK1 := va_K.moved hvm.symm hK1
    obtain ⟨u4, rfl⟩ : ∃ z, z = u := ⟨_, rfl⟩
    obtain ⟨hP, hD⟩ := va_join (wr := [(oJ, .inl (cJ, 1, .inr (.inl u2)))]) (w1 := [(k0, .inr (10, [.ref kN, .ref kA, .ref kO, .ref kK, .ref kV, .ref kG, .ref kP, .ref kC, .ref kD, .ref kE, .ref kF, .ref kX, .ref kY, .int 0, .ref kT, .ref kU, .int u4, .int 0, .int 0]))]) hP hD [0, 1, 2, 3, 4, 5, 6] [7] rfl rfl (by decide) (by decide) hk1 hFc hP1 hD1
    generalize H1 = H at hP hS ⊢
    have hP : va_P (dC, dI) vwCl [(oJ, .inl (cJ, 1, .inr (.inl u2))), (k0, .inr (10, [.ref kN, .ref kA, .ref kO, .ref kK, .ref kV, .ref kG, .ref kP, .ref kC, .ref kD, .ref kE, .ref kF, .ref kX, .ref kY, .int 0, .ref kT, .ref kU, .int u4, .int 0, .int 0]))] _ := hP
    have hD : va_D A [(oJ, .inl (cJ, 1, .inr (.inl u2))), (k0, .inr (10, [.ref kN, .ref kA, .ref kO, .ref kK, .ref kV, .ref kG, .ref kP, .ref kC, .ref kD, .ref kE, .ref kF, .ref kX, .ref kY, .int 0, .ref kT, .ref kU, .int u4, .int 0, .int 0]))] := hD
    refine W.widen (k := 151) (n := 2363) (Nat.le_of_ble_eq_true rfl) (Nat.le_of_ble_eq_true rfl) ?_
    obtain ⟨r5, rfl⟩ : ∃ z, z = r := ⟨_, rfl⟩
    subst hw
    have hP : va_P (dC, dI) vwCl [(oJ, .inl (cJ, 1, .inr (.inl u2))), (k0, .inr (10, [.ref kN, .ref kA, .ref kO, .ref kK, .ref kV, .ref kG, .ref kP, .ref kC, .ref kD, .ref kE, .ref kF, .ref kX, .ref kY, .int 0, .ref kT, .ref kU, .int 1, .int 0, .int 0]))] _ := hP
    have hD : va_D A [(oJ, .inl (cJ, 1, .inr (.inl u2))), (k0, .inr (10, [.ref kN, .ref kA, .ref kO, .ref kK, .ref kV, .ref kG, .ref kP, .ref kC, .ref kD, .ref kE, .ref kF, .ref kX, .ref kY, .int 0, .ref kT, .ref kU, .int 1, .int 0, .int 0]))] := hD
    refine lv_istore (lv' := [(7, .int r5), (6, .int 1), (5, .int 0), (4, .ref oD), (3, .ref oJ), (2, .ref k0), (1, .ref h0), (0, .ref b)]) hx hb dL_law_2365 hl (Nat.le_of_ble_eq_true rfl) rfl (fun ls hl => ?_)
    refine lv_aload_n hx hb dL_law_2367 rfl (lv_at hl 5 rfl) ?_
    have hPc := hP.sub (ws' := [(k0, .inr (10, [.ref kN, .ref kA, .ref kO, .ref kK, .ref kV, .ref kG, .ref kP, .ref kC, .ref kD, .ref kE, .ref kF, .ref kX, .ref kY, .int 0, .ref kT, .ref kU, .int 1, .int 0, .int 0]))]) [1] rfl
    have hDc := hD.sub (ws' := [(k0, .inr (10, [.ref kN, .ref kA, .ref kO, .ref kK, .ref kV, .ref kG, .ref kP, .ref kC, .ref kD, .ref kE, .ref kF, .ref kX, .ref kY, .int 0, .ref kT, .ref kU, .int 1, .int 0, .int 0]))]) [1] (by decide) rfl
    have hKc := hK.sub (tys' := []) [] rfl
    have hFc := va_free (wc := [(k0, .inr (10, [.ref kN, .ref kA, .ref kO, .ref kK, .ref kV, .ref kG, .ref kP, .ref kC, .ref kD, .ref kE, .ref kF, .ref kX, .ref kY, .int 0, .ref kT, .ref kU, .int 1, .int 0, .int 0]))]) hD hS hA [1] rfl
    refine va_calli (va_runV (As := []) (rest := []) ⟨hx, hb, hml, hown, hts⟩ (kX7_thrown l dC dI k0 kN kA kO kK kV kG kP kC kD kE kF kX kY kT kU 1 H.size) (cwV 0 hts gL_law_X7_thrown rfl rfl rfl (by decide +kernel) ⟨Nat.le_of_ble_eq_true rfl, Nat.le_of_ble_eq_true rfl⟩) (fPreV hN hZ hS (fun q h => hFc q h) hPc hKc hDc (ci := 10) (q0 := 0) rfl rfl) rfl rfl hl.1 rfl (lv_room (Nat.le_of_ble_eq_true rfl)) dL_law_2368 ⟨Nat.le_of_ble_eq_true rfl, Nat.le_of_ble_eq_true rfl⟩) hS (fun q _ h => hFc q h) hFc (fun r u t H1 locs ht hvm hw hB hz1 hk1 hS => ?_)
    obtain ⟨hP1, hK1, hD1⟩ := hB
    rw [ht] at hP1
    have hK1 := va_K.moved hvm.symm hK1
    obtain ⟨hP, hD⟩ := va_join (wr := [(oJ, .inl (cJ, 1, .inr (.inl u2)))]) (w1 := []) hP hD [1] [0] rfl rfl (by decide) (by decide) hk1 hFc hP1 hD1
    generalize H1 = H at hP hS ⊢
    have hP : va_P (dC, dI) vwCl [(oJ, .inl (cJ, 1, .inr (.inl u2)))] _ := hP
    have hD : va_D A [(oJ, .inl (cJ, 1, .inr (.inl u2)))] := hD
    subst hw
    refine lv_iload hx hb dL_law_2371 (lv_at hl 1 rfl) ?_
    refine lv_icmp_eq (tgt := 2378) hx hb dL_law_2373 (by decide) (fun _ => ?_) (fun h9 => absurd (by decide) h9)
    refine lv_iload hx hb dL_law_2378 (lv_at hl 1 rfl) ?_
    refine lv_if_ne (tgt := 2395) hx hb dL_law_2380 (by decide) (fun _ => ?_) (fun h9 => absurd h9 (by decide))
    refine lv_goto (tgt := 2720) hx hb dL_law_2395 (by decide) ?_
    refine lv_iinc (v := 7) (lv' := [(5, .int 7), (7, .int r5), (6, .int 1), (4, .ref oD), (3, .ref oJ), (2, .ref k0), (1, .ref h0), (0, .ref b)]) hx hb dL_law_2720 hl (k := 2) rfl (by decide) (Nat.le_of_ble_eq_true rfl) rfl (fun ls hl => ?_)
    refine lv_goto (tgt := 28) hx hb dL_law_2723 (by decide) ?_
    refine lv_iload hx hb dL_law_28 (lv_at hl 0 rfl) ?_
    refine lv_aload_n hx hb dL_law_30 rfl (lv_at hl 7 rfl) ?_
    refine va_slen hx hb hX9 hbl hbA hS dL_law_31 ?_
    refine W.eq (g2 := F0 m 32 ls [.int 7, .int 7]) rfl ?_
    refine lv_bipush (v := 7) hx hb dL_law_32 (by decide) ?_
    refine lv_isub hx hb dL_law_34 ?_
    refine lv_topi (fun y6 ey6 => ?_)
    obtain rfl : y6 = 0 := ey6.trans (by decide)
    refine lv_icmp_gt (tgt := 2726) hx hb dL_law_35 (by decide) (fun _ => ?_) (fun h9 => absurd (by decide) h9)
    refine lv_iconst (v := 1) hx hb dL_law_2726 (by decide) ?_
    refine va_forget (fun q hq => hAe _ (hS.2.2 q hq)) ?_
    refine W.widen (k := 603072) (n := 7198826) (Nat.le_of_ble_eq_true rfl) (Nat.le_of_ble_eq_true rfl) ?_
    exact W.base (lw_ret (d0 := s.drawn) (Drawn.sameBut.refl _ _) hx hb hr hlk dL_law_2727)

set_option maxHeartbeats 4000000 in
set_option maxRecDepth 100000 in
/-- case 36 of the law: differenceDistance, on fresh objects -/
theorem lc_36 {p : Program} {e : Env} {s : State} {m : MethodId} {below : List Frame} {meth : Method} {c : Code} (l : Launch) (hfl : l.stackTraces = false) {b : Nat} {xs : Nat → Int32} (hx : p.tables.exec = Jvm.exec) (hb : c.code = cL_law) (hr : meth.sig.returnType = ret) (hml : c.maxLocals = 9) (hown : s.vm.findClass RL = some m.cls) (hts : ∀ w ∈ wsL_law, w.before #[Value.ref b] s = true) (hlk : meth.locks = false) (A : Nat → Prop) (hAe : ∀ q, A q → s.heap.size ≤ q) (hA : ∀ q : Nat, s.heap.size ≤ q → A q) (hX9 : va_X b 7 xs s s.heap) (hbl : b < s.heap.size) (hN : fN s) (hZ : fZ A s s.heap) (hX : fX s) (dC : Nat → ClassId) (dI : Nat → Nat → Nat) (h0 w d wL wP wS dL dP dS co on onR onL onC onD op opR opL opC opD un unK ma tm k0 kN kA kO kK kV kG kP kC kD kE kF kX kY kT kU oJ oD : Nat) (cI cJ : ClassId) {H : Heap} {locs : List Loc} {ls : Array Slot} (hK : va_K (dC, dI) vwCl [(cI, .int), (cJ, .long)] s) (hP : va_P (dC, dI) vwCl [(h0, .inr (9, [.ref w, .ref d, .ref co, .ref un, .ref ma, .ref tm, .int 0, .int 0, .int 0])), (co, .inr (4, [.ref w, .ref d, .ref on, .ref op, .int 0])), (w, .inr (3, [.int 0, .int 0, .ref wL, .ref wP, .ref wS])), (d, .inr (3, [.int 0, .int 0, .ref dL, .ref dP, .ref dS])), (on, .inr (7, [.ref onR, .ref onL, .ref onC, .ref onD, .int 0])), (onL, .inl (cI, 20, .inl (fun _ => 0))), (onC, .inl (cI, 20, .inl (fun _ => 0))), (op, .inr (7, [.ref opR, .ref opL, .ref opC, .ref opD, .int 0])), (opL, .inl (cI, 20, .inl (fun _ => 0))), (opC, .inl (cI, 20, .inl (fun _ => 0))), (un, .inr (5, [.ref unK, .int 0])), (k0, .inr (10, [.ref kN, .ref kA, .ref kO, .ref kK, .ref kV, .ref kG, .ref kP, .ref kC, .ref kD, .ref kE, .ref kF, .ref kX, .ref kY, .int 0, .ref kT, .ref kU, .int 0, .int 0, .int 0])), (kN, .inl (cI, 2, .inl (fun _ => 0))), (kA, .inl (cI, 2, .inl (fun _ => 0))), (kC, .inl (cI, 20, .inl (fun _ => 0))), (kD, .inl (cI, 20, .inl (fun _ => 0))), (kE, .inl (cI, 20, .inl (fun _ => 0))), (kF, .inl (cI, 20, .inl (fun _ => 0))), (oJ, .inl (cJ, 1, .inr (.inl (fun _ => 0))))] H) (hD : va_D A [(h0, .inr (9, [.ref w, .ref d, .ref co, .ref un, .ref ma, .ref tm, .int 0, .int 0, .int 0])), (co, .inr (4, [.ref w, .ref d, .ref on, .ref op, .int 0])), (w, .inr (3, [.int 0, .int 0, .ref wL, .ref wP, .ref wS])), (d, .inr (3, [.int 0, .int 0, .ref dL, .ref dP, .ref dS])), (on, .inr (7, [.ref onR, .ref onL, .ref onC, .ref onD, .int 0])), (onL, .inl (cI, 20, .inl (fun _ => 0))), (onC, .inl (cI, 20, .inl (fun _ => 0))), (op, .inr (7, [.ref opR, .ref opL, .ref opC, .ref opD, .int 0])), (opL, .inl (cI, 20, .inl (fun _ => 0))), (opC, .inl (cI, 20, .inl (fun _ => 0))), (un, .inr (5, [.ref unK, .int 0])), (k0, .inr (10, [.ref kN, .ref kA, .ref kO, .ref kK, .ref kV, .ref kG, .ref kP, .ref kC, .ref kD, .ref kE, .ref kF, .ref kX, .ref kY, .int 0, .ref kT, .ref kU, .int 0, .int 0, .int 0])), (kN, .inl (cI, 2, .inl (fun _ => 0))), (kA, .inl (cI, 2, .inl (fun _ => 0))), (kC, .inl (cI, 20, .inl (fun _ => 0))), (kD, .inl (cI, 20, .inl (fun _ => 0))), (kE, .inl (cI, 20, .inl (fun _ => 0))), (kF, .inl (cI, 20, .inl (fun _ => 0))), (oJ, .inl (cJ, 1, .inr (.inl (fun _ => 0))))]) (hS : va_S A s.heap H locs) (hl : lv_has ls 9 [(5, .int 0), (4, .ref oD), (3, .ref oJ), (2, .ref k0), (1, .ref h0), (0, .ref b)]) : W p l e room_1 s m #[Value.ref b] below meth c H locs 148 2317 (lw_Z below #[Value.ref b] s) (F0 m 2398 ls []) := by
  have hbA : ¬ A b := fun h => Nat.not_le.mpr hbl (hAe _ h)
  have hX0 := hX
  refine lv_aload_n hx hb dL_law_2398 rfl (lv_at hl 4 rfl) ?_
  refine lv_aload_n hx hb dL_law_2399 rfl (lv_at hl 5 rfl) ?_
  refine lv_iload hx hb dL_law_2400 (lv_at hl 0 rfl) ?_
  refine lv_iconst (v := 1) hx hb dL_law_2402 (by decide) ?_
  refine lv_iadd hx hb dL_law_2403 ?_
  refine lv_topi (fun y1 ey1 => ?_)
  obtain rfl : y1 = 1 := ey1.trans (by decide)
  refine va_sld hx hb hX9 hbl hbA hS (show ¬ (_ ∨ _) by decide) dL_law_2404 ?_
  refine W.eq (g2 := F0 m 2405 ls [.int (xs 1), .ref h0]) rfl ?_
  refine lv_aload_n hx hb dL_law_2405 rfl (lv_at hl 2 rfl) ?_
  have hPc := hP.sub (ws' := [(h0, .inr (9, [.ref w, .ref d, .ref co, .ref un, .ref ma, .ref tm, .int 0, .int 0, .int 0])), (co, .inr (4, [.ref w, .ref d, .ref on, .ref op, .int 0])), (w, .inr (3, [.int 0, .int 0, .ref wL, .ref wP, .ref wS])), (d, .inr (3, [.int 0, .int 0, .ref dL, .ref dP, .ref dS])), (on, .inr (7, [.ref onR, .ref onL, .ref onC, .ref onD, .int 0])), (onL, .inl (cI, 20, .inl (fun _ => 0))), (onC, .inl (cI, 20, .inl (fun _ => 0))), (op, .inr (7, [.ref opR, .ref opL, .ref opC, .ref opD, .int 0])), (opL, .inl (cI, 20, .inl (fun _ => 0))), (opC, .inl (cI, 20, .inl (fun _ => 0))), (un, .inr (5, [.ref unK, .int 0])), (oJ, .inl (cJ, 1, .inr (.inl (fun _ => 0))))]) [0, 1, 2, 3, 4, 5, 6, 7, 8, 9, 10, 18] rfl
  have hDc := hD.sub (ws' := [(h0, .inr (9, [.ref w, .ref d, .ref co, .ref un, .ref ma, .ref tm, .int 0, .int 0, .int 0])), (co, .inr (4, [.ref w, .ref d, .ref on, .ref op, .int 0])), (w, .inr (3, [.int 0, .int 0, .ref wL, .ref wP, .ref wS])), (d, .inr (3, [.int 0, .int 0, .ref dL, .ref dP, .ref dS])), (on, .inr (7, [.ref onR, .ref onL, .ref onC, .ref onD, .int 0])), (onL, .inl (cI, 20, .inl (fun _ => 0))), (onC, .inl (cI, 20, .inl (fun _ => 0))), (op, .inr (7, [.ref opR, .ref opL, .ref opC, .ref opD, .int 0])), (opL, .inl (cI, 20, .inl (fun _ => 0))), (opC, .inl (cI, 20, .inl (fun _ => 0))), (un, .inr (5, [.ref unK, .int 0])), (oJ, .inl (cJ, 1, .inr (.inl (fun _ => 0))))]) [0, 1, 2, 3, 4, 5, 6, 7, 8, 9, 10, 18] (by decide) rfl
  have hKc := hK.sub (tys' := [(cI, .int), (cJ, .long)]) [0, 1] rfl
  have hFc := va_free (wc := [(h0, .inr (9, [.ref w, .ref d, .ref co, .ref un, .ref ma, .ref tm, .int 0, .int 0, .int 0])), (co, .inr (4, [.ref w, .ref d, .ref on, .ref op, .int 0])), (w, .inr (3, [.int 0, .int 0, .ref wL, .ref wP, .ref wS])), (d, .inr (3, [.int 0, .int 0, .ref dL, .ref dP, .ref dS])), (on, .inr (7, [.ref onR, .ref onL, .ref onC, .ref onD, .int 0])), (onL, .inl (cI, 20, .inl (fun _ => 0))), (onC, .inl (cI, 20, .inl (fun _ => 0))), (op, .inr (7, [.ref opR, .ref opL, .ref opC, .ref opD, .int 0])), (opL, .inl (cI, 20, .inl (fun _ => 0))), (opC, .inl (cI, 20, .inl (fun _ => 0))), (un, .inr (5, [.ref unK, .int 0])), (oJ, .inl (cJ, 1, .inr (.inl (fun _ => 0))))]) hD hS hA [0, 1, 2, 3, 4, 5, 6, 7, 8, 9, 10, 18] rfl
  refine vx_calli (vx_runSX (As := [.ref h0, .int (xs 1), .ref oJ]) (rest := []) ⟨hx, hb, hml, hown, hts⟩ (kL_differenceDistance l hfl dC dI h0 ma tm un unK co w wL wP wS d dL dP dS on onR onL onC onD op opR opL opC opD cI (fun _ => 0) (fun _ => 0) oJ cJ (xs 1) H.size) (vx_cwSW 3 hts gL_law_L_differenceDistance rfl rfl rfl (by decide +kernel) ⟨Nat.le_of_ble_eq_true rfl, Nat.le_of_ble_eq_true rfl⟩) (gPreS hX hN hZ hS (fun q h => hFc q h) hPc hKc hDc) rfl rfl hl.1 rfl (lv_room (Nat.le_of_ble_eq_true rfl)) dL_law_2406 ⟨Nat.le_of_ble_eq_true rfl, Nat.le_of_ble_eq_true rfl⟩) hS (fun q _ h => hFc q h) hFc (fun q _ h => hFc q h) (fun E ce q9 u t H locs ht hvm hpx hE hz1 hk1 hS hq9 hv9 hc9 => ?_) (fun r u t H1 locs ht hvm hw hB hz1 hk1 hS => ?_)
  · skip
    exact hE.elim
  · skip
    obtain ⟨hP1, hK1, hD1⟩ := hB
    rw [ht] at hP1
    have hK1 := va_K.moved hvm.symm hK1
    obtain ⟨u2, rfl⟩ : ∃ z, z = u := ⟨_, rfl⟩
    obtain ⟨hP, hD⟩ := va_join (wr := [(k0, .inr (10, [.ref kN, .ref kA, .ref kO, .ref kK, .ref kV, .ref kG, .ref kP, .ref kC, .ref kD, .ref kE, .ref kF, .ref kX, .ref kY, .int 0, .ref kT, .ref kU, .int 0, .int 0, .int 0])), (kN, .inl (cI, 2, .inl (fun _ => 0))), (kA, .inl (cI, 2, .inl (fun _ => 0))), (kC, .inl (cI, 20, .inl (fun _ => 0))), (kD, .inl (cI, 20, .inl (fun _ => 0))), (kE, .inl (cI, 20, .inl (fun _ => 0))), (kF, .inl (cI, 20, .inl (fun _ => 0)))]) (w1 := [(oJ, .inl (cJ, 1, .inr (.inl u2)))]) hP hD [0, 1, 2, 3, 4, 5, 6, 7, 8, 9, 10, 18] [11, 12, 13, 14, 15, 16, 17] rfl rfl (by decide) (by decide) hk1 hFc hP1 hD1
    generalize H1 = H at hP hS ⊢
    have hP : va_P (dC, dI) vwCl [(k0, .inr (10, [.ref kN, .ref kA, .ref kO, .ref kK, .ref kV, .ref kG, .ref kP, .ref kC, .ref kD, .ref kE, .ref kF, .ref kX, .ref kY, .int 0, .ref kT, .ref kU, .int 0, .int 0, .int 0])), (kN, .inl (cI, 2, .inl (fun _ => 0))), (kA, .inl (cI, 2, .inl (fun _ => 0))), (kC, .inl (cI, 20, .inl (fun _ => 0))), (kD, .inl (cI, 20, .inl (fun _ => 0))), (kE, .inl (cI, 20, .inl (fun _ => 0))), (kF, .inl (cI, 20, .inl (fun _ => 0))), (oJ, .inl (cJ, 1, .inr (.inl u2)))] _ := hP
    have hD : va_D A [(k0, .inr (10, [.ref kN, .ref kA, .ref kO, .ref kK, .ref kV, .ref kG, .ref kP, .ref kC, .ref kD, .ref kE, .ref kF, .ref kX, .ref kY, .int 0, .ref kT, .ref kU, .int 0, .int 0, .int 0])), (kN, .inl (cI, 2, .inl (fun _ => 0))), (kA, .inl (cI, 2, .inl (fun _ => 0))), (kC, .inl (cI, 20, .inl (fun _ => 0))), (kD, .inl (cI, 20, .inl (fun _ => 0))), (kE, .inl (cI, 20, .inl (fun _ => 0))), (kF, .inl (cI, 20, .inl (fun _ => 0))), (oJ, .inl (cJ, 1, .inr (.inl u2)))] := hD
    refine W.widen (k := 149) (n := 2323) (Nat.le_of_ble_eq_true rfl) (Nat.le_of_ble_eq_true rfl) ?_
    subst hw
    refine lv_istore (lv' := [(6, .int 1), (5, .int 0), (4, .ref oD), (3, .ref oJ), (2, .ref k0), (1, .ref h0), (0, .ref b)]) hx hb dL_law_2409 hl (Nat.le_of_ble_eq_true rfl) rfl (fun ls hl => ?_)
    refine lv_aload_n hx hb dL_law_2411 rfl (lv_at hl 4 rfl) ?_
    refine lv_aload_n hx hb dL_law_2412 rfl (lv_at hl 6 rfl) ?_
    refine lv_iload hx hb dL_law_2413 (lv_at hl 1 rfl) ?_
    refine lv_iconst (v := 1) hx hb dL_law_2415 (by decide) ?_
    refine lv_iadd hx hb dL_law_2416 ?_
    refine lv_topi (fun y3 ey3 => ?_)
    obtain rfl : y3 = 1 := ey3.trans (by decide)
    refine va_sld hx hb hX9 hbl hbA hS (show ¬ (_ ∨ _) by decide) dL_law_2417 ?_
    refine W.eq (g2 := F0 m 2418 ls [.int (xs 1), .ref k0]) rfl ?_
    have hPc := hP.sub (ws' := [(k0, .inr (10, [.ref kN, .ref kA, .ref kO, .ref kK, .ref kV, .ref kG, .ref kP, .ref kC, .ref kD, .ref kE, .ref kF, .ref kX, .ref kY, .int 0, .ref kT, .ref kU, .int 0, .int 0, .int 0])), (kN, .inl (cI, 2, .inl (fun _ => 0))), (kA, .inl (cI, 2, .inl (fun _ => 0))), (kC, .inl (cI, 20, .inl (fun _ => 0))), (kD, .inl (cI, 20, .inl (fun _ => 0))), (kE, .inl (cI, 20, .inl (fun _ => 0))), (kF, .inl (cI, 20, .inl (fun _ => 0)))]) [0, 1, 2, 3, 4, 5, 6] rfl
    have hDc := hD.sub (ws' := [(k0, .inr (10, [.ref kN, .ref kA, .ref kO, .ref kK, .ref kV, .ref kG, .ref kP, .ref kC, .ref kD, .ref kE, .ref kF, .ref kX, .ref kY, .int 0, .ref kT, .ref kU, .int 0, .int 0, .int 0])), (kN, .inl (cI, 2, .inl (fun _ => 0))), (kA, .inl (cI, 2, .inl (fun _ => 0))), (kC, .inl (cI, 20, .inl (fun _ => 0))), (kD, .inl (cI, 20, .inl (fun _ => 0))), (kE, .inl (cI, 20, .inl (fun _ => 0))), (kF, .inl (cI, 20, .inl (fun _ => 0)))]) [0, 1, 2, 3, 4, 5, 6] (by decide) rfl
    have hKc := hK.sub (tys' := [(cI, .int)]) [0] rfl
    have hFc := va_free (wc := [(k0, .inr (10, [.ref kN, .ref kA, .ref kO, .ref kK, .ref kV, .ref kG, .ref kP, .ref kC, .ref kD, .ref kE, .ref kF, .ref kX, .ref kY, .int 0, .ref kT, .ref kU, .int 0, .int 0, .int 0])), (kN, .inl (cI, 2, .inl (fun _ => 0))), (kA, .inl (cI, 2, .inl (fun _ => 0))), (kC, .inl (cI, 20, .inl (fun _ => 0))), (kD, .inl (cI, 20, .inl (fun _ => 0))), (kE, .inl (cI, 20, .inl (fun _ => 0))), (kF, .inl (cI, 20, .inl (fun _ => 0)))]) hD hS hA [0, 1, 2, 3, 4, 5, 6] rfl
    refine va_calli (va_runV (As := [.int (xs 1)]) (rest := []) ⟨hx, hb, hml, hown, hts⟩ (kX7_differenceDistance l dC dI k0 kN kA kO kK kV kG kP kC kD kE kF kX kY kT kU cI (fun _ => 0) (fun _ => 0) (fun _ => 0) (fun _ => 0) (xs 1) H.size) (cwV 1 hts gL_law_X7_differenceDistance rfl rfl rfl (by decide +kernel) ⟨Nat.le_of_ble_eq_true rfl, Nat.le_of_ble_eq_true rfl⟩) (fPreV hN hZ hS (fun q h => hFc q h) hPc hKc hDc (ci := 10) (q0 := 0) rfl rfl) rfl rfl hl.1 rfl (lv_room (Nat.le_of_ble_eq_true rfl)) dL_law_2418 ⟨Nat.le_of_ble_eq_true rfl, Nat.le_of_ble_eq_true rfl⟩) hS (fun q _ h => hFc q h) hFc (fun r u t H1 locs ht hvm hw hB hz1 hk1 hS => ?_)
    obtain ⟨hP1, hK1, hD1⟩ := hB
    rw [ht] at hP1
    have hK1 := va_K.moved hvm.symm hK1
    obtain ⟨u4, rfl⟩ : ∃ z, z = u := ⟨_, rfl⟩
    obtain ⟨hP, hD⟩ := va_join (wr := [(oJ, .inl (cJ, 1, .inr (.inl u2)))]) (w1 := [(k0, .inr (10, [.ref kN, .ref kA, .ref kO, .ref kK, .ref kV, .ref kG, .ref kP, .ref kC, .ref kD, .ref kE, .ref kF, .ref kX, .ref kY, .int 0, .ref kT, .ref kU, .int u4, .int 0, .int 0]))]) hP hD [0, 1, 2, 3, 4, 5, 6] [7] rfl rfl (by decide) (by decide) hk1 hFc hP1 hD1
    generalize H1 = H at hP hS ⊢
    have hP : va_P (dC, dI) vwCl [(oJ, .inl (cJ, 1, .inr (.inl u2))), (k0, .inr (10, [.ref kN, .ref kA, .ref kO, .ref kK, .ref kV, .ref kG, .ref kP, .ref kC, .ref kD, .ref kE, .ref kF, .ref kX, .ref kY, .int 0, .ref kT, .ref kU, .int u4, .int 0, .int 0]))] _ := hP
    have hD : va_D A [(oJ, .inl (cJ, 1, .inr (.inl u2))), (k0, .inr (10, [.ref kN, .ref kA, .ref kO, .ref kK, .ref kV, .ref kG, .ref kP, .ref kC, .ref kD, .ref kE, .ref kF, .ref kX, .ref kY, .int 0, .ref kT, .ref kU, .int u4, .int 0, .int 0]))] := hD
    refine W.widen (k := 151) (n := 2363) (Nat.le_of_ble_eq_true rfl) (Nat.le_of_ble_eq_true rfl) ?_
    obtain ⟨r5, rfl⟩ : ∃ z, z = r := ⟨_, rfl⟩
    subst hw
    have hP : va_P (dC, dI) vwCl [(oJ, .inl (cJ, 1, .inr (.inl u2))), (k0, .inr (10, [.ref kN, .ref kA, .ref kO, .ref kK, .ref kV, .ref kG, .ref kP, .ref kC, .ref kD, .ref kE, .ref kF, .ref kX, .ref kY, .int 0, .ref kT, .ref kU, .int 1, .int 0, .int 0]))] _ := hP
    have hD : va_D A [(oJ, .inl (cJ, 1, .inr (.inl u2))), (k0, .inr (10, [.ref kN, .ref kA, .ref kO, .ref kK, .ref kV, .ref kG, .ref kP, .ref kC, .ref kD, .ref kE, .ref kF, .ref kX, .ref kY, .int 0, .ref kT, .ref kU, .int 1, .int 0, .int 0]))] := hD
    refine lv_istore (lv' := [(7, .int r5), (6, .int 1), (5, .int 0), (4, .ref oD), (3, .ref oJ), (2, .ref k0), (1, .ref h0), (0, .ref b)]) hx hb dL_law_2421 hl (Nat.le_of_ble_eq_true rfl) rfl (fun ls hl => ?_)
    refine lv_aload_n hx hb dL_law_2423 rfl (lv_at hl 5 rfl) ?_
    have hPc := hP.sub (ws' := [(k0, .inr (10, [.ref kN, .ref kA, .ref kO, .ref kK, .ref kV, .ref kG, .ref kP, .ref kC, .ref kD, .ref kE, .ref kF, .ref kX, .ref kY, .int 0, .ref kT, .ref kU, .int 1, .int 0, .int 0]))]) [1] rfl
    have hDc := hD.sub (ws' := [(k0, .inr (10, [.ref kN, .ref kA, .ref kO, .ref kK, .ref kV, .ref kG, .ref kP, .ref kC, .ref kD, .ref kE, .ref kF, .ref kX, .ref kY, .int 0, .ref kT, .ref kU, .int 1, .int 0, .int 0]))]) [1] (by decide) rfl
    have hKc := hK.sub (tys' := []) [] rfl
    have hFc := va_free (wc := [(k0, .inr (10, [.ref kN, .ref kA, .ref kO, .ref kK, .ref kV, .ref kG, .ref kP, .ref kC, .ref kD, .ref kE, .ref kF, .ref kX, .ref kY, .int 0, .ref kT, .ref kU, .int 1, .int 0, .int 0]))]) hD hS hA [1] rfl
    refine va_calli (va_runV (As := []) (rest := []) ⟨hx, hb, hml, hown, hts⟩ (kX7_thrown l dC dI k0 kN kA kO kK kV kG kP kC kD kE kF kX kY kT kU 1 H.size) (cwV 0 hts gL_law_X7_thrown rfl rfl rfl (by decide +kernel) ⟨Nat.le_of_ble_eq_true rfl, Nat.le_of_ble_eq_true rfl⟩) (fPreV hN hZ hS (fun q h => hFc q h) hPc hKc hDc (ci := 10) (q0 := 0) rfl rfl) rfl rfl hl.1 rfl (lv_room (Nat.le_of_ble_eq_true rfl)) dL_law_2424 ⟨Nat.le_of_ble_eq_true rfl, Nat.le_of_ble_eq_true rfl⟩) hS (fun q _ h => hFc q h) hFc (fun r u t H1 locs ht hvm hw hB hz1 hk1 hS => ?_)
    obtain ⟨hP1, hK1, hD1⟩ := hB
    rw [ht] at hP1
    have hK1 := va_K.moved hvm.symm hK1
    obtain ⟨hP, hD⟩ := va_join (wr := [(oJ, .inl (cJ, 1, .inr (.inl u2)))]) (w1 := []) hP hD [1] [0] rfl rfl (by decide) (by decide) hk1 hFc hP1 hD1
    generalize H1 = H at hP hS ⊢
    have hP : va_P (dC, dI) vwCl [(oJ, .inl (cJ, 1, .inr (.inl u2)))] _ := hP
    have hD : va_D A [(oJ, .inl (cJ, 1, .inr (.inl u2)))] := hD
    subst hw
    refine lv_iload hx hb dL_law_2427 (lv_at hl 1 rfl) ?_
    refine lv_icmp_eq (tgt := 2434) hx hb dL_law_2429 (by decide) (fun _ => ?_) (fun h9 => absurd (by decide) h9)
    refine lv_iload hx hb dL_law_2434 (lv_at hl 1 rfl) ?_
    refine lv_if_ne (tgt := 2451) hx hb dL_law_2436 (by decide) (fun _ => ?_) (fun h9 => absurd h9 (by decide))
    refine lv_goto (tgt := 2720) hx hb dL_law_2451 (by decide) ?_
    refine lv_iinc (v := 7) (lv' := [(5, .int 7), (7, .int r5), (6, .int 1), (4, .ref oD), (3, .ref oJ), (2, .ref k0), (1, .ref h0), (0, .ref b)]) hx hb dL_law_2720 hl (k := 2) rfl (by decide) (Nat.le_of_ble_eq_true rfl) rfl (fun ls hl => ?_)
    refine lv_goto (tgt := 28) hx hb dL_law_2723 (by decide) ?_
    refine lv_iload hx hb dL_law_28 (lv_at hl 0 rfl) ?_
    refine lv_aload_n hx hb dL_law_30 rfl (lv_at hl 7 rfl) ?_
    refine va_slen hx hb hX9 hbl hbA hS dL_law_31 ?_
    refine W.eq (g2 := F0 m 32 ls [.int 7, .int 7]) rfl ?_
    refine lv_bipush (v := 7) hx hb dL_law_32 (by decide) ?_
    refine lv_isub hx hb dL_law_34 ?_
    refine lv_topi (fun y6 ey6 => ?_)
    obtain rfl : y6 = 0 := ey6.trans (by decide)
    refine lv_icmp_gt (tgt := 2726) hx hb dL_law_35 (by decide) (fun _ => ?_) (fun h9 => absurd (by decide) h9)
    refine lv_iconst (v := 1) hx hb dL_law_2726 (by decide) ?_
    refine va_forget (fun q hq => hAe _ (hS.2.2 q hq)) ?_
    refine W.widen (k := 603072) (n := 7198826) (Nat.le_of_ble_eq_true rfl) (Nat.le_of_ble_eq_true rfl) ?_
    exact W.base (lw_ret (d0 := s.drawn) (Drawn.sameBut.refl _ _) hx hb hr hlk dL_law_2727)

set_option maxHeartbeats 4000000 in
set_option maxRecDepth 100000 in
/-- case 37 of the law: differenceSize, on fresh objects -/
theorem lc_37 {p : Program} {e : Env} {s : State} {m : MethodId} {below : List Frame} {meth : Method} {c : Code} (l : Launch) (hfl : l.stackTraces = false) {b : Nat} {xs : Nat → Int32} (hx : p.tables.exec = Jvm.exec) (hb : c.code = cL_law) (hr : meth.sig.returnType = ret) (hml : c.maxLocals = 9) (hown : s.vm.findClass RL = some m.cls) (hts : ∀ w ∈ wsL_law, w.before #[Value.ref b] s = true) (hlk : meth.locks = false) (A : Nat → Prop) (hAe : ∀ q, A q → s.heap.size ≤ q) (hA : ∀ q : Nat, s.heap.size ≤ q → A q) (hX9 : va_X b 7 xs s s.heap) (hbl : b < s.heap.size) (hN : fN s) (hZ : fZ A s s.heap) (hX : fX s) (dC : Nat → ClassId) (dI : Nat → Nat → Nat) (h0 w d wL wP wS dL dP dS co on onR onL onC onD op opR opL opC opD un unK ma tm k0 kN kA kO kK kV kG kP kC kD kE kF kX kY kT kU oJ oD : Nat) (cI cJ : ClassId) {H : Heap} {locs : List Loc} {ls : Array Slot} (hK : va_K (dC, dI) vwCl [(cI, .int), (cJ, .long)] s) (hP : va_P (dC, dI) vwCl [(h0, .inr (9, [.ref w, .ref d, .ref co, .ref un, .ref ma, .ref tm, .int 0, .int 0, .int 0])), (co, .inr (4, [.ref w, .ref d, .ref on, .ref op, .int 0])), (w, .inr (3, [.int 0, .int 0, .ref wL, .ref wP, .ref wS])), (d, .inr (3, [.int 0, .int 0, .ref dL, .ref dP, .ref dS])), (on, .inr (7, [.ref onR, .ref onL, .ref onC, .ref onD, .int 0])), (onL, .inl (cI, 20, .inl (fun _ => 0))), (onC, .inl (cI, 20, .inl (fun _ => 0))), (op, .inr (7, [.ref opR, .ref opL, .ref opC, .ref opD, .int 0])), (opL, .inl (cI, 20, .inl (fun _ => 0))), (opC, .inl (cI, 20, .inl (fun _ => 0))), (un, .inr (5, [.ref unK, .int 0])), (k0, .inr (10, [.ref kN, .ref kA, .ref kO, .ref kK, .ref kV, .ref kG, .ref kP, .ref kC, .ref kD, .ref kE, .ref kF, .ref kX, .ref kY, .int 0, .ref kT, .ref kU, .int 0, .int 0, .int 0])), (kN, .inl (cI, 2, .inl (fun _ => 0))), (kA, .inl (cI, 2, .inl (fun _ => 0))), (kC, .inl (cI, 20, .inl (fun _ => 0))), (kD, .inl (cI, 20, .inl (fun _ => 0))), (kE, .inl (cI, 20, .inl (fun _ => 0))), (kF, .inl (cI, 20, .inl (fun _ => 0))), (oJ, .inl (cJ, 1, .inr (.inl (fun _ => 0))))] H) (hD : va_D A [(h0, .inr (9, [.ref w, .ref d, .ref co, .ref un, .ref ma, .ref tm, .int 0, .int 0, .int 0])), (co, .inr (4, [.ref w, .ref d, .ref on, .ref op, .int 0])), (w, .inr (3, [.int 0, .int 0, .ref wL, .ref wP, .ref wS])), (d, .inr (3, [.int 0, .int 0, .ref dL, .ref dP, .ref dS])), (on, .inr (7, [.ref onR, .ref onL, .ref onC, .ref onD, .int 0])), (onL, .inl (cI, 20, .inl (fun _ => 0))), (onC, .inl (cI, 20, .inl (fun _ => 0))), (op, .inr (7, [.ref opR, .ref opL, .ref opC, .ref opD, .int 0])), (opL, .inl (cI, 20, .inl (fun _ => 0))), (opC, .inl (cI, 20, .inl (fun _ => 0))), (un, .inr (5, [.ref unK, .int 0])), (k0, .inr (10, [.ref kN, .ref kA, .ref kO, .ref kK, .ref kV, .ref kG, .ref kP, .ref kC, .ref kD, .ref kE, .ref kF, .ref kX, .ref kY, .int 0, .ref kT, .ref kU, .int 0, .int 0, .int 0])), (kN, .inl (cI, 2, .inl (fun _ => 0))), (kA, .inl (cI, 2, .inl (fun _ => 0))), (kC, .inl (cI, 20, .inl (fun _ => 0))), (kD, .inl (cI, 20, .inl (fun _ => 0))), (kE, .inl (cI, 20, .inl (fun _ => 0))), (kF, .inl (cI, 20, .inl (fun _ => 0))), (oJ, .inl (cJ, 1, .inr (.inl (fun _ => 0))))]) (hS : va_S A s.heap H locs) (hl : lv_has ls 9 [(5, .int 0), (4, .ref oD), (3, .ref oJ), (2, .ref k0), (1, .ref h0), (0, .ref b)]) : W p l e room_1 s m #[Value.ref b] below meth c H locs 148 2317 (lw_Z below #[Value.ref b] s) (F0 m 2454 ls []) := by
  have hbA : ¬ A b := fun h => Nat.not_le.mpr hbl (hAe _ h)
  have hX0 := hX
  refine lv_aload_n hx hb dL_law_2454 rfl (lv_at hl 4 rfl) ?_
  refine lv_aload_n hx hb dL_law_2455 rfl (lv_at hl 5 rfl) ?_
  refine lv_iload hx hb dL_law_2456 (lv_at hl 0 rfl) ?_
  refine lv_iconst (v := 1) hx hb dL_law_2458 (by decide) ?_
  refine lv_iadd hx hb dL_law_2459 ?_
  refine lv_topi (fun y1 ey1 => ?_)
  obtain rfl : y1 = 1 := ey1.trans (by decide)
  refine va_sld hx hb hX9 hbl hbA hS (show ¬ (_ ∨ _) by decide) dL_law_2460 ?_
  refine W.eq (g2 := F0 m 2461 ls [.int (xs 1), .ref h0]) rfl ?_
  refine lv_aload_n hx hb dL_law_2461 rfl (lv_at hl 5 rfl) ?_
  refine lv_iload hx hb dL_law_2462 (lv_at hl 0 rfl) ?_
  refine lv_iconst (v := 2) hx hb dL_law_2464 (by decide) ?_
  refine lv_iadd hx hb dL_law_2465 ?_
  refine lv_topi (fun y2 ey2 => ?_)
  obtain rfl : y2 = 2 := ey2.trans (by decide)
  refine va_sld hx hb hX9 hbl hbA hS (show ¬ (_ ∨ _) by decide) dL_law_2466 ?_
  refine W.eq (g2 := F0 m 2467 ls [.int (xs 2), .int (xs 1), .ref h0]) rfl ?_
  refine lv_aload_n hx hb dL_law_2467 rfl (lv_at hl 2 rfl) ?_
  have hPc := hP.sub (ws' := [(h0, .inr (9, [.ref w, .ref d, .ref co, .ref un, .ref ma, .ref tm, .int 0, .int 0, .int 0])), (co, .inr (4, [.ref w, .ref d, .ref on, .ref op, .int 0])), (w, .inr (3, [.int 0, .int 0, .ref wL, .ref wP, .ref wS])), (d, .inr (3, [.int 0, .int 0, .ref dL, .ref dP, .ref dS])), (on, .inr (7, [.ref onR, .ref onL, .ref onC, .ref onD, .int 0])), (onL, .inl (cI, 20, .inl (fun _ => 0))), (onC, .inl (cI, 20, .inl (fun _ => 0))), (op, .inr (7, [.ref opR, .ref opL, .ref opC, .ref opD, .int 0])), (opL, .inl (cI, 20, .inl (fun _ => 0))), (opC, .inl (cI, 20, .inl (fun _ => 0))), (un, .inr (5, [.ref unK, .int 0])), (oJ, .inl (cJ, 1, .inr (.inl (fun _ => 0))))]) [0, 1, 2, 3, 4, 5, 6, 7, 8, 9, 10, 18] rfl
  have hDc := hD.sub (ws' := [(h0, .inr (9, [.ref w, .ref d, .ref co, .ref un, .ref ma, .ref tm, .int 0, .int 0, .int 0])), (co, .inr (4, [.ref w, .ref d, .ref on, .ref op, .int 0])), (w, .inr (3, [.int 0, .int 0, .ref wL, .ref wP, .ref wS])), (d, .inr (3, [.int 0, .int 0, .ref dL, .ref dP, .ref dS])), (on, .inr (7, [.ref onR, .ref onL, .ref onC, .ref onD, .int 0])), (onL, .inl (cI, 20, .inl (fun _ => 0))), (onC, .inl (cI, 20, .inl (fun _ => 0))), (op, .inr (7, [.ref opR, .ref opL, .ref opC, .ref opD, .int 0])), (opL, .inl (cI, 20, .inl (fun _ => 0))), (opC, .inl (cI, 20, .inl (fun _ => 0))), (un, .inr (5, [.ref unK, .int 0])), (oJ, .inl (cJ, 1, .inr (.inl (fun _ => 0))))]) [0, 1, 2, 3, 4, 5, 6, 7, 8, 9, 10, 18] (by decide) rfl
  have hKc := hK.sub (tys' := [(cI, .int), (cJ, .long)]) [0, 1] rfl
  have hFc := va_free (wc := [(h0, .inr (9, [.ref w, .ref d, .ref co, .ref un, .ref ma, .ref tm, .int 0, .int 0, .int 0])), (co, .inr (4, [.ref w, .ref d, .ref on, .ref op, .int 0])), (w, .inr (3, [.int 0, .int 0, .ref wL, .ref wP, .ref wS])), (d, .inr (3, [.int 0, .int 0, .ref dL, .ref dP, .ref dS])), (on, .inr (7, [.ref onR, .ref onL, .ref onC, .ref onD, .int 0])), (onL, .inl (cI, 20, .inl (fun _ => 0))), (onC, .inl (cI, 20, .inl (fun _ => 0))), (op, .inr (7, [.ref opR, .ref opL, .ref opC, .ref opD, .int 0])), (opL, .inl (cI, 20, .inl (fun _ => 0))), (opC, .inl (cI, 20, .inl (fun _ => 0))), (un, .inr (5, [.ref unK, .int 0])), (oJ, .inl (cJ, 1, .inr (.inl (fun _ => 0))))]) hD hS hA [0, 1, 2, 3, 4, 5, 6, 7, 8, 9, 10, 18] rfl
  refine vx_calli (vx_runSX (As := [.ref h0, .int (xs 1), .int (xs 2), .ref oJ]) (rest := []) ⟨hx, hb, hml, hown, hts⟩ (kL_differenceSize l hfl dC dI h0 ma tm un unK co w wL wP wS d dL dP dS on onR onL onC onD op opR opL opC opD cI (fun _ => 0) (fun _ => 0) oJ cJ (xs 1) (xs 2) H.size) (vx_cwSW 4 hts gL_law_L_differenceSize rfl rfl rfl (by decide +kernel) ⟨Nat.le_of_ble_eq_true rfl, Nat.le_of_ble_eq_true rfl⟩) (gPreS hX hN hZ hS (fun q h => hFc q h) hPc hKc hDc) rfl rfl hl.1 rfl (lv_room (Nat.le_of_ble_eq_true rfl)) dL_law_2468 ⟨Nat.le_of_ble_eq_true rfl, Nat.le_of_ble_eq_true rfl⟩) hS (fun q _ h => hFc q h) hFc (fun q _ h => hFc q h) (fun E ce q9 u t H locs ht hvm hpx hE hz1 hk1 hS hq9 hv9 hc9 => ?_) (fun r u t H1 locs ht hvm hw hB hz1 hk1 hS => ?_)
  · skip
    exact hE.elim
  · skip
    obtain ⟨hP1, hK1, hD1⟩ := hB
    rw [ht] at hP1
    have hK1 := va_K.moved hvm.symm hK1
    obtain ⟨u3, rfl⟩ : ∃ z, z = u := ⟨_, rfl⟩
    obtain ⟨hP, hD⟩ := va_join (wr := [(k0, .inr (10, [.ref kN, .ref kA, .ref kO, .ref kK, .ref kV, .ref kG, .ref kP, .ref kC, .ref kD, .ref kE, .ref kF, .ref kX, .ref kY, .int 0, .ref kT, .ref kU, .int 0, .int 0, .int 0])), (kN, .inl (cI, 2, .inl (fun _ => 0))), (kA, .inl (cI, 2, .inl (fun _ => 0))), (kC, .inl (cI, 20, .inl (fun _ => 0))), (kD, .inl (cI, 20, .inl (fun _ => 0))), (kE, .inl (cI, 20, .inl (fun _ => 0))), (kF, .inl (cI, 20, .inl (fun _ => 0)))]) (w1 := [(oJ, .inl (cJ, 1, .inr (.inl u3)))]) hP hD [0, 1, 2, 3, 4, 5, 6, 7, 8, 9, 10, 18] [11, 12, 13, 14, 15, 16, 17] rfl rfl (by decide) (by decide) hk1 hFc hP1 hD1
    generalize H1 = H at hP hS ⊢
    have hP : va_P (dC, dI) vwCl [(k0, .inr (10, [.ref kN, .ref kA, .ref kO, .ref kK, .ref kV, .ref kG, .ref kP, .ref kC, .ref kD, .ref kE, .ref kF, .ref kX, .ref kY, .int 0, .ref kT, .ref kU, .int 0, .int 0, .int 0])), (kN, .inl (cI, 2, .inl (fun _ => 0))), (kA, .inl (cI, 2, .inl (fun _ => 0))), (kC, .inl (cI, 20, .inl (fun _ => 0))), (kD, .inl (cI, 20, .inl (fun _ => 0))), (kE, .inl (cI, 20, .inl (fun _ => 0))), (kF, .inl (cI, 20, .inl (fun _ => 0))), (oJ, .inl (cJ, 1, .inr (.inl u3)))] _ := hP
    have hD : va_D A [(k0, .inr (10, [.ref kN, .ref kA, .ref kO, .ref kK, .ref kV, .ref kG, .ref kP, .ref kC, .ref kD, .ref kE, .ref kF, .ref kX, .ref kY, .int 0, .ref kT, .ref kU, .int 0, .int 0, .int 0])), (kN, .inl (cI, 2, .inl (fun _ => 0))), (kA, .inl (cI, 2, .inl (fun _ => 0))), (kC, .inl (cI, 20, .inl (fun _ => 0))), (kD, .inl (cI, 20, .inl (fun _ => 0))), (kE, .inl (cI, 20, .inl (fun _ => 0))), (kF, .inl (cI, 20, .inl (fun _ => 0))), (oJ, .inl (cJ, 1, .inr (.inl u3)))] := hD
    refine W.widen (k := 149) (n := 2323) (Nat.le_of_ble_eq_true rfl) (Nat.le_of_ble_eq_true rfl) ?_
    subst hw
    refine lv_istore (lv' := [(6, .int 1), (5, .int 0), (4, .ref oD), (3, .ref oJ), (2, .ref k0), (1, .ref h0), (0, .ref b)]) hx hb dL_law_2471 hl (Nat.le_of_ble_eq_true rfl) rfl (fun ls hl => ?_)
    refine lv_aload_n hx hb dL_law_2473 rfl (lv_at hl 4 rfl) ?_
    refine lv_aload_n hx hb dL_law_2474 rfl (lv_at hl 6 rfl) ?_
    refine lv_iload hx hb dL_law_2475 (lv_at hl 1 rfl) ?_
    refine lv_iconst (v := 1) hx hb dL_law_2477 (by decide) ?_
    refine lv_iadd hx hb dL_law_2478 ?_
    refine lv_topi (fun y4 ey4 => ?_)
    obtain rfl : y4 = 1 := ey4.trans (by decide)
    refine va_sld hx hb hX9 hbl hbA hS (show ¬ (_ ∨ _) by decide) dL_law_2479 ?_
    refine W.eq (g2 := F0 m 2480 ls [.int (xs 1), .ref k0]) rfl ?_
    refine lv_aload_n hx hb dL_law_2480 rfl (lv_at hl 6 rfl) ?_
    refine lv_iload hx hb dL_law_2481 (lv_at hl 1 rfl) ?_
    refine lv_iconst (v := 2) hx hb dL_law_2483 (by decide) ?_
    refine lv_iadd hx hb dL_law_2484 ?_
    refine lv_topi (fun y5 ey5 => ?_)
    obtain rfl : y5 = 2 := ey5.trans (by decide)
    refine va_sld hx hb hX9 hbl hbA hS (show ¬ (_ ∨ _) by decide) dL_law_2485 ?_
    refine W.eq (g2 := F0 m 2486 ls [.int (xs 2), .int (xs 1), .ref k0]) rfl ?_
    have hPc := hP.sub (ws' := [(k0, .inr (10, [.ref kN, .ref kA, .ref kO, .ref kK, .ref kV, .ref kG, .ref kP, .ref kC, .ref kD, .ref kE, .ref kF, .ref kX, .ref kY, .int 0, .ref kT, .ref kU, .int 0, .int 0, .int 0])), (kN, .inl (cI, 2, .inl (fun _ => 0))), (kA, .inl (cI, 2, .inl (fun _ => 0))), (kC, .inl (cI, 20, .inl (fun _ => 0))), (kD, .inl (cI, 20, .inl (fun _ => 0))), (kE, .inl (cI, 20, .inl (fun _ => 0))), (kF, .inl (cI, 20, .inl (fun _ => 0)))]) [0, 1, 2, 3, 4, 5, 6] rfl
    have hDc := hD.sub (ws' := [(k0, .inr (10, [.ref kN, .ref kA, .ref kO, .ref kK, .ref kV, .ref kG, .ref kP, .ref kC, .ref kD, .ref kE, .ref kF, .ref kX, .ref kY, .int 0, .ref kT, .ref kU, .int 0, .int 0, .int 0])), (kN, .inl (cI, 2, .inl (fun _ => 0))), (kA, .inl (cI, 2, .inl (fun _ => 0))), (kC, .inl (cI, 20, .inl (fun _ => 0))), (kD, .inl (cI, 20, .inl (fun _ => 0))), (kE, .inl (cI, 20, .inl (fun _ => 0))), (kF, .inl (cI, 20, .inl (fun _ => 0)))]) [0, 1, 2, 3, 4, 5, 6] (by decide) rfl
    have hKc := hK.sub (tys' := [(cI, .int)]) [0] rfl
    have hFc := va_free (wc := [(k0, .inr (10, [.ref kN, .ref kA, .ref kO, .ref kK, .ref kV, .ref kG, .ref kP, .ref kC, .ref kD, .ref kE, .ref kF, .ref kX, .ref kY, .int 0, .ref kT, .ref kU, .int 0, .int 0, .int 0])), (kN, .inl (cI, 2, .inl (fun _ => 0))), (kA, .inl (cI, 2, .inl (fun _ => 0))), (kC, .inl (cI, 20, .inl (fun _ => 0))), (kD, .inl (cI, 20, .inl (fun _ => 0))), (kE, .inl (cI, 20, .inl (fun _ => 0))), (kF, .inl (cI, 20, .inl (fun _ => 0)))]) hD hS hA [0, 1, 2, 3, 4, 5, 6] rfl
    refine va_calli (va_runV (As := [.int (xs 1), .int (xs 2)]) (rest := []) ⟨hx, hb, hml, hown, hts⟩ (kX7_differenceSize l dC dI k0 kN kA kO kK kV kG kP kC kD kE kF kX kY kT kU cI (fun _ => 0) (fun _ => 0) (fun _ => 0) (fun _ => 0) (xs 1) (xs 2) H.size) (cwV 2 hts gL_law_X7_differenceSize rfl rfl rfl (by decide +kernel) ⟨Nat.le_of_ble_eq_true rfl, Nat.le_of_ble_eq_true rfl⟩) (fPreV hN hZ hS (fun q h => hFc q h) hPc hKc hDc (ci := 10) (q0 := 0) rfl rfl) rfl rfl hl.1 rfl (lv_room (Nat.le_of_ble_eq_true rfl)) dL_law_2486 ⟨Nat.le_of_ble_eq_true rfl, Nat.le_of_ble_eq_true rfl⟩) hS (fun q _ h => hFc q h) hFc (fun r u t H1 locs ht hvm hw hB hz1 hk1 hS => ?_)
    obtain ⟨hP1, hK1, hD1⟩ := hB
    rw [ht] at hP1
    have hK1 := va_K.moved hvm.symm hK1
    obtain ⟨u6, rfl⟩ : ∃ z, z = u := ⟨_, rfl⟩
    obtain ⟨hP, hD⟩ := va_join (wr := [(oJ, .inl (cJ, 1, .inr (.inl u3)))]) (w1 := [(k0, .inr (10, [.ref kN, .ref kA, .ref kO, .ref kK, .ref kV, .ref kG, .ref kP, .ref kC, .ref kD, .ref kE, .ref kF, .ref kX, .ref kY, .int 0, .ref kT, .ref kU, .int u6, .int 0, .int 0]))]) hP hD [0, 1, 2, 3, 4, 5, 6] [7] rfl rfl (by decide) (by decide) hk1 hFc hP1 hD1
    generalize H1 = H at hP hS ⊢
    have hP : va_P (dC, dI) vwCl [(oJ, .inl (cJ, 1, .inr (.inl u3))), (k0, .inr (10, [.ref kN, .ref kA, .ref kO, .ref kK, .ref kV, .ref kG, .ref kP, .ref kC, .ref kD, .ref kE, .ref kF, .ref kX, .ref kY, .int 0, .ref kT, .ref kU, .int u6, .int 0, .int 0]))] _ := hP
    have hD : va_D A [(oJ, .inl (cJ, 1, .inr (.inl u3))), (k0, .inr (10, [.ref kN, .ref kA, .ref kO, .ref kK, .ref kV, .ref kG, .ref kP, .ref kC, .ref kD, .ref kE, .ref kF, .ref kX, .ref kY, .int 0, .ref kT, .ref kU, .int u6, .int 0, .int 0]))] := hD
    refine W.widen (k := 151) (n := 2363) (Nat.le_of_ble_eq_true rfl) (Nat.le_of_ble_eq_true rfl) ?_
    obtain ⟨r7, rfl⟩ : ∃ z, z = r := ⟨_, rfl⟩
    subst hw
    have hP : va_P (dC, dI) vwCl [(oJ, .inl (cJ, 1, .inr (.inl u3))), (k0, .inr (10, [.ref kN, .ref kA, .ref kO, .ref kK, .ref kV, .ref kG, .ref kP, .ref kC, .ref kD, .ref kE, .ref kF, .ref kX, .ref kY, .int 0, .ref kT, .ref kU, .int 1, .int 0, .int 0]))] _ := hP
    have hD : va_D A [(oJ, .inl (cJ, 1, .inr (.inl u3))), (k0, .inr (10, [.ref kN, .ref kA, .ref kO, .ref kK, .ref kV, .ref kG, .ref kP, .ref kC, .ref kD, .ref kE, .ref kF, .ref kX, .ref kY, .int 0, .ref kT, .ref kU, .int 1, .int 0, .int 0]))] := hD
    refine lv_istore (lv' := [(7, .int r7), (6, .int 1), (5, .int 0), (4, .ref oD), (3, .ref oJ), (2, .ref k0), (1, .ref h0), (0, .ref b)]) hx hb dL_law_2489 hl (Nat.le_of_ble_eq_true rfl) rfl (fun ls hl => ?_)
    refine lv_aload_n hx hb dL_law_2491 rfl (lv_at hl 5 rfl) ?_
    have hPc := hP.sub (ws' := [(k0, .inr (10, [.ref kN, .ref kA, .ref kO, .ref kK, .ref kV, .ref kG, .ref kP, .ref kC, .ref kD, .ref kE, .ref kF, .ref kX, .ref kY, .int 0, .ref kT, .ref kU, .int 1, .int 0, .int 0]))]) [1] rfl
    have hDc := hD.sub (ws' := [(k0, .inr (10, [.ref kN, .ref kA, .ref kO, .ref kK, .ref kV, .ref kG, .ref kP, .ref kC, .ref kD, .ref kE, .ref kF, .ref kX, .ref kY, .int 0, .ref kT, .ref kU, .int 1, .int 0, .int 0]))]) [1] (by decide) rfl
    have hKc := hK.sub (tys' := []) [] rfl
    have hFc := va_free (wc := [(k0, .inr (10, [.ref kN, .ref kA, .ref kO, .ref kK, .ref kV, .ref kG, .ref kP, .ref kC, .ref kD, .ref kE, .ref kF, .ref kX, .ref kY, .int 0, .ref kT, .ref kU, .int 1, .int 0, .int 0]))]) hD hS hA [1] rfl
    refine va_calli (va_runV (As := []) (rest := []) ⟨hx, hb, hml, hown, hts⟩ (kX7_thrown l dC dI k0 kN kA kO kK kV kG kP kC kD kE kF kX kY kT kU 1 H.size) (cwV 0 hts gL_law_X7_thrown rfl rfl rfl (by decide +kernel) ⟨Nat.le_of_ble_eq_true rfl, Nat.le_of_ble_eq_true rfl⟩) (fPreV hN hZ hS (fun q h => hFc q h) hPc hKc hDc (ci := 10) (q0 := 0) rfl rfl) rfl rfl hl.1 rfl (lv_room (Nat.le_of_ble_eq_true rfl)) dL_law_2492 ⟨Nat.le_of_ble_eq_true rfl, Nat.le_of_ble_eq_true rfl⟩) hS (fun q _ h => hFc q h) hFc (fun r u t H1 locs ht hvm hw hB hz1 hk1 hS => ?_)
    obtain ⟨hP1, hK1, hD1⟩ := hB
    rw [ht] at hP1
    have hK1 := va_K.moved hvm.symm hK1
    obtain ⟨hP, hD⟩ := va_join (wr := [(oJ, .inl (cJ, 1, .inr (.inl u3)))]) (w1 := []) hP hD [1] [0] rfl rfl (by decide) (by decide) hk1 hFc hP1 hD1
    generalize H1 = H at hP hS ⊢
    have hP : va_P (dC, dI) vwCl [(oJ, .inl (cJ, 1, .inr (.inl u3)))] _ := hP
    have hD : va_D A [(oJ, .inl (cJ, 1, .inr (.inl u3)))] := hD
    subst hw
    refine lv_iload hx hb dL_law_2495 (lv_at hl 1 rfl) ?_
    refine lv_icmp_eq (tgt := 2502) hx hb dL_law_2497 (by decide) (fun _ => ?_) (fun h9 => absurd (by decide) h9)
    refine lv_iload hx hb dL_law_2502 (lv_at hl 1 rfl) ?_
    refine lv_if_ne (tgt := 2519) hx hb dL_law_2504 (by decide) (fun _ => ?_) (fun h9 => absurd h9 (by decide))
    refine lv_goto (tgt := 2720) hx hb dL_law_2519 (by decide) ?_
    refine lv_iinc (v := 7) (lv' := [(5, .int 7), (7, .int r7), (6, .int 1), (4, .ref oD), (3, .ref oJ), (2, .ref k0), (1, .ref h0), (0, .ref b)]) hx hb dL_law_2720 hl (k := 2) rfl (by decide) (Nat.le_of_ble_eq_true rfl) rfl (fun ls hl => ?_)
    refine lv_goto (tgt := 28) hx hb dL_law_2723 (by decide) ?_
    refine lv_iload hx hb dL_law_28 (lv_at hl 0 rfl) ?_
    refine lv_aload_n hx hb dL_law_30 rfl (lv_at hl 7 rfl) ?_
    refine va_slen hx hb hX9 hbl hbA hS dL_law_31 ?_
    refine W.eq (g2 := F0 m 32 ls [.int 7, .int 7]) rfl ?_
    refine lv_bipush (v := 7) hx hb dL_law_32 (by decide) ?_
    refine lv_isub hx hb dL_law_34 ?_
    refine lv_topi (fun y8 ey8 => ?_)
    obtain rfl : y8 = 0 := ey8.trans (by decide)
    refine lv_icmp_gt (tgt := 2726) hx hb dL_law_35 (by decide) (fun _ => ?_) (fun h9 => absurd (by decide) h9)
    refine lv_iconst (v := 1) hx hb dL_law_2726 (by decide) ?_
    refine va_forget (fun q hq => hAe _ (hS.2.2 q hq)) ?_
    refine W.widen (k := 603072) (n := 7198826) (Nat.le_of_ble_eq_true rfl) (Nat.le_of_ble_eq_true rfl) ?_
    exact W.base (lw_ret (d0 := s.drawn) (Drawn.sameBut.refl _ _) hx hb hr hlk dL_law_2727)

set_option maxHeartbeats 4000000 in
set_option maxRecDepth 100000 in
/-- case 38 of the law: equalShare, on fresh objects -/
theorem lc_38 {p : Program} {e : Env} {s : State} {m : MethodId} {below : List Frame} {meth : Method} {c : Code} (l : Launch) (hfl : l.stackTraces = false) {b : Nat} {xs : Nat → Int32} (hx : p.tables.exec = Jvm.exec) (hb : c.code = cL_law) (hr : meth.sig.returnType = ret) (hml : c.maxLocals = 9) (hown : s.vm.findClass RL = some m.cls) (hts : ∀ w ∈ wsL_law, w.before #[Value.ref b] s = true) (hlk : meth.locks = false) (A : Nat → Prop) (hAe : ∀ q, A q → s.heap.size ≤ q) (hA : ∀ q : Nat, s.heap.size ≤ q → A q) (hX9 : va_X b 7 xs s s.heap) (hbl : b < s.heap.size) (hN : fN s) (hZ : fZ A s s.heap) (hX : fX s) (dC : Nat → ClassId) (dI : Nat → Nat → Nat) (h0 w d wL wP wS dL dP dS co on onR onL onC onD op opR opL opC opD un unK ma tm k0 kN kA kO kK kV kG kP kC kD kE kF kX kY kT kU oJ oD : Nat) (cI cO : ClassId) {H : Heap} {locs : List Loc} {ls : Array Slot} (hK : va_K (dC, dI) vwCl [(cI, .int), (cO, .double)] s) (hP : va_P (dC, dI) vwCl [(h0, .inr (9, [.ref w, .ref d, .ref co, .ref un, .ref ma, .ref tm, .int 0, .int 0, .int 0])), (co, .inr (4, [.ref w, .ref d, .ref on, .ref op, .int 0])), (w, .inr (3, [.int 0, .int 0, .ref wL, .ref wP, .ref wS])), (d, .inr (3, [.int 0, .int 0, .ref dL, .ref dP, .ref dS])), (on, .inr (7, [.ref onR, .ref onL, .ref onC, .ref onD, .int 0])), (onL, .inl (cI, 20, .inl (fun _ => 0))), (onC, .inl (cI, 20, .inl (fun _ => 0))), (op, .inr (7, [.ref opR, .ref opL, .ref opC, .ref opD, .int 0])), (opL, .inl (cI, 20, .inl (fun _ => 0))), (opC, .inl (cI, 20, .inl (fun _ => 0))), (un, .inr (5, [.ref unK, .int 0])), (k0, .inr (10, [.ref kN, .ref kA, .ref kO, .ref kK, .ref kV, .ref kG, .ref kP, .ref kC, .ref kD, .ref kE, .ref kF, .ref kX, .ref kY, .int 0, .ref kT, .ref kU, .int 0, .int 0, .int 0])), (kN, .inl (cI, 2, .inl (fun _ => 0))), (kA, .inl (cI, 2, .inl (fun _ => 0))), (kC, .inl (cI, 20, .inl (fun _ => 0))), (kD, .inl (cI, 20, .inl (fun _ => 0))), (kE, .inl (cI, 20, .inl (fun _ => 0))), (kF, .inl (cI, 20, .inl (fun _ => 0))), (oD, .inl (cO, 1, .inr (.inr (.inr (.inl (fun _ => FP.dconst0))))))] H) (hD : va_D A [(h0, .inr (9, [.ref w, .ref d, .ref co, .ref un, .ref ma, .ref tm, .int 0, .int 0, .int 0])), (co, .inr (4, [.ref w, .ref d, .ref on, .ref op, .int 0])), (w, .inr (3, [.int 0, .int 0, .ref wL, .ref wP, .ref wS])), (d, .inr (3, [.int 0, .int 0, .ref dL, .ref dP, .ref dS])), (on, .inr (7, [.ref onR, .ref onL, .ref onC, .ref onD, .int 0])), (onL, .inl (cI, 20, .inl (fun _ => 0))), (onC, .inl (cI, 20, .inl (fun _ => 0))), (op, .inr (7, [.ref opR, .ref opL, .ref opC, .ref opD, .int 0])), (opL, .inl (cI, 20, .inl (fun _ => 0))), (opC, .inl (cI, 20, .inl (fun _ => 0))), (un, .inr (5, [.ref unK, .int 0])), (k0, .inr (10, [.ref kN, .ref kA, .ref kO, .ref kK, .ref kV, .ref kG, .ref kP, .ref kC, .ref kD, .ref kE, .ref kF, .ref kX, .ref kY, .int 0, .ref kT, .ref kU, .int 0, .int 0, .int 0])), (kN, .inl (cI, 2, .inl (fun _ => 0))), (kA, .inl (cI, 2, .inl (fun _ => 0))), (kC, .inl (cI, 20, .inl (fun _ => 0))), (kD, .inl (cI, 20, .inl (fun _ => 0))), (kE, .inl (cI, 20, .inl (fun _ => 0))), (kF, .inl (cI, 20, .inl (fun _ => 0))), (oD, .inl (cO, 1, .inr (.inr (.inr (.inl (fun _ => FP.dconst0))))))]) (hS : va_S A s.heap H locs) (hl : lv_has ls 9 [(5, .int 0), (4, .ref oD), (3, .ref oJ), (2, .ref k0), (1, .ref h0), (0, .ref b)]) : W p l e room_1 s m #[Value.ref b] below meth c H locs 148 2317 (lw_Z below #[Value.ref b] s) (F0 m 2522 ls []) := by
  have hbA : ¬ A b := fun h => Nat.not_le.mpr hbl (hAe _ h)
  have hX0 := hX
  refine lv_aload_n hx hb dL_law_2522 rfl (lv_at hl 4 rfl) ?_
  refine lv_aload hx hb dL_law_2523 (lv_at hl 1 rfl) ?_
  have hPc := hP.sub (ws' := [(h0, .inr (9, [.ref w, .ref d, .ref co, .ref un, .ref ma, .ref tm, .int 0, .int 0, .int 0])), (co, .inr (4, [.ref w, .ref d, .ref on, .ref op, .int 0])), (w, .inr (3, [.int 0, .int 0, .ref wL, .ref wP, .ref wS])), (d, .inr (3, [.int 0, .int 0, .ref dL, .ref dP, .ref dS])), (on, .inr (7, [.ref onR, .ref onL, .ref onC, .ref onD, .int 0])), (onL, .inl (cI, 20, .inl (fun _ => 0))), (onC, .inl (cI, 20, .inl (fun _ => 0))), (op, .inr (7, [.ref opR, .ref opL, .ref opC, .ref opD, .int 0])), (opL, .inl (cI, 20, .inl (fun _ => 0))), (opC, .inl (cI, 20, .inl (fun _ => 0))), (un, .inr (5, [.ref unK, .int 0])), (oD, .inl (cO, 1, .inr (.inr (.inr (.inl (fun _ => FP.dconst0))))))]) [0, 1, 2, 3, 4, 5, 6, 7, 8, 9, 10, 18] rfl
  have hDc := hD.sub (ws' := [(h0, .inr (9, [.ref w, .ref d, .ref co, .ref un, .ref ma, .ref tm, .int 0, .int 0, .int 0])), (co, .inr (4, [.ref w, .ref d, .ref on, .ref op, .int 0])), (w, .inr (3, [.int 0, .int 0, .ref wL, .ref wP, .ref wS])), (d, .inr (3, [.int 0, .int 0, .ref dL, .ref dP, .ref dS])), (on, .inr (7, [.ref onR, .ref onL, .ref onC, .ref onD, .int 0])), (onL, .inl (cI, 20, .inl (fun _ => 0))), (onC, .inl (cI, 20, .inl (fun _ => 0))), (op, .inr (7, [.ref opR, .ref opL, .ref opC, .ref opD, .int 0])), (opL, .inl (cI, 20, .inl (fun _ => 0))), (opC, .inl (cI, 20, .inl (fun _ => 0))), (un, .inr (5, [.ref unK, .int 0])), (oD, .inl (cO, 1, .inr (.inr (.inr (.inl (fun _ => FP.dconst0))))))]) [0, 1, 2, 3, 4, 5, 6, 7, 8, 9, 10, 18] (by decide) rfl
  have hKc := hK.sub (tys' := [(cI, .int), (cO, .double)]) [0, 1] rfl
  have hFc := va_free (wc := [(h0, .inr (9, [.ref w, .ref d, .ref co, .ref un, .ref ma, .ref tm, .int 0, .int 0, .int 0])), (co, .inr (4, [.ref w, .ref d, .ref on, .ref op, .int 0])), (w, .inr (3, [.int 0, .int 0, .ref wL, .ref wP, .ref wS])), (d, .inr (3, [.int 0, .int 0, .ref dL, .ref dP, .ref dS])), (on, .inr (7, [.ref onR, .ref onL, .ref onC, .ref onD, .int 0])), (onL, .inl (cI, 20, .inl (fun _ => 0))), (onC, .inl (cI, 20, .inl (fun _ => 0))), (op, .inr (7, [.ref opR, .ref opL, .ref opC, .ref opD, .int 0])), (opL, .inl (cI, 20, .inl (fun _ => 0))), (opC, .inl (cI, 20, .inl (fun _ => 0))), (un, .inr (5, [.ref unK, .int 0])), (oD, .inl (cO, 1, .inr (.inr (.inr (.inl (fun _ => FP.dconst0))))))]) hD hS hA [0, 1, 2, 3, 4, 5, 6, 7, 8, 9, 10, 18] rfl
  refine vx_calli (vx_runSX (As := [.ref h0, .ref oD]) (rest := []) ⟨hx, hb, hml, hown, hts⟩ (kL_equalShare l hfl dC dI h0 ma tm un unK co w wL wP wS d dL dP dS on onR onL onC onD op opR opL opC opD cI (fun _ => 0) (fun _ => 0) oD cO H.size) (vx_cwSW 2 hts gL_law_L_equalShare rfl rfl rfl (by decide +kernel) ⟨Nat.le_of_ble_eq_true rfl, Nat.le_of_ble_eq_true rfl⟩) (gPreS hX hN hZ hS (fun q h => hFc q h) hPc hKc hDc) rfl rfl hl.1 rfl (lv_room (Nat.le_of_ble_eq_true rfl)) dL_law_2525 ⟨Nat.le_of_ble_eq_true rfl, Nat.le_of_ble_eq_true rfl⟩) hS (fun q _ h => hFc q h) hFc (fun q _ h => hFc q h) (fun E ce q9 u t H locs ht hvm hpx hE hz1 hk1 hS hq9 hv9 hc9 => ?_) (fun r u t H1 locs ht hvm hw hB hz1 hk1 hS => ?_)
  · skip
    exact hE.elim
  · skip
    obtain ⟨hP1, hK1, hD1⟩ := hB
    rw [ht] at hP1
    have hK1 := va_K.moved hvm.symm hK1
    obtain ⟨u1, rfl⟩ : ∃ z, z = u := ⟨_, rfl⟩
    obtain ⟨hP, hD⟩ := va_join (wr := [(k0, .inr (10, [.ref kN, .ref kA, .ref kO, .ref kK, .ref kV, .ref kG, .ref kP, .ref kC, .ref kD, .ref kE, .ref kF, .ref kX, .ref kY, .int 0, .ref kT, .ref kU, .int 0, .int 0, .int 0])), (kN, .inl (cI, 2, .inl (fun _ => 0))), (kA, .inl (cI, 2, .inl (fun _ => 0))), (kC, .inl (cI, 20, .inl (fun _ => 0))), (kD, .inl (cI, 20, .inl (fun _ => 0))), (kE, .inl (cI, 20, .inl (fun _ => 0))), (kF, .inl (cI, 20, .inl (fun _ => 0)))]) (w1 := [(oD, .inl (cO, 1, .inr (.inr (.inr (.inl u1)))))]) hP hD [0, 1, 2, 3, 4, 5, 6, 7, 8, 9, 10, 18] [11, 12, 13, 14, 15, 16, 17] rfl rfl (by decide) (by decide) hk1 hFc hP1 hD1
    generalize H1 = H at hP hS ⊢
    have hP : va_P (dC, dI) vwCl [(k0, .inr (10, [.ref kN, .ref kA, .ref kO, .ref kK, .ref kV, .ref kG, .ref kP, .ref kC, .ref kD, .ref kE, .ref kF, .ref kX, .ref kY, .int 0, .ref kT, .ref kU, .int 0, .int 0, .int 0])), (kN, .inl (cI, 2, .inl (fun _ => 0))), (kA, .inl (cI, 2, .inl (fun _ => 0))), (kC, .inl (cI, 20, .inl (fun _ => 0))), (kD, .inl (cI, 20, .inl (fun _ => 0))), (kE, .inl (cI, 20, .inl (fun _ => 0))), (kF, .inl (cI, 20, .inl (fun _ => 0))), (oD, .inl (cO, 1, .inr (.inr (.inr (.inl u1)))))] _ := hP
    have hD : va_D A [(k0, .inr (10, [.ref kN, .ref kA, .ref kO, .ref kK, .ref kV, .ref kG, .ref kP, .ref kC, .ref kD, .ref kE, .ref kF, .ref kX, .ref kY, .int 0, .ref kT, .ref kU, .int 0, .int 0, .int 0])), (kN, .inl (cI, 2, .inl (fun _ => 0))), (kA, .inl (cI, 2, .inl (fun _ => 0))), (kC, .inl (cI, 20, .inl (fun _ => 0))), (kD, .inl (cI, 20, .inl (fun _ => 0))), (kE, .inl (cI, 20, .inl (fun _ => 0))), (kF, .inl (cI, 20, .inl (fun _ => 0))), (oD, .inl (cO, 1, .inr (.inr (.inr (.inl u1)))))] := hD
    refine W.widen (k := 149) (n := 2323) (Nat.le_of_ble_eq_true rfl) (Nat.le_of_ble_eq_true rfl) ?_
    subst hw
    refine lv_istore (lv' := [(6, .int 1), (5, .int 0), (4, .ref oD), (3, .ref oJ), (2, .ref k0), (1, .ref h0), (0, .ref b)]) hx hb dL_law_2528 hl (Nat.le_of_ble_eq_true rfl) rfl (fun ls hl => ?_)
    refine lv_aload_n hx hb dL_law_2530 rfl (lv_at hl 4 rfl) ?_
    have hPc := hP.sub (ws' := [(k0, .inr (10, [.ref kN, .ref kA, .ref kO, .ref kK, .ref kV, .ref kG, .ref kP, .ref kC, .ref kD, .ref kE, .ref kF, .ref kX, .ref kY, .int 0, .ref kT, .ref kU, .int 0, .int 0, .int 0])), (kN, .inl (cI, 2, .inl (fun _ => 0))), (kA, .inl (cI, 2, .inl (fun _ => 0))), (kC, .inl (cI, 20, .inl (fun _ => 0))), (kD, .inl (cI, 20, .inl (fun _ => 0))), (kE, .inl (cI, 20, .inl (fun _ => 0))), (kF, .inl (cI, 20, .inl (fun _ => 0)))]) [0, 1, 2, 3, 4, 5, 6] rfl
    have hDc := hD.sub (ws' := [(k0, .inr (10, [.ref kN, .ref kA, .ref kO, .ref kK, .ref kV, .ref kG, .ref kP, .ref kC, .ref kD, .ref kE, .ref kF, .ref kX, .ref kY, .int 0, .ref kT, .ref kU, .int 0, .int 0, .int 0])), (kN, .inl (cI, 2, .inl (fun _ => 0))), (kA, .inl (cI, 2, .inl (fun _ => 0))), (kC, .inl (cI, 20, .inl (fun _ => 0))), (kD, .inl (cI, 20, .inl (fun _ => 0))), (kE, .inl (cI, 20, .inl (fun _ => 0))), (kF, .inl (cI, 20, .inl (fun _ => 0)))]) [0, 1, 2, 3, 4, 5, 6] (by decide) rfl
    have hKc := hK.sub (tys' := [(cI, .int)]) [0] rfl
    have hFc := va_free (wc := [(k0, .inr (10, [.ref kN, .ref kA, .ref kO, .ref kK, .ref kV, .ref kG, .ref kP, .ref kC, .ref kD, .ref kE, .ref kF, .ref kX, .ref kY, .int 0, .ref kT, .ref kU, .int 0, .int 0, .int 0])), (kN, .inl (cI, 2, .inl (fun _ => 0))), (kA, .inl (cI, 2, .inl (fun _ => 0))), (kC, .inl (cI, 20, .inl (fun _ => 0))), (kD, .inl (cI, 20, .inl (fun _ => 0))), (kE, .inl (cI, 20, .inl (fun _ => 0))), (kF, .inl (cI, 20, .inl (fun _ => 0)))]) hD hS hA [0, 1, 2, 3, 4, 5, 6] rfl
    refine va_callf (va_runV (As := []) (rest := []) ⟨hx, hb, hml, hown, hts⟩ (kX7_equalShare l dC dI k0 kN kA kO kK kV kG kP kC kD kE kF kX kY kT kU cI (fun _ => 0) (fun _ => 0) (fun _ => 0) (fun _ => 0) H.size) (cwV 0 hts gL_law_X7_equalShare rfl rfl rfl (by decide +kernel) ⟨Nat.le_of_ble_eq_true rfl, Nat.le_of_ble_eq_true rfl⟩) (fPreV hN hZ hS (fun q h => hFc q h) hPc hKc hDc (ci := 10) (q0 := 0) rfl rfl) rfl rfl hl.1 rfl (lv_room (Nat.le_of_ble_eq_true rfl)) dL_law_2531 ⟨Nat.le_of_ble_eq_true rfl, Nat.le_of_ble_eq_true rfl⟩) hS (fun q _ h => hFc q h) hFc (fun r u t H1 locs ht hvm hw hB hz1 hk1 hS => ?_)
    obtain ⟨hP1, hK1, hD1⟩ := hB
    rw [ht] at hP1
    have hK1 := va_K.moved hvm.symm hK1
    obtain ⟨u2, rfl⟩ : ∃ z, z = u := ⟨_, rfl⟩
    obtain ⟨hP, hD⟩ := va_join (wr := [(oD, .inl (cO, 1, .inr (.inr (.inr (.inl u1)))))]) (w1 := [(k0, .inr (10, [.ref kN, .ref kA, .ref kO, .ref kK, .ref kV, .ref kG, .ref kP, .ref kC, .ref kD, .ref kE, .ref kF, .ref kX, .ref kY, .int 0, .ref kT, .ref kU, .int u2, .int 0, .int 0]))]) hP hD [0, 1, 2, 3, 4, 5, 6] [7] rfl rfl (by decide) (by decide) hk1 hFc hP1 hD1
    generalize H1 = H at hP hS ⊢
    have hP : va_P (dC, dI) vwCl [(oD, .inl (cO, 1, .inr (.inr (.inr (.inl u1))))), (k0, .inr (10, [.ref kN, .ref kA, .ref kO, .ref kK, .ref kV, .ref kG, .ref kP, .ref kC, .ref kD, .ref kE, .ref kF, .ref kX, .ref kY, .int 0, .ref kT, .ref kU, .int u2, .int 0, .int 0]))] _ := hP
    have hD : va_D A [(oD, .inl (cO, 1, .inr (.inr (.inr (.inl u1))))), (k0, .inr (10, [.ref kN, .ref kA, .ref kO, .ref kK, .ref kV, .ref kG, .ref kP, .ref kC, .ref kD, .ref kE, .ref kF, .ref kX, .ref kY, .int 0, .ref kT, .ref kU, .int u2, .int 0, .int 0]))] := hD
    refine W.widen (k := 151) (n := 2363) (Nat.le_of_ble_eq_true rfl) (Nat.le_of_ble_eq_true rfl) ?_
    obtain ⟨r3, rfl⟩ : ∃ z, z = r := ⟨_, rfl⟩
    subst hw
    have hP : va_P (dC, dI) vwCl [(oD, .inl (cO, 1, .inr (.inr (.inr (.inl u1))))), (k0, .inr (10, [.ref kN, .ref kA, .ref kO, .ref kK, .ref kV, .ref kG, .ref kP, .ref kC, .ref kD, .ref kE, .ref kF, .ref kX, .ref kY, .int 0, .ref kT, .ref kU, .int 1, .int 0, .int 0]))] _ := hP
    have hD : va_D A [(oD, .inl (cO, 1, .inr (.inr (.inr (.inl u1))))), (k0, .inr (10, [.ref kN, .ref kA, .ref kO, .ref kK, .ref kV, .ref kG, .ref kP, .ref kC, .ref kD, .ref kE, .ref kF, .ref kX, .ref kY, .int 0, .ref kT, .ref kU, .int 1, .int 0, .int 0]))] := hD
    refine lv_fstore (lv' := [(7, .float r3), (6, .int 1), (5, .int 0), (4, .ref oD), (3, .ref oJ), (2, .ref k0), (1, .ref h0), (0, .ref b)]) hx hb dL_law_2534 hl (Nat.le_of_ble_eq_true rfl) rfl (fun ls hl => ?_)
    refine lv_aload_n hx hb dL_law_2536 rfl (lv_at hl 5 rfl) ?_
    have hPc := hP.sub (ws' := [(k0, .inr (10, [.ref kN, .ref kA, .ref kO, .ref kK, .ref kV, .ref kG, .ref kP, .ref kC, .ref kD, .ref kE, .ref kF, .ref kX, .ref kY, .int 0, .ref kT, .ref kU, .int 1, .int 0, .int 0]))]) [1] rfl
    have hDc := hD.sub (ws' := [(k0, .inr (10, [.ref kN, .ref kA, .ref kO, .ref kK, .ref kV, .ref kG, .ref kP, .ref kC, .ref kD, .ref kE, .ref kF, .ref kX, .ref kY, .int 0, .ref kT, .ref kU, .int 1, .int 0, .int 0]))]) [1] (by decide) rfl
    have hKc := hK.sub (tys' := []) [] rfl
    have hFc := va_free (wc := [(k0, .inr (10, [.ref kN, .ref kA, .ref kO, .ref kK, .ref kV, .ref kG, .ref kP, .ref kC, .ref kD, .ref kE, .ref kF, .ref kX, .ref kY, .int 0, .ref kT, .ref kU, .int 1, .int 0, .int 0]))]) hD hS hA [1] rfl
    refine va_calli (va_runV (As := []) (rest := []) ⟨hx, hb, hml, hown, hts⟩ (kX7_thrown l dC dI k0 kN kA kO kK kV kG kP kC kD kE kF kX kY kT kU 1 H.size) (cwV 0 hts gL_law_X7_thrown rfl rfl rfl (by decide +kernel) ⟨Nat.le_of_ble_eq_true rfl, Nat.le_of_ble_eq_true rfl⟩) (fPreV hN hZ hS (fun q h => hFc q h) hPc hKc hDc (ci := 10) (q0 := 0) rfl rfl) rfl rfl hl.1 rfl (lv_room (Nat.le_of_ble_eq_true rfl)) dL_law_2537 ⟨Nat.le_of_ble_eq_true rfl, Nat.le_of_ble_eq_true rfl⟩) hS (fun q _ h => hFc q h) hFc (fun r u t H1 locs ht hvm hw hB hz1 hk1 hS => ?_)
    obtain ⟨hP1, hK1, hD1⟩ := hB
    rw [ht] at hP1
    have hK1 := va_K.moved hvm.symm hK1
    obtain ⟨hP, hD⟩ := va_join (wr := [(oD, .inl (cO, 1, .inr (.inr (.inr (.inl u1)))))]) (w1 := []) hP hD [1] [0] rfl rfl (by decide) (by decide) hk1 hFc hP1 hD1
    generalize H1 = H at hP hS ⊢
    have hP : va_P (dC, dI) vwCl [(oD, .inl (cO, 1, .inr (.inr (.inr (.inl u1)))))] _ := hP
    have hD : va_D A [(oD, .inl (cO, 1, .inr (.inr (.inr (.inl u1)))))] := hD
    subst hw
    refine lv_iload hx hb dL_law_2540 (lv_at hl 1 rfl) ?_
    refine lv_icmp_eq (tgt := 2547) hx hb dL_law_2542 (by decide) (fun _ => ?_) (fun h9 => absurd (by decide) h9)
    refine lv_iload hx hb dL_law_2547 (lv_at hl 1 rfl) ?_
    refine lv_if_ne (tgt := 2585) hx hb dL_law_2549 (by decide) (fun _ => ?_) (fun h9 => absurd h9 (by decide))
    refine lv_goto (tgt := 2720) hx hb dL_law_2585 (by decide) ?_
    refine lv_iinc (v := 7) (lv' := [(5, .int 7), (7, .float r3), (6, .int 1), (4, .ref oD), (3, .ref oJ), (2, .ref k0), (1, .ref h0), (0, .ref b)]) hx hb dL_law_2720 hl (k := 2) rfl (by decide) (Nat.le_of_ble_eq_true rfl) rfl (fun ls hl => ?_)
    refine lv_goto (tgt := 28) hx hb dL_law_2723 (by decide) ?_
    refine lv_iload hx hb dL_law_28 (lv_at hl 0 rfl) ?_
    refine lv_aload_n hx hb dL_law_30 rfl (lv_at hl 7 rfl) ?_
    refine va_slen hx hb hX9 hbl hbA hS dL_law_31 ?_
    refine W.eq (g2 := F0 m 32 ls [.int 7, .int 7]) rfl ?_
    refine lv_bipush (v := 7) hx hb dL_law_32 (by decide) ?_
    refine lv_isub hx hb dL_law_34 ?_
    refine lv_topi (fun y4 ey4 => ?_)
    obtain rfl : y4 = 0 := ey4.trans (by decide)
    refine lv_icmp_gt (tgt := 2726) hx hb dL_law_35 (by decide) (fun _ => ?_) (fun h9 => absurd (by decide) h9)
    refine lv_iconst (v := 1) hx hb dL_law_2726 (by decide) ?_
    refine va_forget (fun q hq => hAe _ (hS.2.2 q hq)) ?_
    refine W.widen (k := 603072) (n := 7198826) (Nat.le_of_ble_eq_true rfl) (Nat.le_of_ble_eq_true rfl) ?_
    exact W.base (lw_ret (d0 := s.drawn) (Drawn.sameBut.refl _ _) hx hb hr hlk dL_law_2727)

set_option maxHeartbeats 4000000 in
set_option maxRecDepth 100000 in
/-- case 39 of the law: meanDistance, on fresh objects -/
theorem lc_39 {p : Program} {e : Env} {s : State} {m : MethodId} {below : List Frame} {meth : Method} {c : Code} (l : Launch) (hfl : l.stackTraces = false) {b : Nat} {xs : Nat → Int32} (hx : p.tables.exec = Jvm.exec) (hb : c.code = cL_law) (hr : meth.sig.returnType = ret) (hml : c.maxLocals = 9) (hown : s.vm.findClass RL = some m.cls) (hts : ∀ w ∈ wsL_law, w.before #[Value.ref b] s = true) (hlk : meth.locks = false) (A : Nat → Prop) (hAe : ∀ q, A q → s.heap.size ≤ q) (hA : ∀ q : Nat, s.heap.size ≤ q → A q) (hX9 : va_X b 7 xs s s.heap) (hbl : b < s.heap.size) (hN : fN s) (hZ : fZ A s s.heap) (hX : fX s) (dC : Nat → ClassId) (dI : Nat → Nat → Nat) (h0 w d wL wP wS dL dP dS co un ma tm k0 kN kA kO kK kV kG kP kC kD kE kF kX kY kT kU oJ oD : Nat) (cI cO : ClassId) {H : Heap} {locs : List Loc} {ls : Array Slot} (hK : va_K (dC, dI) vwCl [(cI, .int), (cO, .double)] s) (hP : va_P (dC, dI) vwCl [(h0, .inr (9, [.ref w, .ref d, .ref co, .ref un, .ref ma, .ref tm, .int 0, .int 0, .int 0])), (w, .inr (3, [.int 0, .int 0, .ref wL, .ref wP, .ref wS])), (d, .inr (3, [.int 0, .int 0, .ref dL, .ref dP, .ref dS])), (k0, .inr (10, [.ref kN, .ref kA, .ref kO, .ref kK, .ref kV, .ref kG, .ref kP, .ref kC, .ref kD, .ref kE, .ref kF, .ref kX, .ref kY, .int 0, .ref kT, .ref kU, .int 0, .int 0, .int 0])), (kN, .inl (cI, 2, .inl (fun _ => 0))), (kA, .inl (cI, 2, .inl (fun _ => 0))), (oD, .inl (cO, 1, .inr (.inr (.inr (.inl (fun _ => FP.dconst0))))))] H) (hD : va_D A [(h0, .inr (9, [.ref w, .ref d, .ref co, .ref un, .ref ma, .ref tm, .int 0, .int 0, .int 0])), (w, .inr (3, [.int 0, .int 0, .ref wL, .ref wP, .ref wS])), (d, .inr (3, [.int 0, .int 0, .ref dL, .ref dP, .ref dS])), (k0, .inr (10, [.ref kN, .ref kA, .ref kO, .ref kK, .ref kV, .ref kG, .ref kP, .ref kC, .ref kD, .ref kE, .ref kF, .ref kX, .ref kY, .int 0, .ref kT, .ref kU, .int 0, .int 0, .int 0])), (kN, .inl (cI, 2, .inl (fun _ => 0))), (kA, .inl (cI, 2, .inl (fun _ => 0))), (oD, .inl (cO, 1, .inr (.inr (.inr (.inl (fun _ => FP.dconst0))))))]) (hS : va_S A s.heap H locs) (hl : lv_has ls 9 [(5, .int 0), (4, .ref oD), (3, .ref oJ), (2, .ref k0), (1, .ref h0), (0, .ref b)]) : W p l e room_1 s m #[Value.ref b] below meth c H locs 148 2317 (lw_Z below #[Value.ref b] s) (F0 m 2588 ls []) := by
  have hbA : ¬ A b := fun h => Nat.not_le.mpr hbl (hAe _ h)
  have hX0 := hX
  refine lv_aload_n hx hb dL_law_2588 rfl (lv_at hl 4 rfl) ?_
  refine lv_aload_n hx hb dL_law_2589 rfl (lv_at hl 5 rfl) ?_
  refine lv_iload hx hb dL_law_2590 (lv_at hl 0 rfl) ?_
  refine lv_iconst (v := 1) hx hb dL_law_2592 (by decide) ?_
  refine lv_iadd hx hb dL_law_2593 ?_
  refine lv_topi (fun y1 ey1 => ?_)
  obtain rfl : y1 = 1 := ey1.trans (by decide)
  refine va_sld hx hb hX9 hbl hbA hS (show ¬ (_ ∨ _) by decide) dL_law_2594 ?_
  refine W.eq (g2 := F0 m 2595 ls [.int (xs 1), .ref h0]) rfl ?_
  refine lv_aload hx hb dL_law_2595 (lv_at hl 1 rfl) ?_
  have hPc := hP.sub (ws' := [(h0, .inr (9, [.ref w, .ref d, .ref co, .ref un, .ref ma, .ref tm, .int 0, .int 0, .int 0])), (w, .inr (3, [.int 0, .int 0, .ref wL, .ref wP, .ref wS])), (d, .inr (3, [.int 0, .int 0, .ref dL, .ref dP, .ref dS])), (oD, .inl (cO, 1, .inr (.inr (.inr (.inl (fun _ => FP.dconst0))))))]) [0, 1, 2, 6] rfl
  have hDc := hD.sub (ws' := [(h0, .inr (9, [.ref w, .ref d, .ref co, .ref un, .ref ma, .ref tm, .int 0, .int 0, .int 0])), (w, .inr (3, [.int 0, .int 0, .ref wL, .ref wP, .ref wS])), (d, .inr (3, [.int 0, .int 0, .ref dL, .ref dP, .ref dS])), (oD, .inl (cO, 1, .inr (.inr (.inr (.inl (fun _ => FP.dconst0))))))]) [0, 1, 2, 6] (by decide) rfl
  have hKc := hK.sub (tys' := [(cO, .double)]) [1] rfl
  have hFc := va_free (wc := [(h0, .inr (9, [.ref w, .ref d, .ref co, .ref un, .ref ma, .ref tm, .int 0, .int 0, .int 0])), (w, .inr (3, [.int 0, .int 0, .ref wL, .ref wP, .ref wS])), (d, .inr (3, [.int 0, .int 0, .ref dL, .ref dP, .ref dS])), (oD, .inl (cO, 1, .inr (.inr (.inr (.inl (fun _ => FP.dconst0))))))]) hD hS hA [0, 1, 2, 6] rfl
  refine vx_calli (vx_runSX (As := [.ref h0, .int (xs 1), .ref oD]) (rest := []) ⟨hx, hb, hml, hown, hts⟩ (kL_meanDistance l hfl dC dI h0 w d co un ma tm wL wP wS dL dP dS oD cO (xs 1) H.size) (vx_cwSW 3 hts gL_law_L_meanDistance rfl rfl rfl (by decide +kernel) ⟨Nat.le_of_ble_eq_true rfl, Nat.le_of_ble_eq_true rfl⟩) (gPreS hX hN hZ hS (fun q h => hFc q h) hPc hKc hDc) rfl rfl hl.1 rfl (lv_room (Nat.le_of_ble_eq_true rfl)) dL_law_2597 ⟨Nat.le_of_ble_eq_true rfl, Nat.le_of_ble_eq_true rfl⟩) hS (fun q _ h => hFc q h) hFc (fun q _ h => hFc q h) (fun E ce q9 u t H locs ht hvm hpx hE hz1 hk1 hS hq9 hv9 hc9 => ?_) (fun r u t H1 locs ht hvm hw hB hz1 hk1 hS => ?_)
  · skip
    exact hE.elim
  · skip
    obtain ⟨hP1, hK1, hD1⟩ := hB
    rw [ht] at hP1
    have hK1 := va_K.moved hvm.symm hK1
    obtain ⟨u2, rfl⟩ : ∃ z, z = u := ⟨_, rfl⟩
    obtain ⟨hP, hD⟩ := va_join (wr := [(k0, .inr (10, [.ref kN, .ref kA, .ref kO, .ref kK, .ref kV, .ref kG, .ref kP, .ref kC, .ref kD, .ref kE, .ref kF, .ref kX, .ref kY, .int 0, .ref kT, .ref kU, .int 0, .int 0, .int 0])), (kN, .inl (cI, 2, .inl (fun _ => 0))), (kA, .inl (cI, 2, .inl (fun _ => 0)))]) (w1 := [(oD, .inl (cO, 1, .inr (.inr (.inr (.inl u2)))))]) hP hD [0, 1, 2, 6] [3, 4, 5] rfl rfl (by decide) (by decide) hk1 hFc hP1 hD1
    generalize H1 = H at hP hS ⊢
    have hP : va_P (dC, dI) vwCl [(k0, .inr (10, [.ref kN, .ref kA, .ref kO, .ref kK, .ref kV, .ref kG, .ref kP, .ref kC, .ref kD, .ref kE, .ref kF, .ref kX, .ref kY, .int 0, .ref kT, .ref kU, .int 0, .int 0, .int 0])), (kN, .inl (cI, 2, .inl (fun _ => 0))), (kA, .inl (cI, 2, .inl (fun _ => 0))), (oD, .inl (cO, 1, .inr (.inr (.inr (.inl u2)))))] _ := hP
    have hD : va_D A [(k0, .inr (10, [.ref kN, .ref kA, .ref kO, .ref kK, .ref kV, .ref kG, .ref kP, .ref kC, .ref kD, .ref kE, .ref kF, .ref kX, .ref kY, .int 0, .ref kT, .ref kU, .int 0, .int 0, .int 0])), (kN, .inl (cI, 2, .inl (fun _ => 0))), (kA, .inl (cI, 2, .inl (fun _ => 0))), (oD, .inl (cO, 1, .inr (.inr (.inr (.inl u2)))))] := hD
    refine W.widen (k := 150) (n := 2329) (Nat.le_of_ble_eq_true rfl) (Nat.le_of_ble_eq_true rfl) ?_
    rcases hw with ⟨rfl, hf9⟩ | ⟨rfl, hf9⟩
    · skip
      have hf3 := hf9
      refine lv_istore (lv' := [(6, .int 1), (5, .int 0), (4, .ref oD), (3, .ref oJ), (2, .ref k0), (1, .ref h0), (0, .ref b)]) hx hb dL_law_2600 hl (Nat.le_of_ble_eq_true rfl) rfl (fun ls hl => ?_)
      refine lv_aload_n hx hb dL_law_2602 rfl (lv_at hl 4 rfl) ?_
      refine lv_aload_n hx hb dL_law_2603 rfl (lv_at hl 6 rfl) ?_
      refine lv_iload hx hb dL_law_2604 (lv_at hl 1 rfl) ?_
      refine lv_iconst (v := 1) hx hb dL_law_2606 (by decide) ?_
      refine lv_iadd hx hb dL_law_2607 ?_
      refine lv_topi (fun y4 ey4 => ?_)
      obtain rfl : y4 = 1 := ey4.trans (by decide)
      refine va_sld hx hb hX9 hbl hbA hS (show ¬ (_ ∨ _) by decide) dL_law_2608 ?_
      refine W.eq (g2 := F0 m 2609 ls [.int (xs 1), .ref k0]) rfl ?_
      have hPc := hP.sub (ws' := [(k0, .inr (10, [.ref kN, .ref kA, .ref kO, .ref kK, .ref kV, .ref kG, .ref kP, .ref kC, .ref kD, .ref kE, .ref kF, .ref kX, .ref kY, .int 0, .ref kT, .ref kU, .int 0, .int 0, .int 0])), (kN, .inl (cI, 2, .inl (fun _ => 0))), (kA, .inl (cI, 2, .inl (fun _ => 0)))]) [0, 1, 2] rfl
      have hDc := hD.sub (ws' := [(k0, .inr (10, [.ref kN, .ref kA, .ref kO, .ref kK, .ref kV, .ref kG, .ref kP, .ref kC, .ref kD, .ref kE, .ref kF, .ref kX, .ref kY, .int 0, .ref kT, .ref kU, .int 0, .int 0, .int 0])), (kN, .inl (cI, 2, .inl (fun _ => 0))), (kA, .inl (cI, 2, .inl (fun _ => 0)))]) [0, 1, 2] (by decide) rfl
      have hKc := hK.sub (tys' := [(cI, .int)]) [0] rfl
      have hFc := va_free (wc := [(k0, .inr (10, [.ref kN, .ref kA, .ref kO, .ref kK, .ref kV, .ref kG, .ref kP, .ref kC, .ref kD, .ref kE, .ref kF, .ref kX, .ref kY, .int 0, .ref kT, .ref kU, .int 0, .int 0, .int 0])), (kN, .inl (cI, 2, .inl (fun _ => 0))), (kA, .inl (cI, 2, .inl (fun _ => 0)))]) hD hS hA [0, 1, 2] rfl
      refine va_calld (va_runV (As := [.int (xs 1)]) (rest := []) ⟨hx, hb, hml, hown, hts⟩ (kX7_meanDistance l dC dI k0 kN kA kO kK kV kG kP kC kD kE kF kX kY kT kU cI (xs 1) H.size) (cwV 1 hts gL_law_X7_meanDistance rfl rfl rfl (by decide +kernel) ⟨Nat.le_of_ble_eq_true rfl, Nat.le_of_ble_eq_true rfl⟩) (fPreV hN hZ hS (fun q h => hFc q h) hPc hKc hDc (ci := 10) (q0 := 0) rfl rfl) rfl rfl hl.1 rfl (lv_room (Nat.le_of_ble_eq_true rfl)) dL_law_2609 ⟨Nat.le_of_ble_eq_true rfl, Nat.le_of_ble_eq_true rfl⟩) hS (fun q _ h => hFc q h) hFc (fun r u t H1 locs ht hvm hw hB hz1 hk1 hS => ?_)
      obtain ⟨hP1, hK1, hD1⟩ := hB
      rw [ht] at hP1
      have hK1 := va_K.moved hvm.symm hK1
      obtain ⟨u5, rfl⟩ : ∃ z, z = u := ⟨_, rfl⟩
      obtain ⟨hP, hD⟩ := va_join (wr := [(oD, .inl (cO, 1, .inr (.inr (.inr (.inl u2)))))]) (w1 := [(k0, .inr (10, [.ref kN, .ref kA, .ref kO, .ref kK, .ref kV, .ref kG, .ref kP, .ref kC, .ref kD, .ref kE, .ref kF, .ref kX, .ref kY, .int 0, .ref kT, .ref kU, .int u5, .int 0, .int 0]))]) hP hD [0, 1, 2] [3] rfl rfl (by decide) (by decide) hk1 hFc hP1 hD1
      generalize H1 = H at hP hS ⊢
      have hP : va_P (dC, dI) vwCl [(oD, .inl (cO, 1, .inr (.inr (.inr (.inl u2))))), (k0, .inr (10, [.ref kN, .ref kA, .ref kO, .ref kK, .ref kV, .ref kG, .ref kP, .ref kC, .ref kD, .ref kE, .ref kF, .ref kX, .ref kY, .int 0, .ref kT, .ref kU, .int u5, .int 0, .int 0]))] _ := hP
      have hD : va_D A [(oD, .inl (cO, 1, .inr (.inr (.inr (.inl u2))))), (k0, .inr (10, [.ref kN, .ref kA, .ref kO, .ref kK, .ref kV, .ref kG, .ref kP, .ref kC, .ref kD, .ref kE, .ref kF, .ref kX, .ref kY, .int 0, .ref kT, .ref kU, .int u5, .int 0, .int 0]))] := hD
      obtain ⟨r6, rfl⟩ : ∃ z, z = r := ⟨_, rfl⟩
      rcases hw with ⟨rfl, hg9⟩ | ⟨rfl, hg9⟩
      · skip
        have hP : va_P (dC, dI) vwCl [(oD, .inl (cO, 1, .inr (.inr (.inr (.inl u2))))), (k0, .inr (10, [.ref kN, .ref kA, .ref kO, .ref kK, .ref kV, .ref kG, .ref kP, .ref kC, .ref kD, .ref kE, .ref kF, .ref kX, .ref kY, .int 0, .ref kT, .ref kU, .int 1, .int 0, .int 0]))] _ := hP
        have hD : va_D A [(oD, .inl (cO, 1, .inr (.inr (.inr (.inl u2))))), (k0, .inr (10, [.ref kN, .ref kA, .ref kO, .ref kK, .ref kV, .ref kG, .ref kP, .ref kC, .ref kD, .ref kE, .ref kF, .ref kX, .ref kY, .int 0, .ref kT, .ref kU, .int 1, .int 0, .int 0]))] := hD
        refine lv_dstore (lv' := [(7, .double r6), (6, .int 1), (5, .int 0), (4, .ref oD), (3, .ref oJ), (2, .ref k0), (1, .ref h0), (0, .ref b)]) hx hb dL_law_2612 hl (Nat.le_of_ble_eq_true rfl) rfl (fun ls hl => ?_)
        refine lv_aload_n hx hb dL_law_2614 rfl (lv_at hl 5 rfl) ?_
        have hPc := hP.sub (ws' := [(k0, .inr (10, [.ref kN, .ref kA, .ref kO, .ref kK, .ref kV, .ref kG, .ref kP, .ref kC, .ref kD, .ref kE, .ref kF, .ref kX, .ref kY, .int 0, .ref kT, .ref kU, .int 1, .int 0, .int 0]))]) [1] rfl
        have hDc := hD.sub (ws' := [(k0, .inr (10, [.ref kN, .ref kA, .ref kO, .ref kK, .ref kV, .ref kG, .ref kP, .ref kC, .ref kD, .ref kE, .ref kF, .ref kX, .ref kY, .int 0, .ref kT, .ref kU, .int 1, .int 0, .int 0]))]) [1] (by decide) rfl
        have hKc := hK.sub (tys' := []) [] rfl
        have hFc := va_free (wc := [(k0, .inr (10, [.ref kN, .ref kA, .ref kO, .ref kK, .ref kV, .ref kG, .ref kP, .ref kC, .ref kD, .ref kE, .ref kF, .ref kX, .ref kY, .int 0, .ref kT, .ref kU, .int 1, .int 0, .int 0]))]) hD hS hA [1] rfl
        refine va_calli (va_runV (As := []) (rest := []) ⟨hx, hb, hml, hown, hts⟩ (kX7_thrown l dC dI k0 kN kA kO kK kV kG kP kC kD kE kF kX kY kT kU 1 H.size) (cwV 0 hts gL_law_X7_thrown rfl rfl rfl (by decide +kernel) ⟨Nat.le_of_ble_eq_true rfl, Nat.le_of_ble_eq_true rfl⟩) (fPreV hN hZ hS (fun q h => hFc q h) hPc hKc hDc (ci := 10) (q0 := 0) rfl rfl) rfl rfl hl.1 rfl (lv_room (Nat.le_of_ble_eq_true rfl)) dL_law_2615 ⟨Nat.le_of_ble_eq_true rfl, Nat.le_of_ble_eq_true rfl⟩) hS (fun q _ h => hFc q h) hFc (fun r u t H1 locs ht hvm hw hB hz1 hk1 hS => ?_)
        obtain ⟨hP1, hK1, hD1⟩ := hB
        rw [ht] at hP1
        have hK1 := va_K.moved hvm.symm hK1
        obtain ⟨hP, hD⟩ := va_join (wr := [(oD, .inl (cO, 1, .inr (.inr (.inr (.inl u2)))))]) (w1 := []) hP hD [1] [0] rfl rfl (by decide) (by decide) hk1 hFc hP1 hD1
        generalize H1 = H at hP hS ⊢
        have hP : va_P (dC, dI) vwCl [(oD, .inl (cO, 1, .inr (.inr (.inr (.inl u2)))))] _ := hP
        have hD : va_D A [(oD, .inl (cO, 1, .inr (.inr (.inr (.inl u2)))))] := hD
        subst hw
        refine lv_iload hx hb dL_law_2618 (lv_at hl 1 rfl) ?_
        refine lv_icmp_eq (tgt := 2625) hx hb dL_law_2620 (by decide) (fun _ => ?_) (fun h9 => absurd (by decide) h9)
        refine lv_iload hx hb dL_law_2625 (lv_at hl 1 rfl) ?_
        refine lv_if_ne (tgt := 2662) hx hb dL_law_2627 (by decide) (fun _ => ?_) (fun h9 => absurd h9 (by decide))
        refine lv_goto (tgt := 2720) hx hb dL_law_2662 (by decide) ?_
        refine lv_iinc (v := 7) (lv' := [(5, .int 7), (7, .double r6), (6, .int 1), (4, .ref oD), (3, .ref oJ), (2, .ref k0), (1, .ref h0), (0, .ref b)]) hx hb dL_law_2720 hl (k := 2) rfl (by decide) (Nat.le_of_ble_eq_true rfl) rfl (fun ls hl => ?_)
        refine lv_goto (tgt := 28) hx hb dL_law_2723 (by decide) ?_
        refine lv_iload hx hb dL_law_28 (lv_at hl 0 rfl) ?_
        refine lv_aload_n hx hb dL_law_30 rfl (lv_at hl 7 rfl) ?_
        refine va_slen hx hb hX9 hbl hbA hS dL_law_31 ?_
        refine W.eq (g2 := F0 m 32 ls [.int 7, .int 7]) rfl ?_
        refine lv_bipush (v := 7) hx hb dL_law_32 (by decide) ?_
        refine lv_isub hx hb dL_law_34 ?_
        refine lv_topi (fun y7 ey7 => ?_)
        obtain rfl : y7 = 0 := ey7.trans (by decide)
        refine lv_icmp_gt (tgt := 2726) hx hb dL_law_35 (by decide) (fun _ => ?_) (fun h9 => absurd (by decide) h9)
        refine lv_iconst (v := 1) hx hb dL_law_2726 (by decide) ?_
        refine va_forget (fun q hq => hAe _ (hS.2.2 q hq)) ?_
        refine W.widen (k := 603072) (n := 7198826) (Nat.le_of_ble_eq_true rfl) (Nat.le_of_ble_eq_true rfl) ?_
        exact W.base (lw_ret (d0 := s.drawn) (Drawn.sameBut.refl _ _) hx hb hr hlk dL_law_2727)
      · skip
        exact absurd hg9 (hf3)
    · skip
      have hf8 := hf9
      refine lv_istore (lv' := [(6, .int 2), (5, .int 0), (4, .ref oD), (3, .ref oJ), (2, .ref k0), (1, .ref h0), (0, .ref b)]) hx hb dL_law_2600 hl (Nat.le_of_ble_eq_true rfl) rfl (fun ls hl => ?_)
      refine lv_aload_n hx hb dL_law_2602 rfl (lv_at hl 4 rfl) ?_
      refine lv_aload_n hx hb dL_law_2603 rfl (lv_at hl 6 rfl) ?_
      refine lv_iload hx hb dL_law_2604 (lv_at hl 1 rfl) ?_
      refine lv_iconst (v := 1) hx hb dL_law_2606 (by decide) ?_
      refine lv_iadd hx hb dL_law_2607 ?_
      refine lv_topi (fun y9 ey9 => ?_)
      obtain rfl : y9 = 1 := ey9.trans (by decide)
      refine va_sld hx hb hX9 hbl hbA hS (show ¬ (_ ∨ _) by decide) dL_law_2608 ?_
      refine W.eq (g2 := F0 m 2609 ls [.int (xs 1), .ref k0]) rfl ?_
      have hPc := hP.sub (ws' := [(k0, .inr (10, [.ref kN, .ref kA, .ref kO, .ref kK, .ref kV, .ref kG, .ref kP, .ref kC, .ref kD, .ref kE, .ref kF, .ref kX, .ref kY, .int 0, .ref kT, .ref kU, .int 0, .int 0, .int 0])), (kN, .inl (cI, 2, .inl (fun _ => 0))), (kA, .inl (cI, 2, .inl (fun _ => 0)))]) [0, 1, 2] rfl
      have hDc := hD.sub (ws' := [(k0, .inr (10, [.ref kN, .ref kA, .ref kO, .ref kK, .ref kV, .ref kG, .ref kP, .ref kC, .ref kD, .ref kE, .ref kF, .ref kX, .ref kY, .int 0, .ref kT, .ref kU, .int 0, .int 0, .int 0])), (kN, .inl (cI, 2, .inl (fun _ => 0))), (kA, .inl (cI, 2, .inl (fun _ => 0)))]) [0, 1, 2] (by decide) rfl
      have hKc := hK.sub (tys' := [(cI, .int)]) [0] rfl
      have hFc := va_free (wc := [(k0, .inr (10, [.ref kN, .ref kA, .ref kO, .ref kK, .ref kV, .ref kG, .ref kP, .ref kC, .ref kD, .ref kE, .ref kF, .ref kX, .ref kY, .int 0, .ref kT, .ref kU, .int 0, .int 0, .int 0])), (kN, .inl (cI, 2, .inl (fun _ => 0))), (kA, .inl (cI, 2, .inl (fun _ => 0)))]) hD hS hA [0, 1, 2] rfl
      refine va_calld (va_runV (As := [.int (xs 1)]) (rest := []) ⟨hx, hb, hml, hown, hts⟩ (kX7_meanDistance l dC dI k0 kN kA kO kK kV kG kP kC kD kE kF kX kY kT kU cI (xs 1) H.size) (cwV 1 hts gL_law_X7_meanDistance rfl rfl rfl (by decide +kernel) ⟨Nat.le_of_ble_eq_true rfl, Nat.le_of_ble_eq_true rfl⟩) (fPreV hN hZ hS (fun q h => hFc q h) hPc hKc hDc (ci := 10) (q0 := 0) rfl rfl) rfl rfl hl.1 rfl (lv_room (Nat.le_of_ble_eq_true rfl)) dL_law_2609 ⟨Nat.le_of_ble_eq_true rfl, Nat.le_of_ble_eq_true rfl⟩) hS (fun q _ h => hFc q h) hFc (fun r u t H1 locs ht hvm hw hB hz1 hk1 hS => ?_)
      obtain ⟨hP1, hK1, hD1⟩ := hB
      rw [ht] at hP1
      have hK1 := va_K.moved hvm.symm hK1
      obtain ⟨u10, rfl⟩ : ∃ z, z = u := ⟨_, rfl⟩
      obtain ⟨hP, hD⟩ := va_join (wr := [(oD, .inl (cO, 1, .inr (.inr (.inr (.inl u2)))))]) (w1 := [(k0, .inr (10, [.ref kN, .ref kA, .ref kO, .ref kK, .ref kV, .ref kG, .ref kP, .ref kC, .ref kD, .ref kE, .ref kF, .ref kX, .ref kY, .int 0, .ref kT, .ref kU, .int u10, .int 0, .int 0]))]) hP hD [0, 1, 2] [3] rfl rfl (by decide) (by decide) hk1 hFc hP1 hD1
      generalize H1 = H at hP hS ⊢
      have hP : va_P (dC, dI) vwCl [(oD, .inl (cO, 1, .inr (.inr (.inr (.inl u2))))), (k0, .inr (10, [.ref kN, .ref kA, .ref kO, .ref kK, .ref kV, .ref kG, .ref kP, .ref kC, .ref kD, .ref kE, .ref kF, .ref kX, .ref kY, .int 0, .ref kT, .ref kU, .int u10, .int 0, .int 0]))] _ := hP
      have hD : va_D A [(oD, .inl (cO, 1, .inr (.inr (.inr (.inl u2))))), (k0, .inr (10, [.ref kN, .ref kA, .ref kO, .ref kK, .ref kV, .ref kG, .ref kP, .ref kC, .ref kD, .ref kE, .ref kF, .ref kX, .ref kY, .int 0, .ref kT, .ref kU, .int u10, .int 0, .int 0]))] := hD
      obtain ⟨r11, rfl⟩ : ∃ z, z = r := ⟨_, rfl⟩
      rcases hw with ⟨rfl, hg9⟩ | ⟨rfl, hg9⟩
      · skip
        exact absurd hg9 ((fun h9 => h9 (hf8)))
      · skip
        have hP : va_P (dC, dI) vwCl [(oD, .inl (cO, 1, .inr (.inr (.inr (.inl u2))))), (k0, .inr (10, [.ref kN, .ref kA, .ref kO, .ref kK, .ref kV, .ref kG, .ref kP, .ref kC, .ref kD, .ref kE, .ref kF, .ref kX, .ref kY, .int 0, .ref kT, .ref kU, .int 2, .int 0, .int 0]))] _ := hP
        have hD : va_D A [(oD, .inl (cO, 1, .inr (.inr (.inr (.inl u2))))), (k0, .inr (10, [.ref kN, .ref kA, .ref kO, .ref kK, .ref kV, .ref kG, .ref kP, .ref kC, .ref kD, .ref kE, .ref kF, .ref kX, .ref kY, .int 0, .ref kT, .ref kU, .int 2, .int 0, .int 0]))] := hD
        refine lv_dstore (lv' := [(7, .double r11), (6, .int 2), (5, .int 0), (4, .ref oD), (3, .ref oJ), (2, .ref k0), (1, .ref h0), (0, .ref b)]) hx hb dL_law_2612 hl (Nat.le_of_ble_eq_true rfl) rfl (fun ls hl => ?_)
        refine lv_aload_n hx hb dL_law_2614 rfl (lv_at hl 5 rfl) ?_
        have hPc := hP.sub (ws' := [(k0, .inr (10, [.ref kN, .ref kA, .ref kO, .ref kK, .ref kV, .ref kG, .ref kP, .ref kC, .ref kD, .ref kE, .ref kF, .ref kX, .ref kY, .int 0, .ref kT, .ref kU, .int 2, .int 0, .int 0]))]) [1] rfl
        have hDc := hD.sub (ws' := [(k0, .inr (10, [.ref kN, .ref kA, .ref kO, .ref kK, .ref kV, .ref kG, .ref kP, .ref kC, .ref kD, .ref kE, .ref kF, .ref kX, .ref kY, .int 0, .ref kT, .ref kU, .int 2, .int 0, .int 0]))]) [1] (by decide) rfl
        have hKc := hK.sub (tys' := []) [] rfl
        have hFc := va_free (wc := [(k0, .inr (10, [.ref kN, .ref kA, .ref kO, .ref kK, .ref kV, .ref kG, .ref kP, .ref kC, .ref kD, .ref kE, .ref kF, .ref kX, .ref kY, .int 0, .ref kT, .ref kU, .int 2, .int 0, .int 0]))]) hD hS hA [1] rfl
        refine va_calli (va_runV (As := []) (rest := []) ⟨hx, hb, hml, hown, hts⟩ (kX7_thrown l dC dI k0 kN kA kO kK kV kG kP kC kD kE kF kX kY kT kU 2 H.size) (cwV 0 hts gL_law_X7_thrown rfl rfl rfl (by decide +kernel) ⟨Nat.le_of_ble_eq_true rfl, Nat.le_of_ble_eq_true rfl⟩) (fPreV hN hZ hS (fun q h => hFc q h) hPc hKc hDc (ci := 10) (q0 := 0) rfl rfl) rfl rfl hl.1 rfl (lv_room (Nat.le_of_ble_eq_true rfl)) dL_law_2615 ⟨Nat.le_of_ble_eq_true rfl, Nat.le_of_ble_eq_true rfl⟩) hS (fun q _ h => hFc q h) hFc (fun r u t H1 locs ht hvm hw hB hz1 hk1 hS => ?_)
        obtain ⟨hP1, hK1, hD1⟩ := hB
        rw [ht] at hP1
        have hK1 := va_K.moved hvm.symm hK1
        obtain ⟨hP, hD⟩ := va_join (wr := [(oD, .inl (cO, 1, .inr (.inr (.inr (.inl u2)))))]) (w1 := []) hP hD [1] [0] rfl rfl (by decide) (by decide) hk1 hFc hP1 hD1
        generalize H1 = H at hP hS ⊢
        have hP : va_P (dC, dI) vwCl [(oD, .inl (cO, 1, .inr (.inr (.inr (.inl u2)))))] _ := hP
        have hD : va_D A [(oD, .inl (cO, 1, .inr (.inr (.inr (.inl u2)))))] := hD
        subst hw
        refine lv_iload hx hb dL_law_2618 (lv_at hl 1 rfl) ?_
        refine lv_icmp_eq (tgt := 2625) hx hb dL_law_2620 (by decide) (fun _ => ?_) (fun h9 => absurd (by decide) h9)
        refine lv_iload hx hb dL_law_2625 (lv_at hl 1 rfl) ?_
        refine lv_if_ne (tgt := 2662) hx hb dL_law_2627 (by decide) (fun _ => ?_) (fun h9 => absurd h9 (by decide))
        refine lv_goto (tgt := 2720) hx hb dL_law_2662 (by decide) ?_
        refine lv_iinc (v := 7) (lv' := [(5, .int 7), (7, .double r11), (6, .int 2), (4, .ref oD), (3, .ref oJ), (2, .ref k0), (1, .ref h0), (0, .ref b)]) hx hb dL_law_2720 hl (k := 2) rfl (by decide) (Nat.le_of_ble_eq_true rfl) rfl (fun ls hl => ?_)
        refine lv_goto (tgt := 28) hx hb dL_law_2723 (by decide) ?_
        refine lv_iload hx hb dL_law_28 (lv_at hl 0 rfl) ?_
        refine lv_aload_n hx hb dL_law_30 rfl (lv_at hl 7 rfl) ?_
        refine va_slen hx hb hX9 hbl hbA hS dL_law_31 ?_
        refine W.eq (g2 := F0 m 32 ls [.int 7, .int 7]) rfl ?_
        refine lv_bipush (v := 7) hx hb dL_law_32 (by decide) ?_
        refine lv_isub hx hb dL_law_34 ?_
        refine lv_topi (fun y12 ey12 => ?_)
        obtain rfl : y12 = 0 := ey12.trans (by decide)
        refine lv_icmp_gt (tgt := 2726) hx hb dL_law_35 (by decide) (fun _ => ?_) (fun h9 => absurd (by decide) h9)
        refine lv_iconst (v := 1) hx hb dL_law_2726 (by decide) ?_
        refine va_forget (fun q hq => hAe _ (hS.2.2 q hq)) ?_
        refine W.widen (k := 603072) (n := 7198826) (Nat.le_of_ble_eq_true rfl) (Nat.le_of_ble_eq_true rfl) ?_
        exact W.base (lw_ret (d0 := s.drawn) (Drawn.sameBut.refl _ _) hx hb hr hlk dL_law_2727)

set_option maxHeartbeats 4000000 in
set_option maxRecDepth 100000 in
/-- case 40 of the law: valueSum, on fresh objects -/
theorem lc_40 {p : Program} {e : Env} {s : State} {m : MethodId} {below : List Frame} {meth : Method} {c : Code} (l : Launch) (hfl : l.stackTraces = false) {b : Nat} {xs : Nat → Int32} (hx : p.tables.exec = Jvm.exec) (hb : c.code = cL_law) (hr : meth.sig.returnType = ret) (hml : c.maxLocals = 9) (hown : s.vm.findClass RL = some m.cls) (hts : ∀ w ∈ wsL_law, w.before #[Value.ref b] s = true) (hlk : meth.locks = false) (A : Nat → Prop) (hAe : ∀ q, A q → s.heap.size ≤ q) (hA : ∀ q : Nat, s.heap.size ≤ q → A q) (hX9 : va_X b 7 xs s s.heap) (hbl : b < s.heap.size) (hN : fN s) (hZ : fZ A s s.heap) (hX : fX s) (dC : Nat → ClassId) (dI : Nat → Nat → Nat) (h0 w d wL wP wS dL dP dS co un ma tm k0 kN kA kO kK kV kG kP kC kD kE kF kX kY kT kU oJ oD : Nat) (cI cJ : ClassId) {H : Heap} {locs : List Loc} {ls : Array Slot} (hK : va_K (dC, dI) vwCl [(cI, .int), (cJ, .long)] s) (hP : va_P (dC, dI) vwCl [(h0, .inr (9, [.ref w, .ref d, .ref co, .ref un, .ref ma, .ref tm, .int 0, .int 0, .int 0])), (w, .inr (3, [.int 0, .int 0, .ref wL, .ref wP, .ref wS])), (d, .inr (3, [.int 0, .int 0, .ref dL, .ref dP, .ref dS])), (k0, .inr (10, [.ref kN, .ref kA, .ref kO, .ref kK, .ref kV, .ref kG, .ref kP, .ref kC, .ref kD, .ref kE, .ref kF, .ref kX, .ref kY, .int 0, .ref kT, .ref kU, .int 0, .int 0, .int 0])), (kN, .inl (cI, 2, .inl (fun _ => 0))), (kA, .inl (cI, 2, .inl (fun _ => 0))), (oJ, .inl (cJ, 1, .inr (.inl (fun _ => 0))))] H) (hD : va_D A [(h0, .inr (9, [.ref w, .ref d, .ref co, .ref un, .ref ma, .ref tm, .int 0, .int 0, .int 0])), (w, .inr (3, [.int 0, .int 0, .ref wL, .ref wP, .ref wS])), (d, .inr (3, [.int 0, .int 0, .ref dL, .ref dP, .ref dS])), (k0, .inr (10, [.ref kN, .ref kA, .ref kO, .ref kK, .ref kV, .ref kG, .ref kP, .ref kC, .ref kD, .ref kE, .ref kF, .ref kX, .ref kY, .int 0, .ref kT, .ref kU, .int 0, .int 0, .int 0])), (kN, .inl (cI, 2, .inl (fun _ => 0))), (kA, .inl (cI, 2, .inl (fun _ => 0))), (oJ, .inl (cJ, 1, .inr (.inl (fun _ => 0))))]) (hS : va_S A s.heap H locs) (hl : lv_has ls 9 [(5, .int 0), (4, .ref oD), (3, .ref oJ), (2, .ref k0), (1, .ref h0), (0, .ref b)]) : W p l e room_1 s m #[Value.ref b] below meth c H locs 148 2317 (lw_Z below #[Value.ref b] s) (F0 m 2665 ls []) := by
  have hbA : ¬ A b := fun h => Nat.not_le.mpr hbl (hAe _ h)
  have hX0 := hX
  refine lv_aload_n hx hb dL_law_2665 rfl (lv_at hl 4 rfl) ?_
  refine lv_aload_n hx hb dL_law_2666 rfl (lv_at hl 5 rfl) ?_
  refine lv_iload hx hb dL_law_2667 (lv_at hl 0 rfl) ?_
  refine lv_iconst (v := 1) hx hb dL_law_2669 (by decide) ?_
  refine lv_iadd hx hb dL_law_2670 ?_
  refine lv_topi (fun y1 ey1 => ?_)
  obtain rfl : y1 = 1 := ey1.trans (by decide)
  refine va_sld hx hb hX9 hbl hbA hS (show ¬ (_ ∨ _) by decide) dL_law_2671 ?_
  refine W.eq (g2 := F0 m 2672 ls [.int (xs 1), .ref h0]) rfl ?_
  refine lv_aload_n hx hb dL_law_2672 rfl (lv_at hl 2 rfl) ?_
  have hPc := hP.sub (ws' := [(h0, .inr (9, [.ref w, .ref d, .ref co, .ref un, .ref ma, .ref tm, .int 0, .int 0, .int 0])), (w, .inr (3, [.int 0, .int 0, .ref wL, .ref wP, .ref wS])), (d, .inr (3, [.int 0, .int 0, .ref dL, .ref dP, .ref dS])), (oJ, .inl (cJ, 1, .inr (.inl (fun _ => 0))))]) [0, 1, 2, 6] rfl
  have hDc := hD.sub (ws' := [(h0, .inr (9, [.ref w, .ref d, .ref co, .ref un, .ref ma, .ref tm, .int 0, .int 0, .int 0])), (w, .inr (3, [.int 0, .int 0, .ref wL, .ref wP, .ref wS])), (d, .inr (3, [.int 0, .int 0, .ref dL, .ref dP, .ref dS])), (oJ, .inl (cJ, 1, .inr (.inl (fun _ => 0))))]) [0, 1, 2, 6] (by decide) rfl
  have hKc := hK.sub (tys' := [(cJ, .long)]) [1] rfl
  have hFc := va_free (wc := [(h0, .inr (9, [.ref w, .ref d, .ref co, .ref un, .ref ma, .ref tm, .int 0, .int 0, .int 0])), (w, .inr (3, [.int 0, .int 0, .ref wL, .ref wP, .ref wS])), (d, .inr (3, [.int 0, .int 0, .ref dL, .ref dP, .ref dS])), (oJ, .inl (cJ, 1, .inr (.inl (fun _ => 0))))]) hD hS hA [0, 1, 2, 6] rfl
  refine vx_calli (vx_runSX (As := [.ref h0, .int (xs 1), .ref oJ]) (rest := []) ⟨hx, hb, hml, hown, hts⟩ (kL_valueSum l hfl dC dI h0 w d co un ma tm wL wP wS dL dP dS oJ cJ (xs 1) H.size) (vx_cwSW 3 hts gL_law_L_valueSum rfl rfl rfl (by decide +kernel) ⟨Nat.le_of_ble_eq_true rfl, Nat.le_of_ble_eq_true rfl⟩) (gPreS hX hN hZ hS (fun q h => hFc q h) hPc hKc hDc) rfl rfl hl.1 rfl (lv_room (Nat.le_of_ble_eq_true rfl)) dL_law_2673 ⟨Nat.le_of_ble_eq_true rfl, Nat.le_of_ble_eq_true rfl⟩) hS (fun q _ h => hFc q h) hFc (fun q _ h => hFc q h) (fun E ce q9 u t H locs ht hvm hpx hE hz1 hk1 hS hq9 hv9 hc9 => ?_) (fun r u t H1 locs ht hvm hw hB hz1 hk1 hS => ?_)
  · skip
    exact hE.elim
  · skip
    obtain ⟨hP1, hK1, hD1⟩ := hB
    rw [ht] at hP1
    have hK1 := va_K.moved hvm.symm hK1
    obtain ⟨u2, rfl⟩ : ∃ z, z = u := ⟨_, rfl⟩
    obtain ⟨hP, hD⟩ := va_join (wr := [(k0, .inr (10, [.ref kN, .ref kA, .ref kO, .ref kK, .ref kV, .ref kG, .ref kP, .ref kC, .ref kD, .ref kE, .ref kF, .ref kX, .ref kY, .int 0, .ref kT, .ref kU, .int 0, .int 0, .int 0])), (kN, .inl (cI, 2, .inl (fun _ => 0))), (kA, .inl (cI, 2, .inl (fun _ => 0)))]) (w1 := [(oJ, .inl (cJ, 1, .inr (.inl u2)))]) hP hD [0, 1, 2, 6] [3, 4, 5] rfl rfl (by decide) (by decide) hk1 hFc hP1 hD1
    generalize H1 = H at hP hS ⊢
    have hP : va_P (dC, dI) vwCl [(k0, .inr (10, [.ref kN, .ref kA, .ref kO, .ref kK, .ref kV, .ref kG, .ref kP, .ref kC, .ref kD, .ref kE, .ref kF, .ref kX, .ref kY, .int 0, .ref kT, .ref kU, .int 0, .int 0, .int 0])), (kN, .inl (cI, 2, .inl (fun _ => 0))), (kA, .inl (cI, 2, .inl (fun _ => 0))), (oJ, .inl (cJ, 1, .inr (.inl u2)))] _ := hP
    have hD : va_D A [(k0, .inr (10, [.ref kN, .ref kA, .ref kO, .ref kK, .ref kV, .ref kG, .ref kP, .ref kC, .ref kD, .ref kE, .ref kF, .ref kX, .ref kY, .int 0, .ref kT, .ref kU, .int 0, .int 0, .int 0])), (kN, .inl (cI, 2, .inl (fun _ => 0))), (kA, .inl (cI, 2, .inl (fun _ => 0))), (oJ, .inl (cJ, 1, .inr (.inl u2)))] := hD
    refine W.widen (k := 149) (n := 2323) (Nat.le_of_ble_eq_true rfl) (Nat.le_of_ble_eq_true rfl) ?_
    rcases hw with ⟨rfl, hu0, hf9⟩ | ⟨rfl, hf9⟩
    · skip
      have hf3 := hf9
      refine lv_istore (lv' := [(6, .int 0), (5, .int 0), (4, .ref oD), (3, .ref oJ), (2, .ref k0), (1, .ref h0), (0, .ref b)]) hx hb dL_law_2676 hl (Nat.le_of_ble_eq_true rfl) rfl (fun ls hl => ?_)
      refine lv_aload_n hx hb dL_law_2678 rfl (lv_at hl 4 rfl) ?_
      refine lv_aload_n hx hb dL_law_2679 rfl (lv_at hl 6 rfl) ?_
      refine lv_iload hx hb dL_law_2680 (lv_at hl 1 rfl) ?_
      refine lv_iconst (v := 1) hx hb dL_law_2682 (by decide) ?_
      refine lv_iadd hx hb dL_law_2683 ?_
      refine lv_topi (fun y4 ey4 => ?_)
      obtain rfl : y4 = 1 := ey4.trans (by decide)
      refine va_sld hx hb hX9 hbl hbA hS (show ¬ (_ ∨ _) by decide) dL_law_2684 ?_
      refine W.eq (g2 := F0 m 2685 ls [.int (xs 1), .ref k0]) rfl ?_
      have hPc := hP.sub (ws' := [(k0, .inr (10, [.ref kN, .ref kA, .ref kO, .ref kK, .ref kV, .ref kG, .ref kP, .ref kC, .ref kD, .ref kE, .ref kF, .ref kX, .ref kY, .int 0, .ref kT, .ref kU, .int 0, .int 0, .int 0])), (kN, .inl (cI, 2, .inl (fun _ => 0))), (kA, .inl (cI, 2, .inl (fun _ => 0)))]) [0, 1, 2] rfl
      have hDc := hD.sub (ws' := [(k0, .inr (10, [.ref kN, .ref kA, .ref kO, .ref kK, .ref kV, .ref kG, .ref kP, .ref kC, .ref kD, .ref kE, .ref kF, .ref kX, .ref kY, .int 0, .ref kT, .ref kU, .int 0, .int 0, .int 0])), (kN, .inl (cI, 2, .inl (fun _ => 0))), (kA, .inl (cI, 2, .inl (fun _ => 0)))]) [0, 1, 2] (by decide) rfl
      have hKc := hK.sub (tys' := [(cI, .int)]) [0] rfl
      have hFc := va_free (wc := [(k0, .inr (10, [.ref kN, .ref kA, .ref kO, .ref kK, .ref kV, .ref kG, .ref kP, .ref kC, .ref kD, .ref kE, .ref kF, .ref kX, .ref kY, .int 0, .ref kT, .ref kU, .int 0, .int 0, .int 0])), (kN, .inl (cI, 2, .inl (fun _ => 0))), (kA, .inl (cI, 2, .inl (fun _ => 0)))]) hD hS hA [0, 1, 2] rfl
      refine va_calll (va_runV (As := [.int (xs 1)]) (rest := []) ⟨hx, hb, hml, hown, hts⟩ (kX7_valueSum l dC dI k0 kN kA kO kK kV kG kP kC kD kE kF kX kY kT kU cI (xs 1) H.size) (cwV 1 hts gL_law_X7_valueSum rfl rfl rfl (by decide +kernel) ⟨Nat.le_of_ble_eq_true rfl, Nat.le_of_ble_eq_true rfl⟩) (fPreV hN hZ hS (fun q h => hFc q h) hPc hKc hDc (ci := 10) (q0 := 0) rfl rfl) rfl rfl hl.1 rfl (lv_room (Nat.le_of_ble_eq_true rfl)) dL_law_2685 ⟨Nat.le_of_ble_eq_true rfl, Nat.le_of_ble_eq_true rfl⟩) hS (fun q _ h => hFc q h) hFc (fun r u t H1 locs ht hvm hw hB hz1 hk1 hS => ?_)
      obtain ⟨hP1, hK1, hD1⟩ := hB
      rw [ht] at hP1
      have hK1 := va_K.moved hvm.symm hK1
      obtain ⟨u5, rfl⟩ : ∃ z, z = u := ⟨_, rfl⟩
      obtain ⟨hP, hD⟩ := va_join (wr := [(oJ, .inl (cJ, 1, .inr (.inl u2)))]) (w1 := [(k0, .inr (10, [.ref kN, .ref kA, .ref kO, .ref kK, .ref kV, .ref kG, .ref kP, .ref kC, .ref kD, .ref kE, .ref kF, .ref kX, .ref kY, .int 0, .ref kT, .ref kU, .int u5, .int 0, .int 0]))]) hP hD [0, 1, 2] [3] rfl rfl (by decide) (by decide) hk1 hFc hP1 hD1
      generalize H1 = H at hP hS ⊢
      have hP : va_P (dC, dI) vwCl [(oJ, .inl (cJ, 1, .inr (.inl u2))), (k0, .inr (10, [.ref kN, .ref kA, .ref kO, .ref kK, .ref kV, .ref kG, .ref kP, .ref kC, .ref kD, .ref kE, .ref kF, .ref kX, .ref kY, .int 0, .ref kT, .ref kU, .int u5, .int 0, .int 0]))] _ := hP
      have hD : va_D A [(oJ, .inl (cJ, 1, .inr (.inl u2))), (k0, .inr (10, [.ref kN, .ref kA, .ref kO, .ref kK, .ref kV, .ref kG, .ref kP, .ref kC, .ref kD, .ref kE, .ref kF, .ref kX, .ref kY, .int 0, .ref kT, .ref kU, .int u5, .int 0, .int 0]))] := hD
      obtain ⟨r6, rfl⟩ : ∃ z, z = r := ⟨_, rfl⟩
      rcases hw with ⟨rfl, rfl, hg9⟩ | ⟨rfl, hg9⟩
      · skip
        have hP : va_P (dC, dI) vwCl [(oJ, .inl (cJ, 1, .inr (.inl u2))), (k0, .inr (10, [.ref kN, .ref kA, .ref kO, .ref kK, .ref kV, .ref kG, .ref kP, .ref kC, .ref kD, .ref kE, .ref kF, .ref kX, .ref kY, .int 0, .ref kT, .ref kU, .int 0, .int 0, .int 0]))] _ := hP
        have hD : va_D A [(oJ, .inl (cJ, 1, .inr (.inl u2))), (k0, .inr (10, [.ref kN, .ref kA, .ref kO, .ref kK, .ref kV, .ref kG, .ref kP, .ref kC, .ref kD, .ref kE, .ref kF, .ref kX, .ref kY, .int 0, .ref kT, .ref kU, .int 0, .int 0, .int 0]))] := hD
        refine lv_lstore (lv' := [(7, .long 0), (6, .int 0), (5, .int 0), (4, .ref oD), (3, .ref oJ), (2, .ref k0), (1, .ref h0), (0, .ref b)]) hx hb dL_law_2688 hl (Nat.le_of_ble_eq_true rfl) rfl (fun ls hl => ?_)
        refine lv_aload_n hx hb dL_law_2690 rfl (lv_at hl 5 rfl) ?_
        have hPc := hP.sub (ws' := [(k0, .inr (10, [.ref kN, .ref kA, .ref kO, .ref kK, .ref kV, .ref kG, .ref kP, .ref kC, .ref kD, .ref kE, .ref kF, .ref kX, .ref kY, .int 0, .ref kT, .ref kU, .int 0, .int 0, .int 0]))]) [1] rfl
        have hDc := hD.sub (ws' := [(k0, .inr (10, [.ref kN, .ref kA, .ref kO, .ref kK, .ref kV, .ref kG, .ref kP, .ref kC, .ref kD, .ref kE, .ref kF, .ref kX, .ref kY, .int 0, .ref kT, .ref kU, .int 0, .int 0, .int 0]))]) [1] (by decide) rfl
        have hKc := hK.sub (tys' := []) [] rfl
        have hFc := va_free (wc := [(k0, .inr (10, [.ref kN, .ref kA, .ref kO, .ref kK, .ref kV, .ref kG, .ref kP, .ref kC, .ref kD, .ref kE, .ref kF, .ref kX, .ref kY, .int 0, .ref kT, .ref kU, .int 0, .int 0, .int 0]))]) hD hS hA [1] rfl
        refine va_calli (va_runV (As := []) (rest := []) ⟨hx, hb, hml, hown, hts⟩ (kX7_thrown l dC dI k0 kN kA kO kK kV kG kP kC kD kE kF kX kY kT kU 0 H.size) (cwV 0 hts gL_law_X7_thrown rfl rfl rfl (by decide +kernel) ⟨Nat.le_of_ble_eq_true rfl, Nat.le_of_ble_eq_true rfl⟩) (fPreV hN hZ hS (fun q h => hFc q h) hPc hKc hDc (ci := 10) (q0 := 0) rfl rfl) rfl rfl hl.1 rfl (lv_room (Nat.le_of_ble_eq_true rfl)) dL_law_2691 ⟨Nat.le_of_ble_eq_true rfl, Nat.le_of_ble_eq_true rfl⟩) hS (fun q _ h => hFc q h) hFc (fun r u t H1 locs ht hvm hw hB hz1 hk1 hS => ?_)
        obtain ⟨hP1, hK1, hD1⟩ := hB
        rw [ht] at hP1
        have hK1 := va_K.moved hvm.symm hK1
        obtain ⟨hP, hD⟩ := va_join (wr := [(oJ, .inl (cJ, 1, .inr (.inl u2)))]) (w1 := []) hP hD [1] [0] rfl rfl (by decide) (by decide) hk1 hFc hP1 hD1
        generalize H1 = H at hP hS ⊢
        have hP : va_P (dC, dI) vwCl [(oJ, .inl (cJ, 1, .inr (.inl u2)))] _ := hP
        have hD : va_D A [(oJ, .inl (cJ, 1, .inr (.inl u2)))] := hD
        subst hw
        refine lv_iload hx hb dL_law_2694 (lv_at hl 1 rfl) ?_
        refine lv_icmp_eq (tgt := 2701) hx hb dL_law_2696 (by decide) (fun _ => ?_) (fun h9 => absurd (by decide) h9)
        refine lv_iload hx hb dL_law_2701 (lv_at hl 1 rfl) ?_
        refine lv_if_ne (tgt := 2717) hx hb dL_law_2703 (by decide) (fun h9 => absurd (by decide) h9) (fun _ => ?_)
        refine lv_aload_n hx hb dL_law_2706 rfl (lv_at hl 4 rfl) ?_
        refine lv_iconst (v := 0) hx hb dL_law_2707 (by decide) ?_
        refine va_lald hx hb hK hP 0 1 rfl rfl (show ¬ (_ ∨ _) by decide) dL_law_2708 ?_
        refine lv_topl (fun y7 ey7 => ?_)
        obtain rfl : y7 = 0 := ey7.trans hu0
        refine lv_lload hx hb dL_law_2709 (lv_at hl 0 rfl) ?_
        refine W.lcmp hx hb dL_law_2711 ?_
        refine lv_topi (fun y8 ey8 => ?_)
        obtain rfl : y8 = 0 := ey8.trans (by decide)
        refine lv_if_eq (tgt := 2717) hx hb dL_law_2712 (by decide) (fun _ => ?_) (fun h9 => absurd (by decide) h9)
        refine lv_goto (tgt := 2720) hx hb dL_law_2717 (by decide) ?_
        refine lv_iinc (v := 7) (lv' := [(5, .int 7), (7, .long 0), (6, .int 0), (4, .ref oD), (3, .ref oJ), (2, .ref k0), (1, .ref h0), (0, .ref b)]) hx hb dL_law_2720 hl (k := 2) rfl (by decide) (Nat.le_of_ble_eq_true rfl) rfl (fun ls hl => ?_)
        refine lv_goto (tgt := 28) hx hb dL_law_2723 (by decide) ?_
        refine lv_iload hx hb dL_law_28 (lv_at hl 0 rfl) ?_
        refine lv_aload_n hx hb dL_law_30 rfl (lv_at hl 7 rfl) ?_
        refine va_slen hx hb hX9 hbl hbA hS dL_law_31 ?_
        refine W.eq (g2 := F0 m 32 ls [.int 7, .int 7]) rfl ?_
        refine lv_bipush (v := 7) hx hb dL_law_32 (by decide) ?_
        refine lv_isub hx hb dL_law_34 ?_
        refine lv_topi (fun y9 ey9 => ?_)
        obtain rfl : y9 = 0 := ey9.trans (by decide)
        refine lv_icmp_gt (tgt := 2726) hx hb dL_law_35 (by decide) (fun _ => ?_) (fun h9 => absurd (by decide) h9)
        refine lv_iconst (v := 1) hx hb dL_law_2726 (by decide) ?_
        refine va_forget (fun q hq => hAe _ (hS.2.2 q hq)) ?_
        refine W.widen (k := 603072) (n := 7198826) (Nat.le_of_ble_eq_true rfl) (Nat.le_of_ble_eq_true rfl) ?_
        exact W.base (lw_ret (d0 := s.drawn) (Drawn.sameBut.refl _ _) hx hb hr hlk dL_law_2727)
      · skip
        exact absurd hg9 ((fun h9 => h9 (hf3)))
    · skip
      have hf10 := hf9
      refine lv_istore (lv' := [(6, .int 1), (5, .int 0), (4, .ref oD), (3, .ref oJ), (2, .ref k0), (1, .ref h0), (0, .ref b)]) hx hb dL_law_2676 hl (Nat.le_of_ble_eq_true rfl) rfl (fun ls hl => ?_)
      refine lv_aload_n hx hb dL_law_2678 rfl (lv_at hl 4 rfl) ?_
      refine lv_aload_n hx hb dL_law_2679 rfl (lv_at hl 6 rfl) ?_
      refine lv_iload hx hb dL_law_2680 (lv_at hl 1 rfl) ?_
      refine lv_iconst (v := 1) hx hb dL_law_2682 (by decide) ?_
      refine lv_iadd hx hb dL_law_2683 ?_
      refine lv_topi (fun y11 ey11 => ?_)
      obtain rfl : y11 = 1 := ey11.trans (by decide)
      refine va_sld hx hb hX9 hbl hbA hS (show ¬ (_ ∨ _) by decide) dL_law_2684 ?_
      refine W.eq (g2 := F0 m 2685 ls [.int (xs 1), .ref k0]) rfl ?_
      have hPc := hP.sub (ws' := [(k0, .inr (10, [.ref kN, .ref kA, .ref kO, .ref kK, .ref kV, .ref kG, .ref kP, .ref kC, .ref kD, .ref kE, .ref kF, .ref kX, .ref kY, .int 0, .ref kT, .ref kU, .int 0, .int 0, .int 0])), (kN, .inl (cI, 2, .inl (fun _ => 0))), (kA, .inl (cI, 2, .inl (fun _ => 0)))]) [0, 1, 2] rfl
      have hDc := hD.sub (ws' := [(k0, .inr (10, [.ref kN, .ref kA, .ref kO, .ref kK, .ref kV, .ref kG, .ref kP, .ref kC, .ref kD, .ref kE, .ref kF, .ref kX, .ref kY, .int 0, .ref kT, .ref kU, .int 0, .int 0, .int 0])), (kN, .inl (cI, 2, .inl (fun _ => 0))), (kA, .inl (cI, 2, .inl (fun _ => 0)))]) [0, 1, 2] (by decide) rfl
      have hKc := hK.sub (tys' := [(cI, .int)]) [0] rfl
      have hFc := va_free (wc := [(k0, .inr (10, [.ref kN, .ref kA, .ref kO, .ref kK, .ref kV, .ref kG, .ref kP, .ref kC, .ref kD, .ref kE, .ref kF, .ref kX, .ref kY, .int 0, .ref kT, .ref kU, .int 0, .int 0, .int 0])), (kN, .inl (cI, 2, .inl (fun _ => 0))), (kA, .inl (cI, 2, .inl (fun _ => 0)))]) hD hS hA [0, 1, 2] rfl
      refine va_calll (va_runV (As := [.int (xs 1)]) (rest := []) ⟨hx, hb, hml, hown, hts⟩ (kX7_valueSum l dC dI k0 kN kA kO kK kV kG kP kC kD kE kF kX kY kT kU cI (xs 1) H.size) (cwV 1 hts gL_law_X7_valueSum rfl rfl rfl (by decide +kernel) ⟨Nat.le_of_ble_eq_true rfl, Nat.le_of_ble_eq_true rfl⟩) (fPreV hN hZ hS (fun q h => hFc q h) hPc hKc hDc (ci := 10) (q0 := 0) rfl rfl) rfl rfl hl.1 rfl (lv_room (Nat.le_of_ble_eq_true rfl)) dL_law_2685 ⟨Nat.le_of_ble_eq_true rfl, Nat.le_of_ble_eq_true rfl⟩) hS (fun q _ h => hFc q h) hFc (fun r u t H1 locs ht hvm hw hB hz1 hk1 hS => ?_)
      obtain ⟨hP1, hK1, hD1⟩ := hB
      rw [ht] at hP1
      have hK1 := va_K.moved hvm.symm hK1
      obtain ⟨u12, rfl⟩ : ∃ z, z = u := ⟨_, rfl⟩
      obtain ⟨hP, hD⟩ := va_join (wr := [(oJ, .inl (cJ, 1, .inr (.inl u2)))]) (w1 := [(k0, .inr (10, [.ref kN, .ref kA, .ref kO, .ref kK, .ref kV, .ref kG, .ref kP, .ref kC, .ref kD, .ref kE, .ref kF, .ref kX, .ref kY, .int 0, .ref kT, .ref kU, .int u12, .int 0, .int 0]))]) hP hD [0, 1, 2] [3] rfl rfl (by decide) (by decide) hk1 hFc hP1 hD1
      generalize H1 = H at hP hS ⊢
      have hP : va_P (dC, dI) vwCl [(oJ, .inl (cJ, 1, .inr (.inl u2))), (k0, .inr (10, [.ref kN, .ref kA, .ref kO, .ref kK, .ref kV, .ref kG, .ref kP, .ref kC, .ref kD, .ref kE, .ref kF, .ref kX, .ref kY, .int 0, .ref kT, .ref kU, .int u12, .int 0, .int 0]))] _ := hP
      have hD : va_D A [(oJ, .inl (cJ, 1, .inr (.inl u2))), (k0, .inr (10, [.ref kN, .ref kA, .ref kO, .ref kK, .ref kV, .ref kG, .ref kP, .ref kC, .ref kD, .ref kE, .ref kF, .ref kX, .ref kY, .int 0, .ref kT, .ref kU, .int u12, .int 0, .int 0]))] := hD
      obtain ⟨r13, rfl⟩ : ∃ z, z = r := ⟨_, rfl⟩
      rcases hw with ⟨rfl, rfl, hg9⟩ | ⟨rfl, hg9⟩
      · skip
        exact absurd hg9 (hf10)
      · skip
        have hP : va_P (dC, dI) vwCl [(oJ, .inl (cJ, 1, .inr (.inl u2))), (k0, .inr (10, [.ref kN, .ref kA, .ref kO, .ref kK, .ref kV, .ref kG, .ref kP, .ref kC, .ref kD, .ref kE, .ref kF, .ref kX, .ref kY, .int 0, .ref kT, .ref kU, .int 1, .int 0, .int 0]))] _ := hP
        have hD : va_D A [(oJ, .inl (cJ, 1, .inr (.inl u2))), (k0, .inr (10, [.ref kN, .ref kA, .ref kO, .ref kK, .ref kV, .ref kG, .ref kP, .ref kC, .ref kD, .ref kE, .ref kF, .ref kX, .ref kY, .int 0, .ref kT, .ref kU, .int 1, .int 0, .int 0]))] := hD
        refine lv_lstore (lv' := [(7, .long r13), (6, .int 1), (5, .int 0), (4, .ref oD), (3, .ref oJ), (2, .ref k0), (1, .ref h0), (0, .ref b)]) hx hb dL_law_2688 hl (Nat.le_of_ble_eq_true rfl) rfl (fun ls hl => ?_)
        refine lv_aload_n hx hb dL_law_2690 rfl (lv_at hl 5 rfl) ?_
        have hPc := hP.sub (ws' := [(k0, .inr (10, [.ref kN, .ref kA, .ref kO, .ref kK, .ref kV, .ref kG, .ref kP, .ref kC, .ref kD, .ref kE, .ref kF, .ref kX, .ref kY, .int 0, .ref kT, .ref kU, .int 1, .int 0, .int 0]))]) [1] rfl
        have hDc := hD.sub (ws' := [(k0, .inr (10, [.ref kN, .ref kA, .ref kO, .ref kK, .ref kV, .ref kG, .ref kP, .ref kC, .ref kD, .ref kE, .ref kF, .ref kX, .ref kY, .int 0, .ref kT, .ref kU, .int 1, .int 0, .int 0]))]) [1] (by decide) rfl
        have hKc := hK.sub (tys' := []) [] rfl
        have hFc := va_free (wc := [(k0, .inr (10, [.ref kN, .ref kA, .ref kO, .ref kK, .ref kV, .ref kG, .ref kP, .ref kC, .ref kD, .ref kE, .ref kF, .ref kX, .ref kY, .int 0, .ref kT, .ref kU, .int 1, .int 0, .int 0]))]) hD hS hA [1] rfl
        refine va_calli (va_runV (As := []) (rest := []) ⟨hx, hb, hml, hown, hts⟩ (kX7_thrown l dC dI k0 kN kA kO kK kV kG kP kC kD kE kF kX kY kT kU 1 H.size) (cwV 0 hts gL_law_X7_thrown rfl rfl rfl (by decide +kernel) ⟨Nat.le_of_ble_eq_true rfl, Nat.le_of_ble_eq_true rfl⟩) (fPreV hN hZ hS (fun q h => hFc q h) hPc hKc hDc (ci := 10) (q0 := 0) rfl rfl) rfl rfl hl.1 rfl (lv_room (Nat.le_of_ble_eq_true rfl)) dL_law_2691 ⟨Nat.le_of_ble_eq_true rfl, Nat.le_of_ble_eq_true rfl⟩) hS (fun q _ h => hFc q h) hFc (fun r u t H1 locs ht hvm hw hB hz1 hk1 hS => ?_)
        obtain ⟨hP1, hK1, hD1⟩ := hB
        rw [ht] at hP1
        have hK1 := va_K.moved hvm.symm hK1
        obtain ⟨hP, hD⟩ := va_join (wr := [(oJ, .inl (cJ, 1, .inr (.inl u2)))]) (w1 := []) hP hD [1] [0] rfl rfl (by decide) (by decide) hk1 hFc hP1 hD1
        generalize H1 = H at hP hS ⊢
        have hP : va_P (dC, dI) vwCl [(oJ, .inl (cJ, 1, .inr (.inl u2)))] _ := hP
        have hD : va_D A [(oJ, .inl (cJ, 1, .inr (.inl u2)))] := hD
        subst hw
        refine lv_iload hx hb dL_law_2694 (lv_at hl 1 rfl) ?_
        refine lv_icmp_eq (tgt := 2701) hx hb dL_law_2696 (by decide) (fun _ => ?_) (fun h9 => absurd (by decide) h9)
        refine lv_iload hx hb dL_law_2701 (lv_at hl 1 rfl) ?_
        refine lv_if_ne (tgt := 2717) hx hb dL_law_2703 (by decide) (fun _ => ?_) (fun h9 => absurd h9 (by decide))
        refine lv_goto (tgt := 2720) hx hb dL_law_2717 (by decide) ?_
        refine lv_iinc (v := 7) (lv' := [(5, .int 7), (7, .long r13), (6, .int 1), (4, .ref oD), (3, .ref oJ), (2, .ref k0), (1, .ref h0), (0, .ref b)]) hx hb dL_law_2720 hl (k := 2) rfl (by decide) (Nat.le_of_ble_eq_true rfl) rfl (fun ls hl => ?_)
        refine lv_goto (tgt := 28) hx hb dL_law_2723 (by decide) ?_
        refine lv_iload hx hb dL_law_28 (lv_at hl 0 rfl) ?_
        refine lv_aload_n hx hb dL_law_30 rfl (lv_at hl 7 rfl) ?_
        refine va_slen hx hb hX9 hbl hbA hS dL_law_31 ?_
        refine W.eq (g2 := F0 m 32 ls [.int 7, .int 7]) rfl ?_
        refine lv_bipush (v := 7) hx hb dL_law_32 (by decide) ?_
        refine lv_isub hx hb dL_law_34 ?_
        refine lv_topi (fun y14 ey14 => ?_)
        obtain rfl : y14 = 0 := ey14.trans (by decide)
        refine lv_icmp_gt (tgt := 2726) hx hb dL_law_35 (by decide) (fun _ => ?_) (fun h9 => absurd (by decide) h9)
        refine lv_iconst (v := 1) hx hb dL_law_2726 (by decide) ?_
        refine va_forget (fun q hq => hAe _ (hS.2.2 q hq)) ?_
        refine W.widen (k := 603072) (n := 7198826) (Nat.le_of_ble_eq_true rfl) (Nat.le_of_ble_eq_true rfl) ?_
        exact W.base (lw_ret (d0 := s.drawn) (Drawn.sameBut.refl _ _) hx hb hr hlk dL_law_2727)
