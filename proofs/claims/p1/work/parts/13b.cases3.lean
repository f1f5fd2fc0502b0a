set_option maxRecDepth 20000 in
theorem gk_X5_rounds_r1 : GoodIn wsL_law wsX5_rounds_r1 := goodIn_r _ [17, 877, 878, 879, 16, 880, 881, 30, 31, 882, 40, 883, 572, 573, 29, 574, 52, 166, 167, 168, 169, 127, 46, 575] (by decide +kernel) (by decide +kernel)
set_option maxRecDepth 20000 in
theorem gk_X5_rounds_r2 : GoodIn wsL_law wsX5_rounds_r2 := goodIn_r _ [576, 577, 578, 429, 430, 431, 432, 245, 246, 247, 248, 51, 579, 580, 581, 582, 583, 584, 585, 586, 884, 885, 886, 887] (by decide +kernel) (by decide +kernel)
set_option maxRecDepth 20000 in
theorem gk_X5_rounds_r3 : GoodIn wsL_law wsX5_rounds_r3 := goodIn_r _ [35, 36, 888, 889, 890, 34, 891, 60, 892, 893, 894, 895, 896, 120, 121, 122, 897, 2, 898, 899, 900, 901, 902, 903] (by decide +kernel) (by decide +kernel)
set_option maxRecDepth 20000 in
theorem gk_X5_rounds_r4 : GoodIn wsL_law wsX5_rounds_r4 := goodIn_r _ [59, 904, 383, 384, 385, 905, 906, 907, 908, 909, 62, 910, 226, 227, 228, 229, 230, 231, 232, 49, 911, 331, 332, 333] (by decide +kernel) (by decide +kernel)
set_option maxRecDepth 20000 in
theorem gk_X5_rounds_r5 : GoodIn wsL_law wsX5_rounds_r5 := goodIn_r _ [47, 912, 913, 914, 915, 916, 917, 918, 61, 919, 920, 921, 922, 923, 924, 925, 926, 927, 928, 929, 930, 931, 932, 933] (by decide +kernel) (by decide +kernel)
set_option maxRecDepth 20000 in
theorem gk_X5_rounds_r6 : GoodIn wsL_law wsX5_rounds_r6 := goodIn_r _ [934, 935, 936, 937, 938, 939, 940, 941, 942, 943, 944, 945, 946, 947, 948, 327, 328, 329, 330, 949, 950, 951, 952, 39] (by decide +kernel) (by decide +kernel)
set_option maxRecDepth 20000 in
theorem gk_X5_rounds_r7 : GoodIn wsL_law wsX5_rounds_r7 := goodIn_r _ [953, 954, 955, 956, 957, 958, 959, 960, 961, 962, 963, 964, 965, 966, 967, 968, 969, 970, 971, 972, 973, 974, 975, 67] (by decide +kernel) (by decide +kernel)
set_option maxRecDepth 20000 in
theorem ggL_law_X5_rounds : GoodIn wsL_law wsX5_rounds := goodIn_ca (goodIn_c1 (goodIn_r _ [876] (by decide +kernel) (by decide +kernel)) (goodIn_app (goodIn_app (goodIn_app (goodIn_app (goodIn_app (goodIn_app gk_X5_rounds_r1 (goodIn_app gk_X5_rounds_r2 (goodIn_app gk_X5_rounds_r3 (goodIn_app gk_X5_rounds_r4 (goodIn_app gk_X5_rounds_r5 (goodIn_app gk_X5_rounds_r6 gk_X5_rounds_r7)))))) (goodIn_sub inlX5 (by decide +kernel))) (goodIn_sub inlX4 (by decide +kernel))) (goodIn_sub inlX0 (by decide +kernel))) (goodIn_sub inlX3 (by decide +kernel))) (goodIn_sub inlX1 (by decide +kernel)))) (goodIn_sub (fun _ h => List.mem_append_left _ (List.mem_append_left _ (List.mem_append_left _ (List.mem_append_left _ (List.mem_append_left _ (List.mem_append_left _ (List.mem_append_left _ (List.mem_append_right _ h)))))))) (by decide +kernel))
set_option maxRecDepth 20000 in
theorem gL_law_X5_rounds : GoodIn wsL_law (wsV RL 220 RX5 yX5_rounds wsX5_rounds) := goodIn_app (goodIn_of _ (by decide +kernel)) ggL_law_X5_rounds
set_option maxRecDepth 20000 in
theorem gk_X6_rounds_r1 : GoodIn wsL_law wsX6_rounds_r1 := goodIn_r _ [136, 980, 981, 982, 983, 5, 984, 90, 84, 91, 85, 86, 92, 93, 985, 986, 987, 988, 261, 262, 263, 264, 83, 88] (by decide +kernel) (by decide +kernel)
set_option maxRecDepth 20000 in
theorem gk_X6_rounds_r2 : GoodIn wsL_law wsX6_rounds_r2 := goodIn_r _ [180, 181, 182, 183, 184, 185, 186, 82, 414, 415, 416, 417, 308, 309, 310, 311, 312, 313, 314, 315, 316, 317, 318, 89] (by decide +kernel) (by decide +kernel)
set_option maxRecDepth 20000 in
theorem gk_X6_rounds_r3 : GoodIn wsL_law wsX6_rounds_r3 := goodIn_r _ [989, 990, 991, 992, 993, 687, 688, 994, 995, 996, 997, 998, 450, 434, 431, 435, 999, 1000, 1001, 1002, 1003, 1004, 1005, 1006] (by decide +kernel) (by decide +kernel)
set_option maxRecDepth 20000 in
theorem gk_X6_rounds_r4 : GoodIn wsL_law wsX6_rounds_r4 := goodIn_r _ [1007, 1008, 1009, 94, 95, 1010, 1011, 1012, 1013, 1014, 1015, 1016, 1017, 1018, 1019, 1020, 1021, 1022, 1023, 1024, 1025, 1026, 1027] (by decide +kernel) (by decide +kernel)
set_option maxRecDepth 20000 in
theorem ggL_law_X6_rounds : GoodIn wsL_law wsX6_rounds := goodIn_ca (goodIn_c1 (goodIn_r _ [979] (by decide +kernel) (by decide +kernel)) (goodIn_app (goodIn_app gk_X6_rounds_r1 (goodIn_app gk_X6_rounds_r2 (goodIn_app gk_X6_rounds_r3 gk_X6_rounds_r4))) (goodIn_sub inlX6 (by decide +kernel)))) (goodIn_sub (fun _ h => List.mem_append_left _ (List.mem_append_left _ (List.mem_append_left _ (List.mem_append_left _ (List.mem_append_left _ (List.mem_append_left _ (List.mem_append_left _ (List.mem_append_right _ h)))))))) (by decide +kernel))
set_option maxRecDepth 20000 in
theorem gL_law_X6_rounds : GoodIn wsL_law (wsV RL 223 RX6 yX6_rounds wsX6_rounds) := goodIn_app (goodIn_of _ (by decide +kernel)) ggL_law_X6_rounds
set_option maxRecDepth 20000 in
theorem gk_X5_netClasses_r1 : GoodIn wsL_law wsX5_netClasses_r1 := goodIn_r _ [17, 877, 878, 879, 16, 880, 881, 30, 31, 882, 40, 883, 572, 573, 29, 574, 52, 166, 167, 168, 169, 127, 46, 575] (by decide +kernel) (by decide +kernel)
set_option maxRecDepth 20000 in
theorem gk_X5_netClasses_r2 : GoodIn wsL_law wsX5_netClasses_r2 := goodIn_r _ [576, 577, 578, 429, 430, 431, 432, 245, 246, 247, 248, 51, 579, 580, 581, 582, 583, 584, 585, 586, 884, 885, 886, 887] (by decide +kernel) (by decide +kernel)
set_option maxRecDepth 20000 in
theorem gk_X5_netClasses_r3 : GoodIn wsL_law wsX5_netClasses_r3 := goodIn_r _ [35, 36, 888, 889, 890, 34, 891, 60, 892, 893, 894, 895, 896, 120, 121, 122, 897, 2, 898, 899, 900, 901, 902, 903] (by decide +kernel) (by decide +kernel)
set_option maxRecDepth 20000 in
theorem gk_X5_netClasses_r4 : GoodIn wsL_law wsX5_netClasses_r4 := goodIn_r _ [59, 904, 383, 384, 385, 905, 906, 907, 908, 909, 62, 910, 226, 227, 228, 229, 230, 231, 232, 49, 911, 331, 332, 333] (by decide +kernel) (by decide +kernel)
set_option maxRecDepth 20000 in
theorem gk_X5_netClasses_r5 : GoodIn wsL_law wsX5_netClasses_r5 := goodIn_r _ [47, 912, 913, 914, 915, 916, 917, 918, 61, 919, 920, 921, 922, 923, 924, 925, 926, 927, 928, 929, 930, 931, 932, 933] (by decide +kernel) (by decide +kernel)
set_option maxRecDepth 20000 in
theorem gk_X5_netClasses_r6 : GoodIn wsL_law wsX5_netClasses_r6 := goodIn_r _ [934, 935, 936, 937, 938, 939, 940, 941, 942, 943, 944, 945, 946, 947, 948, 327, 328, 329, 330, 949, 950, 951, 952, 39] (by decide +kernel) (by decide +kernel)
set_option maxRecDepth 20000 in
theorem gk_X5_netClasses_r7 : GoodIn wsL_law wsX5_netClasses_r7 := goodIn_r _ [953, 954, 955, 956, 957, 958, 959, 960, 961, 962, 963, 964, 965, 966, 967, 968, 969, 970, 971, 972, 973, 974, 975, 67] (by decide +kernel) (by decide +kernel)
set_option maxRecDepth 20000 in
theorem ggL_law_X5_netClasses : GoodIn wsL_law wsX5_netClasses := goodIn_ca (goodIn_c1 (goodIn_r _ [1031] (by decide +kernel) (by decide +kernel)) (goodIn_app (goodIn_app (goodIn_app (goodIn_app (goodIn_app (goodIn_app gk_X5_netClasses_r1 (goodIn_app gk_X5_netClasses_r2 (goodIn_app gk_X5_netClasses_r3 (goodIn_app gk_X5_netClasses_r4 (goodIn_app gk_X5_netClasses_r5 (goodIn_app gk_X5_netClasses_r6 gk_X5_netClasses_r7)))))) (goodIn_sub inlX5 (by decide +kernel))) (goodIn_sub inlX4 (by decide +kernel))) (goodIn_sub inlX3 (by decide +kernel))) (goodIn_sub inlX0 (by decide +kernel))) (goodIn_sub inlX1 (by decide +kernel)))) (goodIn_sub (fun _ h => List.mem_append_left _ (List.mem_append_left _ (List.mem_append_left _ (List.mem_append_left _ (List.mem_append_left _ (List.mem_append_left _ (List.mem_append_left _ (List.mem_append_right _ h)))))))) (by decide +kernel))
set_option maxRecDepth 20000 in
theorem gL_law_X5_netClasses : GoodIn wsL_law (wsV RL 224 RX5 yX5_netClasses wsX5_netClasses) := goodIn_app (goodIn_of _ (by decide +kernel)) ggL_law_X5_netClasses
set_option maxRecDepth 20000 in
theorem gk_X6_netClasses_r1 : GoodIn wsL_law wsX6_netClasses_r1 := goodIn_r _ [136, 90, 981, 982, 983, 5, 984, 84, 91, 85, 86, 980, 92, 93, 985, 986, 987, 988, 261, 262, 263, 264, 83, 88] (by decide +kernel) (by decide +kernel)
set_option maxRecDepth 20000 in
theorem gk_X6_netClasses_r2 : GoodIn wsL_law wsX6_netClasses_r2 := goodIn_r _ [180, 181, 182, 183, 184, 185, 186, 82, 414, 415, 416, 417, 308, 309, 310, 311, 312, 313, 314, 315, 316, 317, 318, 89] (by decide +kernel) (by decide +kernel)
set_option maxRecDepth 20000 in
theorem gk_X6_netClasses_r3 : GoodIn wsL_law wsX6_netClasses_r3 := goodIn_r _ [989, 990, 991, 992, 993, 687, 688, 994, 995, 996, 997, 998, 450, 434, 431, 435, 999, 1000, 1001, 1002, 1003, 1004, 1005, 1006] (by decide +kernel) (by decide +kernel)
set_option maxRecDepth 20000 in
theorem gk_X6_netClasses_r4 : GoodIn wsL_law wsX6_netClasses_r4 := goodIn_r _ [1007, 1008, 1009, 94, 95, 1010, 1011, 1012, 1013, 1014, 1015, 1016, 1017, 1018, 1019, 1020, 1021, 1022, 1023, 1024, 1025, 1026, 1027] (by decide +kernel) (by decide +kernel)
set_option maxRecDepth 20000 in
theorem ggL_law_X6_netClasses : GoodIn wsL_law wsX6_netClasses := goodIn_ca (goodIn_c1 (goodIn_r _ [1035] (by decide +kernel) (by decide +kernel)) (goodIn_app (goodIn_app gk_X6_netClasses_r1 (goodIn_app gk_X6_netClasses_r2 (goodIn_app gk_X6_netClasses_r3 gk_X6_netClasses_r4))) (goodIn_sub inlX6 (by decide +kernel)))) (goodIn_sub (fun _ h => List.mem_append_left _ (List.mem_append_left _ (List.mem_append_left _ (List.mem_append_left _ (List.mem_append_left _ (List.mem_append_left _ (List.mem_append_left _ (List.mem_append_right _ h)))))))) (by decide +kernel))
set_option maxRecDepth 20000 in
theorem gL_law_X6_netClasses : GoodIn wsL_law (wsV RL 227 RX6 yX6_netClasses wsX6_netClasses) := goodIn_app (goodIn_of _ (by decide +kernel)) ggL_law_X6_netClasses
set_option maxRecDepth 20000 in
theorem gk_X5_partClasses_r1 : GoodIn wsL_law wsX5_partClasses_r1 := goodIn_r _ [17, 877, 878, 879, 16, 880, 881, 30, 31, 882, 40, 883, 572, 573, 29, 574, 52, 166, 167, 168, 169, 127, 46, 575] (by decide +kernel) (by decide +kernel)
set_option maxRecDepth 20000 in
theorem gk_X5_partClasses_r2 : GoodIn wsL_law wsX5_partClasses_r2 := goodIn_r _ [576, 577, 578, 429, 430, 431, 432, 245, 246, 247, 248, 51, 579, 580, 581, 582, 583, 584, 585, 586, 884, 885, 886, 887] (by decide +kernel) (by decide +kernel)
set_option maxRecDepth 20000 in
theorem gk_X5_partClasses_r3 : GoodIn wsL_law wsX5_partClasses_r3 := goodIn_r _ [35, 36, 888, 889, 890, 34, 891, 60, 892, 893, 894, 895, 896, 120, 121, 122, 897, 2, 898, 899, 900, 901, 902, 903] (by decide +kernel) (by decide +kernel)
set_option maxRecDepth 20000 in
theorem gk_X5_partClasses_r4 : GoodIn wsL_law wsX5_partClasses_r4 := goodIn_r _ [59, 904, 383, 384, 385, 905, 906, 907, 908, 909, 62, 910, 226, 227, 228, 229, 230, 231, 232, 49, 911, 331, 332, 333] (by decide +kernel) (by decide +kernel)
set_option maxRecDepth 20000 in
theorem gk_X5_partClasses_r5 : GoodIn wsL_law wsX5_partClasses_r5 := goodIn_r _ [47, 912, 913, 914, 915, 916, 917, 918, 61, 919, 920, 921, 922, 923, 924, 925, 926, 927, 928, 929, 930, 931, 932, 933] (by decide +kernel) (by decide +kernel)
set_option maxRecDepth 20000 in
theorem gk_X5_partClasses_r6 : GoodIn wsL_law wsX5_partClasses_r6 := goodIn_r _ [934, 935, 936, 937, 938, 939, 940, 941, 942, 943, 944, 945, 946, 947, 948, 327, 328, 329, 330, 949, 950, 951, 952, 39] (by decide +kernel) (by decide +kernel)
set_option maxRecDepth 20000 in
theorem gk_X5_partClasses_r7 : GoodIn wsL_law wsX5_partClasses_r7 := goodIn_r _ [953, 954, 955, 956, 957, 958, 959, 960, 961, 962, 963, 964, 965, 966, 967, 968, 969, 970, 971, 972, 973, 974, 975, 67] (by decide +kernel) (by decide +kernel)
set_option maxRecDepth 20000 in
theorem ggL_law_X5_partClasses : GoodIn wsL_law wsX5_partClasses := goodIn_ca (goodIn_c1 (goodIn_r _ [1039] (by decide +kernel) (by decide +kernel)) (goodIn_app (goodIn_app (goodIn_app (goodIn_app (goodIn_app (goodIn_app gk_X5_partClasses_r1 (goodIn_app gk_X5_partClasses_r2 (goodIn_app gk_X5_partClasses_r3 (goodIn_app gk_X5_partClasses_r4 (goodIn_app gk_X5_partClasses_r5 (goodIn_app gk_X5_partClasses_r6 gk_X5_partClasses_r7)))))) (goodIn_sub inlX5 (by decide +kernel))) (goodIn_sub inlX4 (by decide +kernel))) (goodIn_sub inlX3 (by decide +kernel))) (goodIn_sub inlX0 (by decide +kernel))) (goodIn_sub inlX1 (by decide +kernel)))) (goodIn_sub (fun _ h => List.mem_append_left _ (List.mem_append_left _ (List.mem_append_left _ (List.mem_append_left _ (List.mem_append_left _ (List.mem_append_left _ (List.mem_append_left _ (List.mem_append_right _ h)))))))) (by decide +kernel))
set_option maxRecDepth 20000 in
theorem gL_law_X5_partClasses : GoodIn wsL_law (wsV RL 228 RX5 yX5_partClasses wsX5_partClasses) := goodIn_app (goodIn_of _ (by decide +kernel)) ggL_law_X5_partClasses
set_option maxRecDepth 20000 in
theorem gk_X6_partClasses_r1 : GoodIn wsL_law wsX6_partClasses_r1 := goodIn_r _ [136, 91, 981, 982, 983, 5, 984, 90, 84, 85, 86, 980, 92, 93, 985, 986, 987, 988, 261, 262, 263, 264, 83, 88] (by decide +kernel) (by decide +kernel)
set_option maxRecDepth 20000 in
theorem gk_X6_partClasses_r2 : GoodIn wsL_law wsX6_partClasses_r2 := goodIn_r _ [180, 181, 182, 183, 184, 185, 186, 82, 414, 415, 416, 417, 308, 309, 310, 311, 312, 313, 314, 315, 316, 317, 318, 89] (by decide +kernel) (by decide +kernel)
set_option maxRecDepth 20000 in
theorem gk_X6_partClasses_r3 : GoodIn wsL_law wsX6_partClasses_r3 := goodIn_r _ [989, 990, 991, 992, 993, 687, 688, 994, 995, 996, 997, 998, 450, 434, 431, 435, 999, 1000, 1001, 1002, 1003, 1004, 1005, 1006] (by decide +kernel) (by decide +kernel)
set_option maxRecDepth 20000 in
theorem gk_X6_partClasses_r4 : GoodIn wsL_law wsX6_partClasses_r4 := goodIn_r _ [1007, 1008, 1009, 94, 95, 1010, 1011, 1012, 1013, 1014, 1015, 1016, 1017, 1018, 1019, 1020, 1021, 1022, 1023, 1024, 1025, 1026, 1027] (by decide +kernel) (by decide +kernel)
set_option maxRecDepth 20000 in
theorem ggL_law_X6_partClasses : GoodIn wsL_law wsX6_partClasses := goodIn_ca (goodIn_c1 (goodIn_r _ [1043] (by decide +kernel) (by decide +kernel)) (goodIn_app (goodIn_app gk_X6_partClasses_r1 (goodIn_app gk_X6_partClasses_r2 (goodIn_app gk_X6_partClasses_r3 gk_X6_partClasses_r4))) (goodIn_sub inlX6 (by decide +kernel)))) (goodIn_sub (fun _ h => List.mem_append_left _ (List.mem_append_left _ (List.mem_append_left _ (List.mem_append_left _ (List.mem_append_left _ (List.mem_append_left _ (List.mem_append_left _ (List.mem_append_right _ h)))))))) (by decide +kernel))
set_option maxRecDepth 20000 in
theorem gL_law_X6_partClasses : GoodIn wsL_law (wsV RL 231 RX6 yX6_partClasses wsX6_partClasses) := goodIn_app (goodIn_of _ (by decide +kernel)) ggL_law_X6_partClasses
set_option maxRecDepth 20000 in
theorem gk_L_netsLike_r1 : GoodIn wsL_law wsL_netsLike_r1 := goodIn_r _ [102, 147, 1047, 1048, 1049, 2, 1050, 17, 114, 115, 116, 117, 118, 152, 153, 154, 155, 156, 157, 110, 111, 112, 113, 119] (by decide +kernel) (by decide +kernel)
set_option maxRecDepth 20000 in
theorem gk_L_netsLike_r2 : GoodIn wsL_law wsL_netsLike_r2 := goodIn_r _ [120, 121, 16, 122, 30, 31, 158, 159, 160, 29, 161, 127, 877, 878, 879, 880, 881, 882, 40, 883, 572, 573, 574, 52] (by decide +kernel) (by decide +kernel)
set_option maxRecDepth 20000 in
theorem gk_L_netsLike_r3 : GoodIn wsL_law wsL_netsLike_r3 := goodIn_r _ [166, 167, 168, 169, 46, 575, 576, 577, 578, 429, 430, 431, 432, 245, 246, 247, 248, 51, 579, 580, 581, 582, 583, 584] (by decide +kernel) (by decide +kernel)
set_option maxRecDepth 20000 in
theorem gk_L_netsLike_r4 : GoodIn wsL_law wsL_netsLike_r4 := goodIn_r _ [585, 586, 884, 885, 886, 887, 35, 36, 888, 889, 890, 34, 891, 60, 892, 893, 894, 895, 896, 897, 898, 899, 900, 901] (by decide +kernel) (by decide +kernel)
set_option maxRecDepth 20000 in
theorem gk_L_netsLike_r5 : GoodIn wsL_law wsL_netsLike_r5 := goodIn_r _ [902, 903, 59, 904, 383, 384, 385, 905, 906, 907, 908, 909, 62, 910, 226, 227, 228, 229, 230, 231, 232, 49, 911, 331] (by decide +kernel) (by decide +kernel)
set_option maxRecDepth 20000 in
theorem gk_L_netsLike_r6 : GoodIn wsL_law wsL_netsLike_r6 := goodIn_r _ [332, 333, 47, 912, 913, 914, 915, 916, 917, 918, 61, 919, 920, 921, 922, 923, 924, 925, 926, 927, 928, 929, 930, 931] (by decide +kernel) (by decide +kernel)
set_option maxRecDepth 20000 in
theorem gk_L_netsLike_r7 : GoodIn wsL_law wsL_netsLike_r7 := goodIn_r _ [932, 933, 934, 935, 936, 937, 938, 939, 940, 941, 942, 943, 944, 945, 946, 947, 948, 327, 328, 329, 330, 949, 950, 951] (by decide +kernel) (by decide +kernel)
set_option maxRecDepth 20000 in
theorem gk_L_netsLike_r8 : GoodIn wsL_law wsL_netsLike_r8 := goodIn_r _ [952, 39, 953, 954, 955, 956, 957, 958, 959, 960, 961, 962, 963, 964, 965, 966, 967, 968, 969, 970, 971, 972, 973, 974] (by decide +kernel) (by decide +kernel)
set_option maxRecDepth 20000 in
theorem gk_L_netsLike_r9 : GoodIn wsL_law wsL_netsLike_r9 := goodIn_r _ [975, 67, 1051, 1052, 1053] (by decide +kernel) (by decide +kernel)
set_option maxRecDepth 20000 in
theorem ggL_law_L_netsLike : GoodIn wsL_law wsL_netsLike := goodIn_ca (goodIn_ca (goodIn_ca (goodIn_c1 (goodIn_r _ [1046] (by decide +kernel) (by decide +kernel)) (goodIn_app (goodIn_app (goodIn_app (goodIn_app (goodIn_app (goodIn_app gk_L_netsLike_r1 (goodIn_app gk_L_netsLike_r2 (goodIn_app gk_L_netsLike_r3 (goodIn_app gk_L_netsLike_r4 (goodIn_app gk_L_netsLike_r5 (goodIn_app gk_L_netsLike_r6 (goodIn_app gk_L_netsLike_r7 (goodIn_app gk_L_netsLike_r8 gk_L_netsLike_r9)))))))) (goodIn_sub inlX5 (by decide +kernel))) (goodIn_sub inlX4 (by decide +kernel))) (goodIn_sub inlX0 (by decide +kernel))) (goodIn_sub inlX3 (by decide +kernel))) (goodIn_sub inlX1 (by decide +kernel)))) (goodIn_sub (fun _ h => List.mem_append_left _ (List.mem_append_left _ (List.mem_append_left _ (List.mem_append_left _ (List.mem_append_left _ (List.mem_append_left _ (List.mem_append_left _ (List.mem_append_right _ h)))))))) (by decide +kernel))) (goodIn_sub (fun _ h => List.mem_append_left _ (List.mem_append_left _ (List.mem_append_left _ (List.mem_append_left _ (List.mem_append_left _ (List.mem_append_right _ h)))))) (by decide +kernel))) (goodIn_sub (fun _ h => List.mem_append_left _ (List.mem_append_left _ (List.mem_append_left _ (List.mem_append_left _ (List.mem_append_right _ h))))) (by decide +kernel))
set_option maxRecDepth 20000 in
theorem gL_law_L_netsLike : GoodIn wsL_law (va_wsS RL 232 yL_netsLike wsL_netsLike) := goodIn_app (goodIn_of _ (by decide +kernel)) ggL_law_L_netsLike
set_option maxRecDepth 20000 in
theorem gk_X6_netsLike_r1 : GoodIn wsL_law wsX6_netsLike_r1 := goodIn_r _ [136, 90, 137, 138, 5, 139, 183, 184, 185, 186, 82, 180, 181, 182, 981, 982, 983, 984, 84, 91, 85, 86, 980, 92] (by decide +kernel) (by decide +kernel)
set_option maxRecDepth 20000 in
theorem gk_X6_netsLike_r2 : GoodIn wsL_law wsX6_netsLike_r2 := goodIn_r _ [93, 985, 986, 987, 988, 261, 262, 263, 264, 83, 88, 414, 415, 416, 417, 308, 309, 310, 311, 312, 313, 314, 315, 316] (by decide +kernel) (by decide +kernel)
set_option maxRecDepth 20000 in
theorem gk_X6_netsLike_r3 : GoodIn wsL_law wsX6_netsLike_r3 := goodIn_r _ [317, 318, 89, 989, 990, 991, 992, 993, 687, 688, 994, 995, 996, 997, 998, 450, 434, 431, 435, 999, 1000, 1001, 1002, 1003] (by decide +kernel) (by decide +kernel)
set_option maxRecDepth 20000 in
theorem gk_X6_netsLike_r4 : GoodIn wsL_law wsX6_netsLike_r4 := goodIn_r _ [1004, 1005, 1006, 1007, 1008, 1009, 94, 95, 1010, 1011, 1012, 1013, 1014, 1015, 1016, 1017, 1018, 1019, 1020, 1021, 1022, 1023, 1024, 1025] (by decide +kernel) (by decide +kernel)
set_option maxRecDepth 20000 in
theorem gk_X6_netsLike_r5 : GoodIn wsL_law wsX6_netsLike_r5 := goodIn_r _ [1026, 1027, 1058, 1059, 1060] (by decide +kernel) (by decide +kernel)
set_option maxRecDepth 20000 in
theorem ggL_law_X6_netsLike : GoodIn wsL_law wsX6_netsLike := goodIn_ca (goodIn_c1 (goodIn_r _ [1057] (by decide +kernel) (by decide +kernel)) (goodIn_app (goodIn_app gk_X6_netsLike_r1 (goodIn_app gk_X6_netsLike_r2 (goodIn_app gk_X6_netsLike_r3 (goodIn_app gk_X6_netsLike_r4 gk_X6_netsLike_r5)))) (goodIn_sub inlX6 (by decide +kernel)))) (goodIn_sub (fun _ h => List.mem_append_left _ (List.mem_append_left _ (List.mem_append_left _ (List.mem_append_left _ (List.mem_append_left _ (List.mem_append_left _ (List.mem_append_left _ (List.mem_append_right _ h)))))))) (by decide +kernel))
set_option maxRecDepth 20000 in
theorem gL_law_X6_netsLike : GoodIn wsL_law (wsV RL 234 RX6 yX6_netsLike wsX6_netsLike) := goodIn_app (goodIn_of _ (by decide +kernel)) ggL_law_X6_netsLike
theorem dL_law_1699 : decode cL_law 1699 = .ok (.aload_n 1, 1) := by decide +kernel
theorem dL_law_1700 : decode cL_law 1700 = .ok (.invokevirtual 220, 3) := by decide +kernel
theorem dL_law_1703 : decode cL_law 1703 = .ok (.aload_n 2, 1) := by decide +kernel
theorem dL_law_1704 : decode cL_law 1704 = .ok (.invokevirtual 223, 3) := by decide +kernel
theorem dL_law_1707 : decode cL_law 1707 = .ok (.if_icmp .eq 1013, 3) := by decide +kernel
theorem dL_law_1712 : decode cL_law 1712 = .ok (.aload_n 1, 1) := by decide +kernel
theorem dL_law_1713 : decode cL_law 1713 = .ok (.invokevirtual 224, 3) := by decide +kernel
theorem dL_law_1716 : decode cL_law 1716 = .ok (.aload_n 2, 1) := by decide +kernel
theorem dL_law_1717 : decode cL_law 1717 = .ok (.invokevirtual 227, 3) := by decide +kernel
theorem dL_law_1720 : decode cL_law 1720 = .ok (.if_icmp .eq 1000, 3) := by decide +kernel
theorem dL_law_1725 : decode cL_law 1725 = .ok (.aload_n 1, 1) := by decide +kernel
theorem dL_law_1726 : decode cL_law 1726 = .ok (.invokevirtual 228, 3) := by decide +kernel
theorem dL_law_1729 : decode cL_law 1729 = .ok (.aload_n 2, 1) := by decide +kernel
theorem dL_law_1730 : decode cL_law 1730 = .ok (.invokevirtual 231, 3) := by decide +kernel
theorem dL_law_1733 : decode cL_law 1733 = .ok (.if_icmp .eq 987, 3) := by decide +kernel
theorem dL_law_1738 : decode cL_law 1738 = .ok (.aload_n 1, 1) := by decide +kernel
theorem dL_law_1739 : decode cL_law 1739 = .ok (.aload_n 0, 1) := by decide +kernel
theorem dL_law_1740 : decode cL_law 1740 = .ok (.iload 5, 2) := by decide +kernel
theorem dL_law_1742 : decode cL_law 1742 = .ok (.iconst 1, 1) := by decide +kernel
theorem dL_law_1743 : decode cL_law 1743 = .ok (.iadd, 1) := by decide +kernel
theorem dL_law_1744 : decode cL_law 1744 = .ok (.iaload, 1) := by decide +kernel
theorem dL_law_1745 : decode cL_law 1745 = .ok (.aload_n 0, 1) := by decide +kernel
theorem dL_law_1746 : decode cL_law 1746 = .ok (.iload 5, 2) := by decide +kernel
theorem dL_law_1748 : decode cL_law 1748 = .ok (.iconst 2, 1) := by decide +kernel
theorem dL_law_1749 : decode cL_law 1749 = .ok (.iadd, 1) := by decide +kernel
theorem dL_law_1750 : decode cL_law 1750 = .ok (.iaload, 1) := by decide +kernel
theorem dL_law_1751 : decode cL_law 1751 = .ok (.aload_n 0, 1) := by decide +kernel
theorem dL_law_1752 : decode cL_law 1752 = .ok (.iload 5, 2) := by decide +kernel
theorem dL_law_1754 : decode cL_law 1754 = .ok (.iconst 3, 1) := by decide +kernel
theorem dL_law_1755 : decode cL_law 1755 = .ok (.iadd, 1) := by decide +kernel
theorem dL_law_1756 : decode cL_law 1756 = .ok (.iaload, 1) := by decide +kernel
theorem dL_law_1757 : decode cL_law 1757 = .ok (.aload_n 3, 1) := by decide +kernel
theorem dL_law_1758 : decode cL_law 1758 = .ok (.invokestatic 232, 3) := by decide +kernel
theorem dL_law_1761 : decode cL_law 1761 = .ok (.istore 6, 2) := by decide +kernel
theorem dL_law_1763 : decode cL_law 1763 = .ok (.aload_n 2, 1) := by decide +kernel
theorem dL_law_1764 : decode cL_law 1764 = .ok (.aload_n 0, 1) := by decide +kernel
theorem dL_law_1765 : decode cL_law 1765 = .ok (.iload 5, 2) := by decide +kernel
theorem dL_law_1767 : decode cL_law 1767 = .ok (.iconst 1, 1) := by decide +kernel
theorem dL_law_1768 : decode cL_law 1768 = .ok (.iadd, 1) := by decide +kernel
theorem dL_law_1769 : decode cL_law 1769 = .ok (.iaload, 1) := by decide +kernel
theorem dL_law_1770 : decode cL_law 1770 = .ok (.aload_n 0, 1) := by decide +kernel
theorem dL_law_1771 : decode cL_law 1771 = .ok (.iload 5, 2) := by decide +kernel
theorem dL_law_1773 : decode cL_law 1773 = .ok (.iconst 2, 1) := by decide +kernel
theorem dL_law_1774 : decode cL_law 1774 = .ok (.iadd, 1) := by decide +kernel
theorem dL_law_1775 : decode cL_law 1775 = .ok (.iaload, 1) := by decide +kernel
theorem dL_law_1776 : decode cL_law 1776 = .ok (.aload_n 0, 1) := by decide +kernel
theorem dL_law_1777 : decode cL_law 1777 = .ok (.iload 5, 2) := by decide +kernel
theorem dL_law_1779 : decode cL_law 1779 = .ok (.iconst 3, 1) := by decide +kernel
theorem dL_law_1780 : decode cL_law 1780 = .ok (.iadd, 1) := by decide +kernel
theorem dL_law_1781 : decode cL_law 1781 = .ok (.iaload, 1) := by decide +kernel
theorem dL_law_1782 : decode cL_law 1782 = .ok (.invokevirtual 234, 3) := by decide +kernel
theorem dL_law_1785 : decode cL_law 1785 = .ok (.istore 7, 2) := by decide +kernel
theorem dL_law_1787 : decode cL_law 1787 = .ok (.aload_n 2, 1) := by decide +kernel
theorem dL_law_1788 : decode cL_law 1788 = .ok (.invokevirtual 150, 3) := by decide +kernel
theorem dL_law_1791 : decode cL_law 1791 = .ok (.iload 6, 2) := by decide +kernel
theorem dL_law_1793 : decode cL_law 1793 = .ok (.if_icmp .eq 5, 3) := by decide +kernel
theorem dL_law_1798 : decode cL_law 1798 = .ok (.iload 6, 2) := by decide +kernel
theorem dL_law_1800 : decode cL_law 1800 = .ok (.ifCond .ne 15, 3) := by decide +kernel
theorem dL_law_1815 : decode cL_law 1815 = .ok (.goto 905, 3) := by decide +kernel
set_option maxHeartbeats 4000000 in
set_option maxRecDepth 100000 in
/-- case 21 of the law: rounds, on fresh objects -/
theorem lc_21 {p : Program} {e : Env} {s : State} {m : MethodId} {below : List Frame} {meth : Method} {c : Code} (l : Launch) (hfl : l.stackTraces = false) {b : Nat} {xs : Nat → Int32} (hx : p.tables.exec = Jvm.exec) (hb : c.code = cL_law) (hr : meth.sig.returnType = ret) (hml : c.maxLocals = 9) (hown : s.vm.findClass RL = some m.cls) (hts : ∀ w ∈ wsL_law, w.before #[Value.ref b] s = true) (hlk : meth.locks = false) (A : Nat → Prop) (hAe : ∀ q, A q → s.heap.size ≤ q) (hA : ∀ q : Nat, s.heap.size ≤ q → A q) (hX9 : va_X b 7 xs s s.heap) (hbl : b < s.heap.size) (hN : fN s) (hZ : fZ A s s.heap) (hX : fX s) (dC : Nat → ClassId) (dI : Nat → Nat → Nat) (h0 pr w d on op un wL wK wV wN wS wB w0 w1 w2 w3 w4 w5 w6 w7 w8 w9 dL dK dV dN dS dB d0 d1 d2 d3 d4 d5 d6 d7 d8 d9 onR onL onC onD opR opL opC opD unK ma tm k0 kN kA kO kK kV kG kP kC kD kE kF kX kY kT kU oJ oD : Nat) (cI cN : ClassId) {H : Heap} {locs : List Loc} {ls : Array Slot} (hK : va_K (dC, dI) vwCl [(cN, .array .int), (cI, .int)] s) (hP : va_P (dC, dI) vwCl [(h0, .inr (8, [.ref pr, .ref ma, .ref tm])), (pr, .inr (7, [.ref w, .ref d, .ref on, .ref op, .ref un, .int 0, .int 0])), (w, .inr (3, [.int 0, .int 0, .ref wL, .ref wK, .ref wV, .ref wN, .ref wS, .ref wB, .int 0])), (d, .inr (3, [.int 0, .int 0, .ref dL, .ref dK, .ref dV, .ref dN, .ref dS, .ref dB, .int 0])), (wV, .inl (cI, 10, .inl (fun _ => 0))), (dV, .inl (cI, 10, .inl (fun _ => 0))), (wS, .inl (cI, 10, .inl (fun _ => 0))), (dS, .inl (cI, 10, .inl (fun _ => 0))), (wN, .inl (cN, 10, .inr (.inr (.inr (.inr (fch w0 w1 w2 w3 w4 w5 w6 w7 w8 w9)))))), (w0, .inl (cI, 3, .inl fM3)), (w1, .inl (cI, 3, .inl fM3)), (w2, .inl (cI, 3, .inl fM3)), (w3, .inl (cI, 3, .inl fM3)), (w4, .inl (cI, 3, .inl fM3)), (w5, .inl (cI, 3, .inl fM3)), (w6, .inl (cI, 3, .inl fM3)), (w7, .inl (cI, 3, .inl fM3)), (w8, .inl (cI, 3, .inl fM3)), (w9, .inl (cI, 3, .inl fM3)), (dN, .inl (cN, 10, .inr (.inr (.inr (.inr (fch d0 d1 d2 d3 d4 d5 d6 d7 d8 d9)))))), (d0, .inl (cI, 3, .inl fM3)), (d1, .inl (cI, 3, .inl fM3)), (d2, .inl (cI, 3, .inl fM3)), (d3, .inl (cI, 3, .inl fM3)), (d4, .inl (cI, 3, .inl fM3)), (d5, .inl (cI, 3, .inl fM3)), (d6, .inl (cI, 3, .inl fM3)), (d7, .inl (cI, 3, .inl fM3)), (d8, .inl (cI, 3, .inl fM3)), (d9, .inl (cI, 3, .inl fM3)), (on, .inr (6, [.ref onR, .ref onL, .ref onC, .ref onD, .int 0])), (onL, .inl (cI, 20, .inl (fun _ => 0))), (onC, .inl (cI, 20, .inl (fun _ => 0))), (op, .inr (6, [.ref opR, .ref opL, .ref opC, .ref opD, .int 0])), (opL, .inl (cI, 20, .inl (fun _ => 0))), (opC, .inl (cI, 20, .inl (fun _ => 0))), (un, .inr (4, [.ref unK, .int 0])), (k0, .inr (9, [.ref kN, .ref kA, .ref kO, .ref kK, .ref kV, .ref kG, .ref kP, .ref kC, .ref kD, .ref kE, .ref kF, .ref kX, .ref kY, .int 0, .ref kT, .ref kU, .int 0, .int 0, .int 0])), (kN, .inl (cI, 2, .inl (fun _ => 0))), (kA, .inl (cI, 2, .inl (fun _ => 0))), (kC, .inl (cI, 20, .inl (fun _ => 0))), (kD, .inl (cI, 20, .inl (fun _ => 0))), (kE, .inl (cI, 20, .inl (fun _ => 0))), (kF, .inl (cI, 20, .inl (fun _ => 0)))] H) (hD : va_D A [(h0, .inr (8, [.ref pr, .ref ma, .ref tm])), (pr, .inr (7, [.ref w, .ref d, .ref on, .ref op, .ref un, .int 0, .int 0])), (w, .inr (3, [.int 0, .int 0, .ref wL, .ref wK, .ref wV, .ref wN, .ref wS, .ref wB, .int 0])), (d, .inr (3, [.int 0, .int 0, .ref dL, .ref dK, .ref dV, .ref dN, .ref dS, .ref dB, .int 0])), (wV, .inl (cI, 10, .inl (fun _ => 0))), (dV, .inl (cI, 10, .inl (fun _ => 0))), (wS, .inl (cI, 10, .inl (fun _ => 0))), (dS, .inl (cI, 10, .inl (fun _ => 0))), (wN, .inl (cN, 10, .inr (.inr (.inr (.inr (fch w0 w1 w2 w3 w4 w5 w6 w7 w8 w9)))))), (w0, .inl (cI, 3, .inl fM3)), (w1, .inl (cI, 3, .inl fM3)), (w2, .inl (cI, 3, .inl fM3)), (w3, .inl (cI, 3, .inl fM3)), (w4, .inl (cI, 3, .inl fM3)), (w5, .inl (cI, 3, .inl fM3)), (w6, .inl (cI, 3, .inl fM3)), (w7, .inl (cI, 3, .inl fM3)), (w8, .inl (cI, 3, .inl fM3)), (w9, .inl (cI, 3, .inl fM3)), (dN, .inl (cN, 10, .inr (.inr (.inr (.inr (fch d0 d1 d2 d3 d4 d5 d6 d7 d8 d9)))))), (d0, .inl (cI, 3, .inl fM3)), (d1, .inl (cI, 3, .inl fM3)), (d2, .inl (cI, 3, .inl fM3)), (d3, .inl (cI, 3, .inl fM3)), (d4, .inl (cI, 3, .inl fM3)), (d5, .inl (cI, 3, .inl fM3)), (d6, .inl (cI, 3, .inl fM3)), (d7, .inl (cI, 3, .inl fM3)), (d8, .inl (cI, 3, .inl fM3)), (d9, .inl (cI, 3, .inl fM3)), (on, .inr (6, [.ref onR, .ref onL, .ref onC, .ref onD, .int 0])), (onL, .inl (cI, 20, .inl (fun _ => 0))), (onC, .inl (cI, 20, .inl (fun _ => 0))), (op, .inr (6, [.ref opR, .ref opL, .ref opC, .ref opD, .int 0])), (opL, .inl (cI, 20, .inl (fun _ => 0))), (opC, .inl (cI, 20, .inl (fun _ => 0))), (un, .inr (4, [.ref unK, .int 0])), (k0, .inr (9, [.ref kN, .ref kA, .ref kO, .ref kK, .ref kV, .ref kG, .ref kP, .ref kC, .ref kD, .ref kE, .ref kF, .ref kX, .ref kY, .int 0, .ref kT, .ref kU, .int 0, .int 0, .int 0])), (kN, .inl (cI, 2, .inl (fun _ => 0))), (kA, .inl (cI, 2, .inl (fun _ => 0))), (kC, .inl (cI, 20, .inl (fun _ => 0))), (kD, .inl (cI, 20, .inl (fun _ => 0))), (kE, .inl (cI, 20, .inl (fun _ => 0))), (kF, .inl (cI, 20, .inl (fun _ => 0)))]) (hS : va_S A s.heap H locs) (hl : lv_has ls 9 [(5, .int 0), (4, .ref oD), (3, .ref oJ), (2, .ref k0), (1, .ref h0), (0, .ref b)]) : W p l e room_1 s m #[Value.ref b] below meth c H locs 114 2061 (lw_Z below #[Value.ref b] s) (F0 m 1699 ls []) := by
  have hbA : ¬ A b := fun h => Nat.not_le.mpr hbl (hAe _ h)
  have hX0 := hX
  refine lv_aload_n hx hb dL_law_1699 rfl (lv_at hl 4 rfl) ?_
  have hPc := hP.sub (ws' := [(h0, .inr (8, [.ref pr, .ref ma, .ref tm])), (pr, .inr (7, [.ref w, .ref d, .ref on, .ref op, .ref un, .int 0, .int 0])), (w, .inr (3, [.int 0, .int 0, .ref wL, .ref wK, .ref wV, .ref wN, .ref wS, .ref wB, .int 0])), (d, .inr (3, [.int 0, .int 0, .ref dL, .ref dK, .ref dV, .ref dN, .ref dS, .ref dB, .int 0])), (wV, .inl (cI, 10, .inl (fun _ => 0))), (dV, .inl (cI, 10, .inl (fun _ => 0))), (wS, .inl (cI, 10, .inl (fun _ => 0))), (dS, .inl (cI, 10, .inl (fun _ => 0))), (wN, .inl (cN, 10, .inr (.inr (.inr (.inr (fch w0 w1 w2 w3 w4 w5 w6 w7 w8 w9)))))), (w0, .inl (cI, 3, .inl fM3)), (w1, .inl (cI, 3, .inl fM3)), (w2, .inl (cI, 3, .inl fM3)), (w3, .inl (cI, 3, .inl fM3)), (w4, .inl (cI, 3, .inl fM3)), (w5, .inl (cI, 3, .inl fM3)), (w6, .inl (cI, 3, .inl fM3)), (w7, .inl (cI, 3, .inl fM3)), (w8, .inl (cI, 3, .inl fM3)), (w9, .inl (cI, 3, .inl fM3)), (dN, .inl (cN, 10, .inr (.inr (.inr (.inr (fch d0 d1 d2 d3 d4 d5 d6 d7 d8 d9)))))), (d0, .inl (cI, 3, .inl fM3)), (d1, .inl (cI, 3, .inl fM3)), (d2, .inl (cI, 3, .inl fM3)), (d3, .inl (cI, 3, .inl fM3)), (d4, .inl (cI, 3, .inl fM3)), (d5, .inl (cI, 3, .inl fM3)), (d6, .inl (cI, 3, .inl fM3)), (d7, .inl (cI, 3, .inl fM3)), (d8, .inl (cI, 3, .inl fM3)), (d9, .inl (cI, 3, .inl fM3)), (on, .inr (6, [.ref onR, .ref onL, .ref onC, .ref onD, .int 0])), (onL, .inl (cI, 20, .inl (fun _ => 0))), (onC, .inl (cI, 20, .inl (fun _ => 0))), (op, .inr (6, [.ref opR, .ref opL, .ref opC, .ref opD, .int 0])), (opL, .inl (cI, 20, .inl (fun _ => 0))), (opC, .inl (cI, 20, .inl (fun _ => 0))), (un, .inr (4, [.ref unK, .int 0]))]) [0, 1, 2, 3, 4, 5, 6, 7, 8, 9, 10, 11, 12, 13, 14, 15, 16, 17, 18, 19, 20, 21, 22, 23, 24, 25, 26, 27, 28, 29, 30, 31, 32, 33, 34, 35, 36] rfl
  have hDc := hD.sub (ws' := [(h0, .inr (8, [.ref pr, .ref ma, .ref tm])), (pr, .inr (7, [.ref w, .ref d, .ref on, .ref op, .ref un, .int 0, .int 0])), (w, .inr (3, [.int 0, .int 0, .ref wL, .ref wK, .ref wV, .ref wN, .ref wS, .ref wB, .int 0])), (d, .inr (3, [.int 0, .int 0, .ref dL, .ref dK, .ref dV, .ref dN, .ref dS, .ref dB, .int 0])), (wV, .inl (cI, 10, .inl (fun _ => 0))), (dV, .inl (cI, 10, .inl (fun _ => 0))), (wS, .inl (cI, 10, .inl (fun _ => 0))), (dS, .inl (cI, 10, .inl (fun _ => 0))), (wN, .inl (cN, 10, .inr (.inr (.inr (.inr (fch w0 w1 w2 w3 w4 w5 w6 w7 w8 w9)))))), (w0, .inl (cI, 3, .inl fM3)), (w1, .inl (cI, 3, .inl fM3)), (w2, .inl (cI, 3, .inl fM3)), (w3, .inl (cI, 3, .inl fM3)), (w4, .inl (cI, 3, .inl fM3)), (w5, .inl (cI, 3, .inl fM3)), (w6, .inl (cI, 3, .inl fM3)), (w7, .inl (cI, 3, .inl fM3)), (w8, .inl (cI, 3, .inl fM3)), (w9, .inl (cI, 3, .inl fM3)), (dN, .inl (cN, 10, .inr (.inr (.inr (.inr (fch d0 d1 d2 d3 d4 d5 d6 d7 d8 d9)))))), (d0, .inl (cI, 3, .inl fM3)), (d1, .inl (cI, 3, .inl fM3)), (d2, .inl (cI, 3, .inl fM3)), (d3, .inl (cI, 3, .inl fM3)), (d4, .inl (cI, 3, .inl fM3)), (d5, .inl (cI, 3, .inl fM3)), (d6, .inl (cI, 3, .inl fM3)), (d7, .inl (cI, 3, .inl fM3)), (d8, .inl (cI, 3, .inl fM3)), (d9, .inl (cI, 3, .inl fM3)), (on, .inr (6, [.ref onR, .ref onL, .ref onC, .ref onD, .int 0])), (onL, .inl (cI, 20, .inl (fun _ => 0))), (onC, .inl (cI, 20, .inl (fun _ => 0))), (op, .inr (6, [.ref opR, .ref opL, .ref opC, .ref opD, .int 0])), (opL, .inl (cI, 20, .inl (fun _ => 0))), (opC, .inl (cI, 20, .inl (fun _ => 0))), (un, .inr (4, [.ref unK, .int 0]))]) [0, 1, 2, 3, 4, 5, 6, 7, 8, 9, 10, 11, 12, 13, 14, 15, 16, 17, 18, 19, 20, 21, 22, 23, 24, 25, 26, 27, 28, 29, 30, 31, 32, 33, 34, 35, 36] (by decide) rfl
  have hKc := hK.sub (tys' := [(cN, .array .int), (cI, .int)]) [0, 1] rfl
  have hFc := va_free (wc := [(h0, .inr (8, [.ref pr, .ref ma, .ref tm])), (pr, .inr (7, [.ref w, .ref d, .ref on, .ref op, .ref un, .int 0, .int 0])), (w, .inr (3, [.int 0, .int 0, .ref wL, .ref wK, .ref wV, .ref wN, .ref wS, .ref wB, .int 0])), (d, .inr (3, [.int 0, .int 0, .ref dL, .ref dK, .ref dV, .ref dN, .ref dS, .ref dB, .int 0])), (wV, .inl (cI, 10, .inl (fun _ => 0))), (dV, .inl (cI, 10, .inl (fun _ => 0))), (wS, .inl (cI, 10, .inl (fun _ => 0))), (dS, .inl (cI, 10, .inl (fun _ => 0))), (wN, .inl (cN, 10, .inr (.inr (.inr (.inr (fch w0 w1 w2 w3 w4 w5 w6 w7 w8 w9)))))), (w0, .inl (cI, 3, .inl fM3)), (w1, .inl (cI, 3, .inl fM3)), (w2, .inl (cI, 3, .inl fM3)), (w3, .inl (cI, 3, .inl fM3)), (w4, .inl (cI, 3, .inl fM3)), (w5, .inl (cI, 3, .inl fM3)), (w6, .inl (cI, 3, .inl fM3)), (w7, .inl (cI, 3, .inl fM3)), (w8, .inl (cI, 3, .inl fM3)), (w9, .inl (cI, 3, .inl fM3)), (dN, .inl (cN, 10, .inr (.inr (.inr (.inr (fch d0 d1 d2 d3 d4 d5 d6 d7 d8 d9)))))), (d0, .inl (cI, 3, .inl fM3)), (d1, .inl (cI, 3, .inl fM3)), (d2, .inl (cI, 3, .inl fM3)), (d3, .inl (cI, 3, .inl fM3)), (d4, .inl (cI, 3, .inl fM3)), (d5, .inl (cI, 3, .inl fM3)), (d6, .inl (cI, 3, .inl fM3)), (d7, .inl (cI, 3, .inl fM3)), (d8, .inl (cI, 3, .inl fM3)), (d9, .inl (cI, 3, .inl fM3)), (on, .inr (6, [.ref onR, .ref onL, .ref onC, .ref onD, .int 0])), (onL, .inl (cI, 20, .inl (fun _ => 0))), (onC, .inl (cI, 20, .inl (fun _ => 0))), (op, .inr (6, [.ref opR, .ref opL, .ref opC, .ref opD, .int 0])), (opL, .inl (cI, 20, .inl (fun _ => 0))), (opC, .inl (cI, 20, .inl (fun _ => 0))), (un, .inr (4, [.ref unK, .int 0]))]) hD hS hA [0, 1, 2, 3, 4, 5, 6, 7, 8, 9, 10, 11, 12, 13, 14, 15, 16, 17, 18, 19, 20, 21, 22, 23, 24, 25, 26, 27, 28, 29, 30, 31, 32, 33, 34, 35, 36] rfl
  refine va_calli (va_runV (As := []) (rest := []) ⟨hx, hb, hml, hown, hts⟩ (kX5_rounds l dC dI h0 ma tm pr w d on op un wL wK wV wN wS wB dL dK dV dN dS dB w0 w1 w2 w3 w4 w5 w6 w7 w8 w9 d0 d1 d2 d3 d4 d5 d6 d7 d8 d9 onR onL onC onD opR opL opC opD unK cI cN (fun _ => 0) (fun _ => 0) (fun _ => 0) (fun _ => 0) H.size) (cwV 0 hts gL_law_X5_rounds rfl rfl rfl (by decide +kernel) ⟨Nat.le_of_ble_eq_true rfl, Nat.le_of_ble_eq_true rfl⟩) (fPreV hN hZ hS (fun q h => hFc q h) hPc hKc hDc (ci := 8) (q0 := 0) rfl rfl) rfl rfl hl.1 rfl (lv_room (Nat.le_of_ble_eq_true rfl)) dL_law_1700 ⟨Nat.le_of_ble_eq_true rfl, Nat.le_of_ble_eq_true rfl⟩) hS (fun q _ h => hFc q h) hFc (fun r u t H1 locs ht hvm hw hB hz1 hk1 hS => ?_)
  obtain ⟨hP1, hK1, hD1⟩ := hB
  rw [ht] at hP1
  have hK1 := va_K.moved hvm.symm hK1
  obtain ⟨hP, hD⟩ := va_join (wr := [(k0, .inr (9, [.ref kN, .ref kA, .ref kO, .ref kK, .ref kV, .ref kG, .ref kP, .ref kC, .ref kD, .ref kE, .ref kF, .ref kX, .ref kY, .int 0, .ref kT, .ref kU, .int 0, .int 0, .int 0])), (kN, .inl (cI, 2, .inl (fun _ => 0))), (kA, .inl (cI, 2, .inl (fun _ => 0))), (kC, .inl (cI, 20, .inl (fun _ => 0))), (kD, .inl (cI, 20, .inl (fun _ => 0))), (kE, .inl (cI, 20, .inl (fun _ => 0))), (kF, .inl (cI, 20, .inl (fun _ => 0)))]) (w1 := []) hP hD [0, 1, 2, 3, 4, 5, 6, 7, 8, 9, 10, 11, 12, 13, 14, 15, 16, 17, 18, 19, 20, 21, 22, 23, 24, 25, 26, 27, 28, 29, 30, 31, 32, 33, 34, 35, 36] [37, 38, 39, 40, 41, 42, 43] rfl rfl (by decide) (by decide) hk1 hFc hP1 hD1
  generalize H1 = H at hP hS ⊢
  have hP : va_P (dC, dI) vwCl [(k0, .inr (9, [.ref kN, .ref kA, .ref kO, .ref kK, .ref kV, .ref kG, .ref kP, .ref kC, .ref kD, .ref kE, .ref kF, .ref kX, .ref kY, .int 0, .ref kT, .ref kU, .int 0, .int 0, .int 0])), (kN, .inl (cI, 2, .inl (fun _ => 0))), (kA, .inl (cI, 2, .inl (fun _ => 0))), (kC, .inl (cI, 20, .inl (fun _ => 0))), (kD, .inl (cI, 20, .inl (fun _ => 0))), (kE, .inl (cI, 20, .inl (fun _ => 0))), (kF, .inl (cI, 20, .inl (fun _ => 0)))] _ := hP
  have hD : va_D A [(k0, .inr (9, [.ref kN, .ref kA, .ref kO, .ref kK, .ref kV, .ref kG, .ref kP, .ref kC, .ref kD, .ref kE, .ref kF, .ref kX, .ref kY, .int 0, .ref kT, .ref kU, .int 0, .int 0, .int 0])), (kN, .inl (cI, 2, .inl (fun _ => 0))), (kA, .inl (cI, 2, .inl (fun _ => 0))), (kC, .inl (cI, 20, .inl (fun _ => 0))), (kD, .inl (cI, 20, .inl (fun _ => 0))), (kE, .inl (cI, 20, .inl (fun _ => 0))), (kF, .inl (cI, 20, .inl (fun _ => 0)))] := hD
  subst hw
  refine lv_aload_n hx hb dL_law_1703 rfl (lv_at hl 3 rfl) ?_
  have hPc := hP.sub (ws' := [(k0, .inr (9, [.ref kN, .ref kA, .ref kO, .ref kK, .ref kV, .ref kG, .ref kP, .ref kC, .ref kD, .ref kE, .ref kF, .ref kX, .ref kY, .int 0, .ref kT, .ref kU, .int 0, .int 0, .int 0])), (kN, .inl (cI, 2, .inl (fun _ => 0))), (kA, .inl (cI, 2, .inl (fun _ => 0))), (kC, .inl (cI, 20, .inl (fun _ => 0))), (kD, .inl (cI, 20, .inl (fun _ => 0))), (kE, .inl (cI, 20, .inl (fun _ => 0))), (kF, .inl (cI, 20, .inl (fun _ => 0)))]) [0, 1, 2, 3, 4, 5, 6] rfl
  have hDc := hD.sub (ws' := [(k0, .inr (9, [.ref kN, .ref kA, .ref kO, .ref kK, .ref kV, .ref kG, .ref kP, .ref kC, .ref kD, .ref kE, .ref kF, .ref kX, .ref kY, .int 0, .ref kT, .ref kU, .int 0, .int 0, .int 0])), (kN, .inl (cI, 2, .inl (fun _ => 0))), (kA, .inl (cI, 2, .inl (fun _ => 0))), (kC, .inl (cI, 20, .inl (fun _ => 0))), (kD, .inl (cI, 20, .inl (fun _ => 0))), (kE, .inl (cI, 20, .inl (fun _ => 0))), (kF, .inl (cI, 20, .inl (fun _ => 0)))]) [0, 1, 2, 3, 4, 5, 6] (by decide) rfl
  have hKc := hK.sub (tys' := [(cI, .int)]) [1] rfl
  have hFc := va_free (wc := [(k0, .inr (9, [.ref kN, .ref kA, .ref kO, .ref kK, .ref kV, .ref kG, .ref kP, .ref kC, .ref kD, .ref kE, .ref kF, .ref kX, .ref kY, .int 0, .ref kT, .ref kU, .int 0, .int 0, .int 0])), (kN, .inl (cI, 2, .inl (fun _ => 0))), (kA, .inl (cI, 2, .inl (fun _ => 0))), (kC, .inl (cI, 20, .inl (fun _ => 0))), (kD, .inl (cI, 20, .inl (fun _ => 0))), (kE, .inl (cI, 20, .inl (fun _ => 0))), (kF, .inl (cI, 20, .inl (fun _ => 0)))]) hD hS hA [0, 1, 2, 3, 4, 5, 6] rfl
  refine va_calli (va_runV (As := []) (rest := [.int 0]) ⟨hx, hb, hml, hown, hts⟩ (kX6_rounds l dC dI k0 kN kA kO kK kV kG kP kC kD kE kF kX kY kT kU cI (fun _ => 0) (fun _ => 0) (fun _ => 0) (fun _ => 0) H.size) (cwV 0 hts gL_law_X6_rounds rfl rfl rfl (by decide +kernel) ⟨Nat.le_of_ble_eq_true rfl, Nat.le_of_ble_eq_true rfl⟩) (fPreV hN hZ hS (fun q h => hFc q h) hPc hKc hDc (ci := 9) (q0 := 0) rfl rfl) rfl rfl hl.1 rfl (lv_room (Nat.le_of_ble_eq_true rfl)) dL_law_1704 ⟨Nat.le_of_ble_eq_true rfl, Nat.le_of_ble_eq_true rfl⟩) hS (fun q _ h => hFc q h) hFc (fun r u t H1 locs ht hvm hw hB hz1 hk1 hS => ?_)
  obtain ⟨hP1, hK1, hD1⟩ := hB
  rw [ht] at hP1
  have hK1 := va_K.moved hvm.symm hK1
  obtain ⟨u1, rfl⟩ : ∃ z, z = u := ⟨_, rfl⟩
  obtain ⟨hP, hD⟩ := va_join (wr := []) (w1 := [(k0, .inr (9, [.ref kN, .ref kA, .ref kO, .ref kK, .ref kV, .ref kG, .ref kP, .ref kC, .ref kD, .ref kE, .ref kF, .ref kX, .ref kY, .int 0, .ref kT, .ref kU, .int u1, .int 0, .int 0]))]) hP hD [0, 1, 2, 3, 4, 5, 6] [] rfl rfl (by decide) (by decide) hk1 hFc hP1 hD1
  generalize H1 = H at hP hS ⊢
  have hP : va_P (dC, dI) vwCl [(k0, .inr (9, [.ref kN, .ref kA, .ref kO, .ref kK, .ref kV, .ref kG, .ref kP, .ref kC, .ref kD, .ref kE, .ref kF, .ref kX, .ref kY, .int 0, .ref kT, .ref kU, .int u1, .int 0, .int 0]))] _ := hP
  have hD : va_D A [(k0, .inr (9, [.ref kN, .ref kA, .ref kO, .ref kK, .ref kV, .ref kG, .ref kP, .ref kC, .ref kD, .ref kE, .ref kF, .ref kX, .ref kY, .int 0, .ref kT, .ref kU, .int u1, .int 0, .int 0]))] := hD
  refine W.widen (k := 116) (n := 2101) (Nat.le_of_ble_eq_true rfl) (Nat.le_of_ble_eq_true rfl) ?_
  obtain ⟨r2, rfl⟩ : ∃ z, z = r := ⟨_, rfl⟩
  obtain ⟨rfl, rfl⟩ := hw
  have hP : va_P (dC, dI) vwCl [(k0, .inr (9, [.ref kN, .ref kA, .ref kO, .ref kK, .ref kV, .ref kG, .ref kP, .ref kC, .ref kD, .ref kE, .ref kF, .ref kX, .ref kY, .int 0, .ref kT, .ref kU, .int 0, .int 0, .int 0]))] _ := hP
  have hD : va_D A [(k0, .inr (9, [.ref kN, .ref kA, .ref kO, .ref kK, .ref kV, .ref kG, .ref kP, .ref kC, .ref kD, .ref kE, .ref kF, .ref kX, .ref kY, .int 0, .ref kT, .ref kU, .int 0, .int 0, .int 0]))] := hD
  refine lv_icmp_eq (tgt := 2720) hx hb dL_law_1707 (by decide) (fun _ => ?_) (fun h9 => absurd (by decide) h9)
  refine lv_iinc (v := 7) (lv' := [(5, .int 7), (4, .ref oD), (3, .ref oJ), (2, .ref k0), (1, .ref h0), (0, .ref b)]) hx hb dL_law_2720 hl (k := 0) rfl (by decide) (Nat.le_of_ble_eq_true rfl) rfl (fun ls hl => ?_)
  refine lv_goto (tgt := 28) hx hb dL_law_2723 (by decide) ?_
  refine lv_iload hx hb dL_law_28 (lv_at hl 0 rfl) ?_
  refine lv_aload_n hx hb dL_law_30 rfl (lv_at hl 5 rfl) ?_
  refine va_slen hx hb hX9 hbl hbA hS dL_law_31 ?_
  refine W.eq (g2 := F0 m 32 ls [.int 7, .int 7]) rfl ?_
  refine lv_bipush (v := 7) hx hb dL_law_32 (by decide) ?_
  refine lv_isub hx hb dL_law_34 ?_
  refine lv_topi (fun y3 ey3 => ?_)
  obtain rfl : y3 = 0 := ey3.trans (by decide)
  refine lv_icmp_gt (tgt := 2726) hx hb dL_law_35 (by decide) (fun _ => ?_) (fun h9 => absurd (by decide) h9)
  refine lv_iconst (v := 1) hx hb dL_law_2726 (by decide) ?_
  refine va_forget (fun q hq => hAe _ (hS.2.2 q hq)) ?_
  refine W.widen (k := 600006) (n := 7302048) (Nat.le_of_ble_eq_true rfl) (Nat.le_of_ble_eq_true rfl) ?_
  exact W.base (lw_ret (d0 := s.drawn) (Drawn.sameBut.refl _ _) hx hb hr hlk dL_law_2727)

set_option maxHeartbeats 4000000 in
set_option maxRecDepth 100000 in
/-- case 22 of the law: netClasses, on fresh objects -/
theorem lc_22 {p : Program} {e : Env} {s : State} {m : MethodId} {below : List Frame} {meth : Method} {c : Code} (l : Launch) (hfl : l.stackTraces = false) {b : Nat} {xs : Nat → Int32} (hx : p.tables.exec = Jvm.exec) (hb : c.code = cL_law) (hr : meth.sig.returnType = ret) (hml : c.maxLocals = 9) (hown : s.vm.findClass RL = some m.cls) (hts : ∀ w ∈ wsL_law, w.before #[Value.ref b] s = true) (hlk : meth.locks = false) (A : Nat → Prop) (hAe : ∀ q, A q → s.heap.size ≤ q) (hA : ∀ q : Nat, s.heap.size ≤ q → A q) (hX9 : va_X b 7 xs s s.heap) (hbl : b < s.heap.size) (hN : fN s) (hZ : fZ A s s.heap) (hX : fX s) (dC : Nat → ClassId) (dI : Nat → Nat → Nat) (h0 pr w d on op un wL wK wV wN wS wB w0 w1 w2 w3 w4 w5 w6 w7 w8 w9 dL dK dV dN dS dB d0 d1 d2 d3 d4 d5 d6 d7 d8 d9 onR onL onC onD opR opL opC opD unK ma tm k0 kN kA kO kK kV kG kP kC kD kE kF kX kY kT kU oJ oD : Nat) (cI cN : ClassId) {H : Heap} {locs : List Loc} {ls : Array Slot} (hK : va_K (dC, dI) vwCl [(cN, .array .int), (cI, .int)] s) (hP : va_P (dC, dI) vwCl [(h0, .inr (8, [.ref pr, .ref ma, .ref tm])), (pr, .inr (7, [.ref w, .ref d, .ref on, .ref op, .ref un, .int 0, .int 0])), (w, .inr (3, [.int 0, .int 0, .ref wL, .ref wK, .ref wV, .ref wN, .ref wS, .ref wB, .int 0])), (d, .inr (3, [.int 0, .int 0, .ref dL, .ref dK, .ref dV, .ref dN, .ref dS, .ref dB, .int 0])), (wV, .inl (cI, 10, .inl (fun _ => 0))), (dV, .inl (cI, 10, .inl (fun _ => 0))), (wS, .inl (cI, 10, .inl (fun _ => 0))), (dS, .inl (cI, 10, .inl (fun _ => 0))), (wN, .inl (cN, 10, .inr (.inr (.inr (.inr (fch w0 w1 w2 w3 w4 w5 w6 w7 w8 w9)))))), (w0, .inl (cI, 3, .inl fM3)), (w1, .inl (cI, 3, .inl fM3)), (w2, .inl (cI, 3, .inl fM3)), (w3, .inl (cI, 3, .inl fM3)), (w4, .inl (cI, 3, .inl fM3)), (w5, .inl (cI, 3, .inl fM3)), (w6, .inl (cI, 3, .inl fM3)), (w7, .inl (cI, 3, .inl fM3)), (w8, .inl (cI, 3, .inl fM3)), (w9, .inl (cI, 3, .inl fM3)), (dN, .inl (cN, 10, .inr (.inr (.inr (.inr (fch d0 d1 d2 d3 d4 d5 d6 d7 d8 d9)))))), (d0, .inl (cI, 3, .inl fM3)), (d1, .inl (cI, 3, .inl fM3)), (d2, .inl (cI, 3, .inl fM3)), (d3, .inl (cI, 3, .inl fM3)), (d4, .inl (cI, 3, .inl fM3)), (d5, .inl (cI, 3, .inl fM3)), (d6, .inl (cI, 3, .inl fM3)), (d7, .inl (cI, 3, .inl fM3)), (d8, .inl (cI, 3, .inl fM3)), (d9, .inl (cI, 3, .inl fM3)), (on, .inr (6, [.ref onR, .ref onL, .ref onC, .ref onD, .int 0])), (onL, .inl (cI, 20, .inl (fun _ => 0))), (onC, .inl (cI, 20, .inl (fun _ => 0))), (op, .inr (6, [.ref opR, .ref opL, .ref opC, .ref opD, .int 0])), (opL, .inl (cI, 20, .inl (fun _ => 0))), (opC, .inl (cI, 20, .inl (fun _ => 0))), (un, .inr (4, [.ref unK, .int 0])), (k0, .inr (9, [.ref kN, .ref kA, .ref kO, .ref kK, .ref kV, .ref kG, .ref kP, .ref kC, .ref kD, .ref kE, .ref kF, .ref kX, .ref kY, .int 0, .ref kT, .ref kU, .int 0, .int 0, .int 0])), (kN, .inl (cI, 2, .inl (fun _ => 0))), (kA, .inl (cI, 2, .inl (fun _ => 0))), (kC, .inl (cI, 20, .inl (fun _ => 0))), (kD, .inl (cI, 20, .inl (fun _ => 0))), (kE, .inl (cI, 20, .inl (fun _ => 0))), (kF, .inl (cI, 20, .inl (fun _ => 0)))] H) (hD : va_D A [(h0, .inr (8, [.ref pr, .ref ma, .ref tm])), (pr, .inr (7, [.ref w, .ref d, .ref on, .ref op, .ref un, .int 0, .int 0])), (w, .inr (3, [.int 0, .int 0, .ref wL, .ref wK, .ref wV, .ref wN, .ref wS, .ref wB, .int 0])), (d, .inr (3, [.int 0, .int 0, .ref dL, .ref dK, .ref dV, .ref dN, .ref dS, .ref dB, .int 0])), (wV, .inl (cI, 10, .inl (fun _ => 0))), (dV, .inl (cI, 10, .inl (fun _ => 0))), (wS, .inl (cI, 10, .inl (fun _ => 0))), (dS, .inl (cI, 10, .inl (fun _ => 0))), (wN, .inl (cN, 10, .inr (.inr (.inr (.inr (fch w0 w1 w2 w3 w4 w5 w6 w7 w8 w9)))))), (w0, .inl (cI, 3, .inl fM3)), (w1, .inl (cI, 3, .inl fM3)), (w2, .inl (cI, 3, .inl fM3)), (w3, .inl (cI, 3, .inl fM3)), (w4, .inl (cI, 3, .inl fM3)), (w5, .inl (cI, 3, .inl fM3)), (w6, .inl (cI, 3, .inl fM3)), (w7, .inl (cI, 3, .inl fM3)), (w8, .inl (cI, 3, .inl fM3)), (w9, .inl (cI, 3, .inl fM3)), (dN, .inl (cN, 10, .inr (.inr (.inr (.inr (fch d0 d1 d2 d3 d4 d5 d6 d7 d8 d9)))))), (d0, .inl (cI, 3, .inl fM3)), (d1, .inl (cI, 3, .inl fM3)), (d2, .inl (cI, 3, .inl fM3)), (d3, .inl (cI, 3, .inl fM3)), (d4, .inl (cI, 3, .inl fM3)), (d5, .inl (cI, 3, .inl fM3)), (d6, .inl (cI, 3, .inl fM3)), (d7, .inl (cI, 3, .inl fM3)), (d8, .inl (cI, 3, .inl fM3)), (d9, .inl (cI, 3, .inl fM3)), (on, .inr (6, [.ref onR, .ref onL, .ref onC, .ref onD, .int 0])), (onL, .inl (cI, 20, .inl (fun _ => 0))), (onC, .inl (cI, 20, .inl (fun _ => 0))), (op, .inr (6, [.ref opR, .ref opL, .ref opC, .ref opD, .int 0])), (opL, .inl (cI, 20, .inl (fun _ => 0))), (opC, .inl (cI, 20, .inl (fun _ => 0))), (un, .inr (4, [.ref unK, .int 0])), (k0, .inr (9, [.ref kN, .ref kA, .ref kO, .ref kK, .ref kV, .ref kG, .ref kP, .ref kC, .ref kD, .ref kE, .ref kF, .ref kX, .ref kY, .int 0, .ref kT, .ref kU, .int 0, .int 0, .int 0])), (kN, .inl (cI, 2, .inl (fun _ => 0))), (kA, .inl (cI, 2, .inl (fun _ => 0))), (kC, .inl (cI, 20, .inl (fun _ => 0))), (kD, .inl (cI, 20, .inl (fun _ => 0))), (kE, .inl (cI, 20, .inl (fun _ => 0))), (kF, .inl (cI, 20, .inl (fun _ => 0)))]) (hS : va_S A s.heap H locs) (hl : lv_has ls 9 [(5, .int 0), (4, .ref oD), (3, .ref oJ), (2, .ref k0), (1, .ref h0), (0, .ref b)]) : W p l e room_1 s m #[Value.ref b] below meth c H locs 114 2061 (lw_Z below #[Value.ref b] s) (F0 m 1712 ls []) := by
  have hbA : ¬ A b := fun h => Nat.not_le.mpr hbl (hAe _ h)
  have hX0 := hX
  refine lv_aload_n hx hb dL_law_1712 rfl (lv_at hl 4 rfl) ?_
  have hPc := hP.sub (ws' := [(h0, .inr (8, [.ref pr, .ref ma, .ref tm])), (pr, .inr (7, [.ref w, .ref d, .ref on, .ref op, .ref un, .int 0, .int 0])), (w, .inr (3, [.int 0, .int 0, .ref wL, .ref wK, .ref wV, .ref wN, .ref wS, .ref wB, .int 0])), (d, .inr (3, [.int 0, .int 0, .ref dL, .ref dK, .ref dV, .ref dN, .ref dS, .ref dB, .int 0])), (wV, .inl (cI, 10, .inl (fun _ => 0))), (dV, .inl (cI, 10, .inl (fun _ => 0))), (wS, .inl (cI, 10, .inl (fun _ => 0))), (dS, .inl (cI, 10, .inl (fun _ => 0))), (wN, .inl (cN, 10, .inr (.inr (.inr (.inr (fch w0 w1 w2 w3 w4 w5 w6 w7 w8 w9)))))), (w0, .inl (cI, 3, .inl fM3)), (w1, .inl (cI, 3, .inl fM3)), (w2, .inl (cI, 3, .inl fM3)), (w3, .inl (cI, 3, .inl fM3)), (w4, .inl (cI, 3, .inl fM3)), (w5, .inl (cI, 3, .inl fM3)), (w6, .inl (cI, 3, .inl fM3)), (w7, .inl (cI, 3, .inl fM3)), (w8, .inl (cI, 3, .inl fM3)), (w9, .inl (cI, 3, .inl fM3)), (dN, .inl (cN, 10, .inr (.inr (.inr (.inr (fch d0 d1 d2 d3 d4 d5 d6 d7 d8 d9)))))), (d0, .inl (cI, 3, .inl fM3)), (d1, .inl (cI, 3, .inl fM3)), (d2, .inl (cI, 3, .inl fM3)), (d3, .inl (cI, 3, .inl fM3)), (d4, .inl (cI, 3, .inl fM3)), (d5, .inl (cI, 3, .inl fM3)), (d6, .inl (cI, 3, .inl fM3)), (d7, .inl (cI, 3, .inl fM3)), (d8, .inl (cI, 3, .inl fM3)), (d9, .inl (cI, 3, .inl fM3)), (on, .inr (6, [.ref onR, .ref onL, .ref onC, .ref onD, .int 0])), (onL, .inl (cI, 20, .inl (fun _ => 0))), (onC, .inl (cI, 20, .inl (fun _ => 0))), (op, .inr (6, [.ref opR, .ref opL, .ref opC, .ref opD, .int 0])), (opL, .inl (cI, 20, .inl (fun _ => 0))), (opC, .inl (cI, 20, .inl (fun _ => 0))), (un, .inr (4, [.ref unK, .int 0]))]) [0, 1, 2, 3, 4, 5, 6, 7, 8, 9, 10, 11, 12, 13, 14, 15, 16, 17, 18, 19, 20, 21, 22, 23, 24, 25, 26, 27, 28, 29, 30, 31, 32, 33, 34, 35, 36] rfl
  have hDc := hD.sub (ws' := [(h0, .inr (8, [.ref pr, .ref ma, .ref tm])), (pr, .inr (7, [.ref w, .ref d, .ref on, .ref op, .ref un, .int 0, .int 0])), (w, .inr (3, [.int 0, .int 0, .ref wL, .ref wK, .ref wV, .ref wN, .ref wS, .ref wB, .int 0])), (d, .inr (3, [.int 0, .int 0, .ref dL, .ref dK, .ref dV, .ref dN, .ref dS, .ref dB, .int 0])), (wV, .inl (cI, 10, .inl (fun _ => 0))), (dV, .inl (cI, 10, .inl (fun _ => 0))), (wS, .inl (cI, 10, .inl (fun _ => 0))), (dS, .inl (cI, 10, .inl (fun _ => 0))), (wN, .inl (cN, 10, .inr (.inr (.inr (.inr (fch w0 w1 w2 w3 w4 w5 w6 w7 w8 w9)))))), (w0, .inl (cI, 3, .inl fM3)), (w1, .inl (cI, 3, .inl fM3)), (w2, .inl (cI, 3, .inl fM3)), (w3, .inl (cI, 3, .inl fM3)), (w4, .inl (cI, 3, .inl fM3)), (w5, .inl (cI, 3, .inl fM3)), (w6, .inl (cI, 3, .inl fM3)), (w7, .inl (cI, 3, .inl fM3)), (w8, .inl (cI, 3, .inl fM3)), (w9, .inl (cI, 3, .inl fM3)), (dN, .inl (cN, 10, .inr (.inr (.inr (.inr (fch d0 d1 d2 d3 d4 d5 d6 d7 d8 d9)))))), (d0, .inl (cI, 3, .inl fM3)), (d1, .inl (cI, 3, .inl fM3)), (d2, .inl (cI, 3, .inl fM3)), (d3, .inl (cI, 3, .inl fM3)), (d4, .inl (cI, 3, .inl fM3)), (d5, .inl (cI, 3, .inl fM3)), (d6, .inl (cI, 3, .inl fM3)), (d7, .inl (cI, 3, .inl fM3)), (d8, .inl (cI, 3, .inl fM3)), (d9, .inl (cI, 3, .inl fM3)), (on, .inr (6, [.ref onR, .ref onL, .ref onC, .ref onD, .int 0])), (onL, .inl (cI, 20, .inl (fun _ => 0))), (onC, .inl (cI, 20, .inl (fun _ => 0))), (op, .inr (6, [.ref opR, .ref opL, .ref opC, .ref opD, .int 0])), (opL, .inl (cI, 20, .inl (fun _ => 0))), (opC, .inl (cI, 20, .inl (fun _ => 0))), (un, .inr (4, [.ref unK, .int 0]))]) [0, 1, 2, 3, 4, 5, 6, 7, 8, 9, 10, 11, 12, 13, 14, 15, 16, 17, 18, 19, 20, 21, 22, 23, 24, 25, 26, 27, 28, 29, 30, 31, 32, 33, 34, 35, 36] (by decide) rfl
  have hKc := hK.sub (tys' := [(cN, .array .int), (cI, .int)]) [0, 1] rfl
  have hFc := va_free (wc := [(h0, .inr (8, [.ref pr, .ref ma, .ref tm])), (pr, .inr (7, [.ref w, .ref d, .ref on, .ref op, .ref un, .int 0, .int 0])), (w, .inr (3, [.int 0, .int 0, .ref wL, .ref wK, .ref wV, .ref wN, .ref wS, .ref wB, .int 0])), (d, .inr (3, [.int 0, .int 0, .ref dL, .ref dK, .ref dV, .ref dN, .ref dS, .ref dB, .int 0])), (wV, .inl (cI, 10, .inl (fun _ => 0))), (dV, .inl (cI, 10, .inl (fun _ => 0))), (wS, .inl (cI, 10, .inl (fun _ => 0))), (dS, .inl (cI, 10, .inl (fun _ => 0))), (wN, .inl (cN, 10, .inr (.inr (.inr (.inr (fch w0 w1 w2 w3 w4 w5 w6 w7 w8 w9)))))), (w0, .inl (cI, 3, .inl fM3)), (w1, .inl (cI, 3, .inl fM3)), (w2, .inl (cI, 3, .inl fM3)), (w3, .inl (cI, 3, .inl fM3)), (w4, .inl (cI, 3, .inl fM3)), (w5, .inl (cI, 3, .inl fM3)), (w6, .inl (cI, 3, .inl fM3)), (w7, .inl (cI, 3, .inl fM3)), (w8, .inl (cI, 3, .inl fM3)), (w9, .inl (cI, 3, .inl fM3)), (dN, .inl (cN, 10, .inr (.inr (.inr (.inr (fch d0 d1 d2 d3 d4 d5 d6 d7 d8 d9)))))), (d0, .inl (cI, 3, .inl fM3)), (d1, .inl (cI, 3, .inl fM3)), (d2, .inl (cI, 3, .inl fM3)), (d3, .inl (cI, 3, .inl fM3)), (d4, .inl (cI, 3, .inl fM3)), (d5, .inl (cI, 3, .inl fM3)), (d6, .inl (cI, 3, .inl fM3)), (d7, .inl (cI, 3, .inl fM3)), (d8, .inl (cI, 3, .inl fM3)), (d9, .inl (cI, 3, .inl fM3)), (on, .inr (6, [.ref onR, .ref onL, .ref onC, .ref onD, .int 0])), (onL, .inl (cI, 20, .inl (fun _ => 0))), (onC, .inl (cI, 20, .inl (fun _ => 0))), (op, .inr (6, [.ref opR, .ref opL, .ref opC, .ref opD, .int 0])), (opL, .inl (cI, 20, .inl (fun _ => 0))), (opC, .inl (cI, 20, .inl (fun _ => 0))), (un, .inr (4, [.ref unK, .int 0]))]) hD hS hA [0, 1, 2, 3, 4, 5, 6, 7, 8, 9, 10, 11, 12, 13, 14, 15, 16, 17, 18, 19, 20, 21, 22, 23, 24, 25, 26, 27, 28, 29, 30, 31, 32, 33, 34, 35, 36] rfl
  refine va_calli (va_runV (As := []) (rest := []) ⟨hx, hb, hml, hown, hts⟩ (kX5_netClasses l dC dI h0 ma tm pr w d on op un wL wK wV wN wS wB dL dK dV dN dS dB w0 w1 w2 w3 w4 w5 w6 w7 w8 w9 d0 d1 d2 d3 d4 d5 d6 d7 d8 d9 onR onL onC onD opR opL opC opD unK cI cN (fun _ => 0) (fun _ => 0) (fun _ => 0) (fun _ => 0) H.size) (cwV 0 hts gL_law_X5_netClasses rfl rfl rfl (by decide +kernel) ⟨Nat.le_of_ble_eq_true rfl, Nat.le_of_ble_eq_true rfl⟩) (fPreV hN hZ hS (fun q h => hFc q h) hPc hKc hDc (ci := 8) (q0 := 0) rfl rfl) rfl rfl hl.1 rfl (lv_room (Nat.le_of_ble_eq_true rfl)) dL_law_1713 ⟨Nat.le_of_ble_eq_true rfl, Nat.le_of_ble_eq_true rfl⟩) hS (fun q _ h => hFc q h) hFc (fun r u t H1 locs ht hvm hw hB hz1 hk1 hS => ?_)
  obtain ⟨hP1, hK1, hD1⟩ := hB
  rw [ht] at hP1
  have hK1 := va_K.moved hvm.symm hK1
  obtain ⟨hP, hD⟩ := va_join (wr := [(k0, .inr (9, [.ref kN, .ref kA, .ref kO, .ref kK, .ref kV, .ref kG, .ref kP, .ref kC, .ref kD, .ref kE, .ref kF, .ref kX, .ref kY, .int 0, .ref kT, .ref kU, .int 0, .int 0, .int 0])), (kN, .inl (cI, 2, .inl (fun _ => 0))), (kA, .inl (cI, 2, .inl (fun _ => 0))), (kC, .inl (cI, 20, .inl (fun _ => 0))), (kD, .inl (cI, 20, .inl (fun _ => 0))), (kE, .inl (cI, 20, .inl (fun _ => 0))), (kF, .inl (cI, 20, .inl (fun _ => 0)))]) (w1 := []) hP hD [0, 1, 2, 3, 4, 5, 6, 7, 8, 9, 10, 11, 12, 13, 14, 15, 16, 17, 18, 19, 20, 21, 22, 23, 24, 25, 26, 27, 28, 29, 30, 31, 32, 33, 34, 35, 36] [37, 38, 39, 40, 41, 42, 43] rfl rfl (by decide) (by decide) hk1 hFc hP1 hD1
  generalize H1 = H at hP hS ⊢
  have hP : va_P (dC, dI) vwCl [(k0, .inr (9, [.ref kN, .ref kA, .ref kO, .ref kK, .ref kV, .ref kG, .ref kP, .ref kC, .ref kD, .ref kE, .ref kF, .ref kX, .ref kY, .int 0, .ref kT, .ref kU, .int 0, .int 0, .int 0])), (kN, .inl (cI, 2, .inl (fun _ => 0))), (kA, .inl (cI, 2, .inl (fun _ => 0))), (kC, .inl (cI, 20, .inl (fun _ => 0))), (kD, .inl (cI, 20, .inl (fun _ => 0))), (kE, .inl (cI, 20, .inl (fun _ => 0))), (kF, .inl (cI, 20, .inl (fun _ => 0)))] _ := hP
  have hD : va_D A [(k0, .inr (9, [.ref kN, .ref kA, .ref kO, .ref kK, .ref kV, .ref kG, .ref kP, .ref kC, .ref kD, .ref kE, .ref kF, .ref kX, .ref kY, .int 0, .ref kT, .ref kU, .int 0, .int 0, .int 0])), (kN, .inl (cI, 2, .inl (fun _ => 0))), (kA, .inl (cI, 2, .inl (fun _ => 0))), (kC, .inl (cI, 20, .inl (fun _ => 0))), (kD, .inl (cI, 20, .inl (fun _ => 0))), (kE, .inl (cI, 20, .inl (fun _ => 0))), (kF, .inl (cI, 20, .inl (fun _ => 0)))] := hD
  subst hw
  refine lv_aload_n hx hb dL_law_1716 rfl (lv_at hl 3 rfl) ?_
  have hPc := hP.sub (ws' := [(k0, .inr (9, [.ref kN, .ref kA, .ref kO, .ref kK, .ref kV, .ref kG, .ref kP, .ref kC, .ref kD, .ref kE, .ref kF, .ref kX, .ref kY, .int 0, .ref kT, .ref kU, .int 0, .int 0, .int 0])), (kN, .inl (cI, 2, .inl (fun _ => 0))), (kA, .inl (cI, 2, .inl (fun _ => 0))), (kC, .inl (cI, 20, .inl (fun _ => 0))), (kD, .inl (cI, 20, .inl (fun _ => 0))), (kE, .inl (cI, 20, .inl (fun _ => 0))), (kF, .inl (cI, 20, .inl (fun _ => 0)))]) [0, 1, 2, 3, 4, 5, 6] rfl
  have hDc := hD.sub (ws' := [(k0, .inr (9, [.ref kN, .ref kA, .ref kO, .ref kK, .ref kV, .ref kG, .ref kP, .ref kC, .ref kD, .ref kE, .ref kF, .ref kX, .ref kY, .int 0, .ref kT, .ref kU, .int 0, .int 0, .int 0])), (kN, .inl (cI, 2, .inl (fun _ => 0))), (kA, .inl (cI, 2, .inl (fun _ => 0))), (kC, .inl (cI, 20, .inl (fun _ => 0))), (kD, .inl (cI, 20, .inl (fun _ => 0))), (kE, .inl (cI, 20, .inl (fun _ => 0))), (kF, .inl (cI, 20, .inl (fun _ => 0)))]) [0, 1, 2, 3, 4, 5, 6] (by decide) rfl
  have hKc := hK.sub (tys' := [(cI, .int)]) [1] rfl
  have hFc := va_free (wc := [(k0, .inr (9, [.ref kN, .ref kA, .ref kO, .ref kK, .ref kV, .ref kG, .ref kP, .ref kC, .ref kD, .ref kE, .ref kF, .ref kX, .ref kY, .int 0, .ref kT, .ref kU, .int 0, .int 0, .int 0])), (kN, .inl (cI, 2, .inl (fun _ => 0))), (kA, .inl (cI, 2, .inl (fun _ => 0))), (kC, .inl (cI, 20, .inl (fun _ => 0))), (kD, .inl (cI, 20, .inl (fun _ => 0))), (kE, .inl (cI, 20, .inl (fun _ => 0))), (kF, .inl (cI, 20, .inl (fun _ => 0)))]) hD hS hA [0, 1, 2, 3, 4, 5, 6] rfl
  refine va_calli (va_runV (As := []) (rest := [.int 0]) ⟨hx, hb, hml, hown, hts⟩ (kX6_netClasses l dC dI k0 kN kA kO kK kV kG kP kC kD kE kF kX kY kT kU cI (fun _ => 0) (fun _ => 0) (fun _ => 0) (fun _ => 0) H.size) (cwV 0 hts gL_law_X6_netClasses rfl rfl rfl (by decide +kernel) ⟨Nat.le_of_ble_eq_true rfl, Nat.le_of_ble_eq_true rfl⟩) (fPreV hN hZ hS (fun q h => hFc q h) hPc hKc hDc (ci := 9) (q0 := 0) rfl rfl) rfl rfl hl.1 rfl (lv_room (Nat.le_of_ble_eq_true rfl)) dL_law_1717 ⟨Nat.le_of_ble_eq_true rfl, Nat.le_of_ble_eq_true rfl⟩) hS (fun q _ h => hFc q h) hFc (fun r u t H1 locs ht hvm hw hB hz1 hk1 hS => ?_)
  obtain ⟨hP1, hK1, hD1⟩ := hB
  rw [ht] at hP1
  have hK1 := va_K.moved hvm.symm hK1
  obtain ⟨u1, rfl⟩ : ∃ z, z = u := ⟨_, rfl⟩
  obtain ⟨hP, hD⟩ := va_join (wr := []) (w1 := [(k0, .inr (9, [.ref kN, .ref kA, .ref kO, .ref kK, .ref kV, .ref kG, .ref kP, .ref kC, .ref kD, .ref kE, .ref kF, .ref kX, .ref kY, .int 0, .ref kT, .ref kU, .int u1, .int 0, .int 0]))]) hP hD [0, 1, 2, 3, 4, 5, 6] [] rfl rfl (by decide) (by decide) hk1 hFc hP1 hD1
  generalize H1 = H at hP hS ⊢
  have hP : va_P (dC, dI) vwCl [(k0, .inr (9, [.ref kN, .ref kA, .ref kO, .ref kK, .ref kV, .ref kG, .ref kP, .ref kC, .ref kD, .ref kE, .ref kF, .ref kX, .ref kY, .int 0, .ref kT, .ref kU, .int u1, .int 0, .int 0]))] _ := hP
  have hD : va_D A [(k0, .inr (9, [.ref kN, .ref kA, .ref kO, .ref kK, .ref kV, .ref kG, .ref kP, .ref kC, .ref kD, .ref kE, .ref kF, .ref kX, .ref kY, .int 0, .ref kT, .ref kU, .int u1, .int 0, .int 0]))] := hD
  refine W.widen (k := 116) (n := 2101) (Nat.le_of_ble_eq_true rfl) (Nat.le_of_ble_eq_true rfl) ?_
  obtain ⟨r2, rfl⟩ : ∃ z, z = r := ⟨_, rfl⟩
  obtain ⟨rfl, rfl⟩ := hw
  have hP : va_P (dC, dI) vwCl [(k0, .inr (9, [.ref kN, .ref kA, .ref kO, .ref kK, .ref kV, .ref kG, .ref kP, .ref kC, .ref kD, .ref kE, .ref kF, .ref kX, .ref kY, .int 0, .ref kT, .ref kU, .int 0, .int 0, .int 0]))] _ := hP
  have hD : va_D A [(k0, .inr (9, [.ref kN, .ref kA, .ref kO, .ref kK, .ref kV, .ref kG, .ref kP, .ref kC, .ref kD, .ref kE, .ref kF, .ref kX, .ref kY, .int 0, .ref kT, .ref kU, .int 0, .int 0, .int 0]))] := hD
  refine lv_icmp_eq (tgt := 2720) hx hb dL_law_1720 (by decide) (fun _ => ?_) (fun h9 => absurd (by decide) h9)
  refine lv_iinc (v := 7) (lv' := [(5, .int 7), (4, .ref oD), (3, .ref oJ), (2, .ref k0), (1, .ref h0), (0, .ref b)]) hx hb dL_law_2720 hl (k := 0) rfl (by decide) (Nat.le_of_ble_eq_true rfl) rfl (fun ls hl => ?_)
  refine lv_goto (tgt := 28) hx hb dL_law_2723 (by decide) ?_
  refine lv_iload hx hb dL_law_28 (lv_at hl 0 rfl) ?_
  refine lv_aload_n hx hb dL_law_30 rfl (lv_at hl 5 rfl) ?_
  refine va_slen hx hb hX9 hbl hbA hS dL_law_31 ?_
  refine W.eq (g2 := F0 m 32 ls [.int 7, .int 7]) rfl ?_
  refine lv_bipush (v := 7) hx hb dL_law_32 (by decide) ?_
  refine lv_isub hx hb dL_law_34 ?_
  refine lv_topi (fun y3 ey3 => ?_)
  obtain rfl : y3 = 0 := ey3.trans (by decide)
  refine lv_icmp_gt (tgt := 2726) hx hb dL_law_35 (by decide) (fun _ => ?_) (fun h9 => absurd (by decide) h9)
  refine lv_iconst (v := 1) hx hb dL_law_2726 (by decide) ?_
  refine va_forget (fun q hq => hAe _ (hS.2.2 q hq)) ?_
  refine W.widen (k := 600006) (n := 7302048) (Nat.le_of_ble_eq_true rfl) (Nat.le_of_ble_eq_true rfl) ?_
  exact W.base (lw_ret (d0 := s.drawn) (Drawn.sameBut.refl _ _) hx hb hr hlk dL_law_2727)

set_option maxHeartbeats 4000000 in
set_option maxRecDepth 100000 in
/-- case 23 of the law: partClasses, on fresh objects -/
theorem lc_23 {p : Program} {e : Env} {s : State} {m : MethodId} {below : List Frame} {meth : Method} {c : Code} (l : Launch) (hfl : l.stackTraces = false) {b : Nat} {xs : Nat → Int32} (hx : p.tables.exec = Jvm.exec) (hb : c.code = cL_law) (hr : meth.sig.returnType = ret) (hml : c.maxLocals = 9) (hown : s.vm.findClass RL = some m.cls) (hts : ∀ w ∈ wsL_law, w.before #[Value.ref b] s = true) (hlk : meth.locks = false) (A : Nat → Prop) (hAe : ∀ q, A q → s.heap.size ≤ q) (hA : ∀ q : Nat, s.heap.size ≤ q → A q) (hX9 : va_X b 7 xs s s.heap) (hbl : b < s.heap.size) (hN : fN s) (hZ : fZ A s s.heap) (hX : fX s) (dC : Nat → ClassId) (dI : Nat → Nat → Nat) (h0 pr w d on op un wL wK wV wN wS wB w0 w1 w2 w3 w4 w5 w6 w7 w8 w9 dL dK dV dN dS dB d0 d1 d2 d3 d4 d5 d6 d7 d8 d9 onR onL onC onD opR opL opC opD unK ma tm k0 kN kA kO kK kV kG kP kC kD kE kF kX kY kT kU oJ oD : Nat) (cI cN : ClassId) {H : Heap} {locs : List Loc} {ls : Array Slot} (hK : va_K (dC, dI) vwCl [(cN, .array .int), (cI, .int)] s) (hP : va_P (dC, dI) vwCl [(h0, .inr (8, [.ref pr, .ref ma, .ref tm])), (pr, .inr (7, [.ref w, .ref d, .ref on, .ref op, .ref un, .int 0, .int 0])), (w, .inr (3, [.int 0, .int 0, .ref wL, .ref wK, .ref wV, .ref wN, .ref wS, .ref wB, .int 0])), (d, .inr (3, [.int 0, .int 0, .ref dL, .ref dK, .ref dV, .ref dN, .ref dS, .ref dB, .int 0])), (wV, .inl (cI, 10, .inl (fun _ => 0))), (dV, .inl (cI, 10, .inl (fun _ => 0))), (wS, .inl (cI, 10, .inl (fun _ => 0))), (dS, .inl (cI, 10, .inl (fun _ => 0))), (wN, .inl (cN, 10, .inr (.inr (.inr (.inr (fch w0 w1 w2 w3 w4 w5 w6 w7 w8 w9)))))), (w0, .inl (cI, 3, .inl fM3)), (w1, .inl (cI, 3, .inl fM3)), (w2, .inl (cI, 3, .inl fM3)), (w3, .inl (cI, 3, .inl fM3)), (w4, .inl (cI, 3, .inl fM3)), (w5, .inl (cI, 3, .inl fM3)), (w6, .inl (cI, 3, .inl fM3)), (w7, .inl (cI, 3, .inl fM3)), (w8, .inl (cI, 3, .inl fM3)), (w9, .inl (cI, 3, .inl fM3)), (dN, .inl (cN, 10, .inr (.inr (.inr (.inr (fch d0 d1 d2 d3 d4 d5 d6 d7 d8 d9)))))), (d0, .inl (cI, 3, .inl fM3)), (d1, .inl (cI, 3, .inl fM3)), (d2, .inl (cI, 3, .inl fM3)), (d3, .inl (cI, 3, .inl fM3)), (d4, .inl (cI, 3, .inl fM3)), (d5, .inl (cI, 3, .inl fM3)), (d6, .inl (cI, 3, .inl fM3)), (d7, .inl (cI, 3, .inl fM3)), (d8, .inl (cI, 3, .inl fM3)), (d9, .inl (cI, 3, .inl fM3)), (on, .inr (6, [.ref onR, .ref onL, .ref onC, .ref onD, .int 0])), (onL, .inl (cI, 20, .inl (fun _ => 0))), (onC, .inl (cI, 20, .inl (fun _ => 0))), (op, .inr (6, [.ref opR, .ref opL, .ref opC, .ref opD, .int 0])), (opL, .inl (cI, 20, .inl (fun _ => 0))), (opC, .inl (cI, 20, .inl (fun _ => 0))), (un, .inr (4, [.ref unK, .int 0])), (k0, .inr (9, [.ref kN, .ref kA, .ref kO, .ref kK, .ref kV, .ref kG, .ref kP, .ref kC, .ref kD, .ref kE, .ref kF, .ref kX, .ref kY, .int 0, .ref kT, .ref kU, .int 0, .int 0, .int 0])), (kN, .inl (cI, 2, .inl (fun _ => 0))), (kA, .inl (cI, 2, .inl (fun _ => 0))), (kC, .inl (cI, 20, .inl (fun _ => 0))), (kD, .inl (cI, 20, .inl (fun _ => 0))), (kE, .inl (cI, 20, .inl (fun _ => 0))), (kF, .inl (cI, 20, .inl (fun _ => 0)))] H) (hD : va_D A [(h0, .inr (8, [.ref pr, .ref ma, .ref tm])), (pr, .inr (7, [.ref w, .ref d, .ref on, .ref op, .ref un, .int 0, .int 0])), (w, .inr (3, [.int 0, .int 0, .ref wL, .ref wK, .ref wV, .ref wN, .ref wS, .ref wB, .int 0])), (d, .inr (3, [.int 0, .int 0, .ref dL, .ref dK, .ref dV, .ref dN, .ref dS, .ref dB, .int 0])), (wV, .inl (cI, 10, .inl (fun _ => 0))), (dV, .inl (cI, 10, .inl (fun _ => 0))), (wS, .inl (cI, 10, .inl (fun _ => 0))), (dS, .inl (cI, 10, .inl (fun _ => 0))), (wN, .inl (cN, 10, .inr (.inr (.inr (.inr (fch w0 w1 w2 w3 w4 w5 w6 w7 w8 w9)))))), (w0, .inl (cI, 3, .inl fM3)), (w1, .inl (cI, 3, .inl fM3)), (w2, .inl (cI, 3, .inl fM3)), (w3, .inl (cI, 3, .inl fM3)), (w4, .inl (cI, 3, .inl fM3)), (w5, .inl (cI, 3, .inl fM3)), (w6, .inl (cI, 3, .inl fM3)), (w7, .inl (cI, 3, .inl fM3)), (w8, .inl (cI, 3, .inl fM3)), (w9, .inl (cI, 3, .inl fM3)), (dN, .inl (cN, 10, .inr (.inr (.inr (.inr (fch d0 d1 d2 d3 d4 d5 d6 d7 d8 d9)))))), (d0, .inl (cI, 3, .inl fM3)), (d1, .inl (cI, 3, .inl fM3)), (d2, .inl (cI, 3, .inl fM3)), (d3, .inl (cI, 3, .inl fM3)), (d4, .inl (cI, 3, .inl fM3)), (d5, .inl (cI, 3, .inl fM3)), (d6, .inl (cI, 3, .inl fM3)), (d7, .inl (cI, 3, .inl fM3)), (d8, .inl (cI, 3, .inl fM3)), (d9, .inl (cI, 3, .inl fM3)), (on, .inr (6, [.ref onR, .ref onL, .ref onC, .ref onD, .int 0])), (onL, .inl (cI, 20, .inl (fun _ => 0))), (onC, .inl (cI, 20, .inl (fun _ => 0))), (op, .inr (6, [.ref opR, .ref opL, .ref opC, .ref opD, .int 0])), (opL, .inl (cI, 20, .inl (fun _ => 0))), (opC, .inl (cI, 20, .inl (fun _ => 0))), (un, .inr (4, [.ref unK, .int 0])), (k0, .inr (9, [.ref kN, .ref kA, .ref kO, .ref kK, .ref kV, .ref kG, .ref kP, .ref kC, .ref kD, .ref kE, .ref kF, .ref kX, .ref kY, .int 0, .ref kT, .ref kU, .int 0, .int 0, .int 0])), (kN, .inl (cI, 2, .inl (fun _ => 0))), (kA, .inl (cI, 2, .inl (fun _ => 0))), (kC, .inl (cI, 20, .inl (fun _ => 0))), (kD, .inl (cI, 20, .inl (fun _ => 0))), (kE, .inl (cI, 20, .inl (fun _ => 0))), (kF, .inl (cI, 20, .inl (fun _ => 0)))]) (hS : va_S A s.heap H locs) (hl : lv_has ls 9 [(5, .int 0), (4, .ref oD), (3, .ref oJ), (2, .ref k0), (1, .ref h0), (0, .ref b)]) : W p l e room_1 s m #[Value.ref b] below meth c H locs 114 2061 (lw_Z below #[Value.ref b] s) (F0 m 1725 ls []) := by
  have hbA : ¬ A b := fun h => Nat.not_le.mpr hbl (hAe _ h)
  have hX0 := hX
  refine lv_aload_n hx hb dL_law_1725 rfl (lv_at hl 4 rfl) ?_
  have hPc := hP.sub (ws' := [(h0, .inr (8, [.ref pr, .ref ma, .ref tm])), (pr, .inr (7, [.ref w, .ref d, .ref on, .ref op, .ref un, .int 0, .int 0])), (w, .inr (3, [.int 0, .int 0, .ref wL, .ref wK, .ref wV, .ref wN, .ref wS, .ref wB, .int 0])), (d, .inr (3, [.int 0, .int 0, .ref dL, .ref dK, .ref dV, .ref dN, .ref dS, .ref dB, .int 0])), (wV, .inl (cI, 10, .inl (fun _ => 0))), (dV, .inl (cI, 10, .inl (fun _ => 0))), (wS, .inl (cI, 10, .inl (fun _ => 0))), (dS, .inl (cI, 10, .inl (fun _ => 0))), (wN, .inl (cN, 10, .inr (.inr (.inr (.inr (fch w0 w1 w2 w3 w4 w5 w6 w7 w8 w9)))))), (w0, .inl (cI, 3, .inl fM3)), (w1, .inl (cI, 3, .inl fM3)), (w2, .inl (cI, 3, .inl fM3)), (w3, .inl (cI, 3, .inl fM3)), (w4, .inl (cI, 3, .inl fM3)), (w5, .inl (cI, 3, .inl fM3)), (w6, .inl (cI, 3, .inl fM3)), (w7, .inl (cI, 3, .inl fM3)), (w8, .inl (cI, 3, .inl fM3)), (w9, .inl (cI, 3, .inl fM3)), (dN, .inl (cN, 10, .inr (.inr (.inr (.inr (fch d0 d1 d2 d3 d4 d5 d6 d7 d8 d9)))))), (d0, .inl (cI, 3, .inl fM3)), (d1, .inl (cI, 3, .inl fM3)), (d2, .inl (cI, 3, .inl fM3)), (d3, .inl (cI, 3, .inl fM3)), (d4, .inl (cI, 3, .inl fM3)), (d5, .inl (cI, 3, .inl fM3)), (d6, .inl (cI, 3, .inl fM3)), (d7, .inl (cI, 3, .inl fM3)), (d8, .inl (cI, 3, .inl fM3)), (d9, .inl (cI, 3, .inl fM3)), (on, .inr (6, [.ref onR, .ref onL, .ref onC, .ref onD, .int 0])), (onL, .inl (cI, 20, .inl (fun _ => 0))), (onC, .inl (cI, 20, .inl (fun _ => 0))), (op, .inr (6, [.ref opR, .ref opL, .ref opC, .ref opD, .int 0])), (opL, .inl (cI, 20, .inl (fun _ => 0))), (opC, .inl (cI, 20, .inl (fun _ => 0))), (un, .inr (4, [.ref unK, .int 0]))]) [0, 1, 2, 3, 4, 5, 6, 7, 8, 9, 10, 11, 12, 13, 14, 15, 16, 17, 18, 19, 20, 21, 22, 23, 24, 25, 26, 27, 28, 29, 30, 31, 32, 33, 34, 35, 36] rfl
  have hDc := hD.sub (ws' := [(h0, .inr (8, [.ref pr, .ref ma, .ref tm])), (pr, .inr (7, [.ref w, .ref d, .ref on, .ref op, .ref un, .int 0, .int 0])), (w, .inr (3, [.int 0, .int 0, .ref wL, .ref wK, .ref wV, .ref wN, .ref wS, .ref wB, .int 0])), (d, .inr (3, [.int 0, .int 0, .ref dL, .ref dK, .ref dV, .ref dN, .ref dS, .ref dB, .int 0])), (wV, .inl (cI, 10, .inl (fun _ => 0))), (dV, .inl (cI, 10, .inl (fun _ => 0))), (wS, .inl (cI, 10, .inl (fun _ => 0))), (dS, .inl (cI, 10, .inl (fun _ => 0))), (wN, .inl (cN, 10, .inr (.inr (.inr (.inr (fch w0 w1 w2 w3 w4 w5 w6 w7 w8 w9)))))), (w0, .inl (cI, 3, .inl fM3)), (w1, .inl (cI, 3, .inl fM3)), (w2, .inl (cI, 3, .inl fM3)), (w3, .inl (cI, 3, .inl fM3)), (w4, .inl (cI, 3, .inl fM3)), (w5, .inl (cI, 3, .inl fM3)), (w6, .inl (cI, 3, .inl fM3)), (w7, .inl (cI, 3, .inl fM3)), (w8, .inl (cI, 3, .inl fM3)), (w9, .inl (cI, 3, .inl fM3)), (dN, .inl (cN, 10, .inr (.inr (.inr (.inr (fch d0 d1 d2 d3 d4 d5 d6 d7 d8 d9)))))), (d0, .inl (cI, 3, .inl fM3)), (d1, .inl (cI, 3, .inl fM3)), (d2, .inl (cI, 3, .inl fM3)), (d3, .inl (cI, 3, .inl fM3)), (d4, .inl (cI, 3, .inl fM3)), (d5, .inl (cI, 3, .inl fM3)), (d6, .inl (cI, 3, .inl fM3)), (d7, .inl (cI, 3, .inl fM3)), (d8, .inl (cI, 3, .inl fM3)), (d9, .inl (cI, 3, .inl fM3)), (on, .inr (6, [.ref onR, .ref onL, .ref onC, .ref onD, .int 0])), (onL, .inl (cI, 20, .inl (fun _ => 0))), (onC, .inl (cI, 20, .inl (fun _ => 0))), (op, .inr (6, [.ref opR, .ref opL, .ref opC, .ref opD, .int 0])), (opL, .inl (cI, 20, .inl (fun _ => 0))), (opC, .inl (cI, 20, .inl (fun _ => 0))), (un, .inr (4, [.ref unK, .int 0]))]) [0, 1, 2, 3, 4, 5, 6, 7, 8, 9, 10, 11, 12, 13, 14, 15, 16, 17, 18, 19, 20, 21, 22, 23, 24, 25, 26, 27, 28, 29, 30, 31, 32, 33, 34, 35, 36] (by decide) rfl
  have hKc := hK.sub (tys' := [(cN, .array .int), (cI, .int)]) [0, 1] rfl
  have hFc := va_free (wc := [(h0, .inr (8, [.ref pr, .ref ma, .ref tm])), (pr, .inr (7, [.ref w, .ref d, .ref on, .ref op, .ref un, .int 0, .int 0])), (w, .inr (3, [.int 0, .int 0, .ref wL, .ref wK, .ref wV, .ref wN, .ref wS, .ref wB, .int 0])), (d, .inr (3, [.int 0, .int 0, .ref dL, .ref dK, .ref dV, .ref dN, .ref dS, .ref dB, .int 0])), (wV, .inl (cI, 10, .inl (fun _ => 0))), (dV, .inl (cI, 10, .inl (fun _ => 0))), (wS, .inl (cI, 10, .inl (fun _ => 0))), (dS, .inl (cI, 10, .inl (fun _ => 0))), (wN, .inl (cN, 10, .inr (.inr (.inr (.inr (fch w0 w1 w2 w3 w4 w5 w6 w7 w8 w9)))))), (w0, .inl (cI, 3, .inl fM3)), (w1, .inl (cI, 3, .inl fM3)), (w2, .inl (cI, 3, .inl fM3)), (w3, .inl (cI, 3, .inl fM3)), (w4, .inl (cI, 3, .inl fM3)), (w5, .inl (cI, 3, .inl fM3)), (w6, .inl (cI, 3, .inl fM3)), (w7, .inl (cI, 3, .inl fM3)), (w8, .inl (cI, 3, .inl fM3)), (w9, .inl (cI, 3, .inl fM3)), (dN, .inl (cN, 10, .inr (.inr (.inr (.inr (fch d0 d1 d2 d3 d4 d5 d6 d7 d8 d9)))))), (d0, .inl (cI, 3, .inl fM3)), (d1, .inl (cI, 3, .inl fM3)), (d2, .inl (cI, 3, .inl fM3)), (d3, .inl (cI, 3, .inl fM3)), (d4, .inl (cI, 3, .inl fM3)), (d5, .inl (cI, 3, .inl fM3)), (d6, .inl (cI, 3, .inl fM3)), (d7, .inl (cI, 3, .inl fM3)), (d8, .inl (cI, 3, .inl fM3)), (d9, .inl (cI, 3, .inl fM3)), (on, .inr (6, [.ref onR, .ref onL, .ref onC, .ref onD, .int 0])), (onL, .inl (cI, 20, .inl (fun _ => 0))), (onC, .inl (cI, 20, .inl (fun _ => 0))), (op, .inr (6, [.ref opR, .ref opL, .ref opC, .ref opD, .int 0])), (opL, .inl (cI, 20, .inl (fun _ => 0))), (opC, .inl (cI, 20, .inl (fun _ => 0))), (un, .inr (4, [.ref unK, .int 0]))]) hD hS hA [0, 1, 2, 3, 4, 5, 6, 7, 8, 9, 10, 11, 12, 13, 14, 15, 16, 17, 18, 19, 20, 21, 22, 23, 24, 25, 26, 27, 28, 29, 30, 31, 32, 33, 34, 35, 36] rfl
  refine va_calli (va_runV (As := []) (rest := []) ⟨hx, hb, hml, hown, hts⟩ (kX5_partClasses l dC dI h0 ma tm pr w d on op un wL wK wV wN wS wB dL dK dV dN dS dB w0 w1 w2 w3 w4 w5 w6 w7 w8 w9 d0 d1 d2 d3 d4 d5 d6 d7 d8 d9 onR onL onC onD opR opL opC opD unK cI cN (fun _ => 0) (fun _ => 0) (fun _ => 0) (fun _ => 0) H.size) (cwV 0 hts gL_law_X5_partClasses rfl rfl rfl (by decide +kernel) ⟨Nat.le_of_ble_eq_true rfl, Nat.le_of_ble_eq_true rfl⟩) (fPreV hN hZ hS (fun q h => hFc q h) hPc hKc hDc (ci := 8) (q0 := 0) rfl rfl) rfl rfl hl.1 rfl (lv_room (Nat.le_of_ble_eq_true rfl)) dL_law_1726 ⟨Nat.le_of_ble_eq_true rfl, Nat.le_of_ble_eq_true rfl⟩) hS (fun q _ h => hFc q h) hFc (fun r u t H1 locs ht hvm hw hB hz1 hk1 hS => ?_)
  obtain ⟨hP1, hK1, hD1⟩ := hB
  rw [ht] at hP1
  have hK1 := va_K.moved hvm.symm hK1
  obtain ⟨hP, hD⟩ := va_join (wr := [(k0, .inr (9, [.ref kN, .ref kA, .ref kO, .ref kK, .ref kV, .ref kG, .ref kP, .ref kC, .ref kD, .ref kE, .ref kF, .ref kX, .ref kY, .int 0, .ref kT, .ref kU, .int 0, .int 0, .int 0])), (kN, .inl (cI, 2, .inl (fun _ => 0))), (kA, .inl (cI, 2, .inl (fun _ => 0))), (kC, .inl (cI, 20, .inl (fun _ => 0))), (kD, .inl (cI, 20, .inl (fun _ => 0))), (kE, .inl (cI, 20, .inl (fun _ => 0))), (kF, .inl (cI, 20, .inl (fun _ => 0)))]) (w1 := []) hP hD [0, 1, 2, 3, 4, 5, 6, 7, 8, 9, 10, 11, 12, 13, 14, 15, 16, 17, 18, 19, 20, 21, 22, 23, 24, 25, 26, 27, 28, 29, 30, 31, 32, 33, 34, 35, 36] [37, 38, 39, 40, 41, 42, 43] rfl rfl (by decide) (by decide) hk1 hFc hP1 hD1
  generalize H1 = H at hP hS ⊢
  have hP : va_P (dC, dI) vwCl [(k0, .inr (9, [.ref kN, .ref kA, .ref kO, .ref kK, .ref kV, .ref kG, .ref kP, .ref kC, .ref kD, .ref kE, .ref kF, .ref kX, .ref kY, .int 0, .ref kT, .ref kU, .int 0, .int 0, .int 0])), (kN, .inl (cI, 2, .inl (fun _ => 0))), (kA, .inl (cI, 2, .inl (fun _ => 0))), (kC, .inl (cI, 20, .inl (fun _ => 0))), (kD, .inl (cI, 20, .inl (fun _ => 0))), (kE, .inl (cI, 20, .inl (fun _ => 0))), (kF, .inl (cI, 20, .inl (fun _ => 0)))] _ := hP
  have hD : va_D A [(k0, .inr (9, [.ref kN, .ref kA, .ref kO, .ref kK, .ref kV, .ref kG, .ref kP, .ref kC, .ref kD, .ref kE, .ref kF, .ref kX, .ref kY, .int 0, .ref kT, .ref kU, .int 0, .int 0, .int 0])), (kN, .inl (cI, 2, .inl (fun _ => 0))), (kA, .inl (cI, 2, .inl (fun _ => 0))), (kC, .inl (cI, 20, .inl (fun _ => 0))), (kD, .inl (cI, 20, .inl (fun _ => 0))), (kE, .inl (cI, 20, .inl (fun _ => 0))), (kF, .inl (cI, 20, .inl (fun _ => 0)))] := hD
  subst hw
  refine lv_aload_n hx hb dL_law_1729 rfl (lv_at hl 3 rfl) ?_
  have hPc := hP.sub (ws' := [(k0, .inr (9, [.ref kN, .ref kA, .ref kO, .ref kK, .ref kV, .ref kG, .ref kP, .ref kC, .ref kD, .ref kE, .ref kF, .ref kX, .ref kY, .int 0, .ref kT, .ref kU, .int 0, .int 0, .int 0])), (kN, .inl (cI, 2, .inl (fun _ => 0))), (kA, .inl (cI, 2, .inl (fun _ => 0))), (kC, .inl (cI, 20, .inl (fun _ => 0))), (kD, .inl (cI, 20, .inl (fun _ => 0))), (kE, .inl (cI, 20, .inl (fun _ => 0))), (kF, .inl (cI, 20, .inl (fun _ => 0)))]) [0, 1, 2, 3, 4, 5, 6] rfl
  have hDc := hD.sub (ws' := [(k0, .inr (9, [.ref kN, .ref kA, .ref kO, .ref kK, .ref kV, .ref kG, .ref kP, .ref kC, .ref kD, .ref kE, .ref kF, .ref kX, .ref kY, .int 0, .ref kT, .ref kU, .int 0, .int 0, .int 0])), (kN, .inl (cI, 2, .inl (fun _ => 0))), (kA, .inl (cI, 2, .inl (fun _ => 0))), (kC, .inl (cI, 20, .inl (fun _ => 0))), (kD, .inl (cI, 20, .inl (fun _ => 0))), (kE, .inl (cI, 20, .inl (fun _ => 0))), (kF, .inl (cI, 20, .inl (fun _ => 0)))]) [0, 1, 2, 3, 4, 5, 6] (by decide) rfl
  have hKc := hK.sub (tys' := [(cI, .int)]) [1] rfl
  have hFc := va_free (wc := [(k0, .inr (9, [.ref kN, .ref kA, .ref kO, .ref kK, .ref kV, .ref kG, .ref kP, .ref kC, .ref kD, .ref kE, .ref kF, .ref kX, .ref kY, .int 0, .ref kT, .ref kU, .int 0, .int 0, .int 0])), (kN, .inl (cI, 2, .inl (fun _ => 0))), (kA, .inl (cI, 2, .inl (fun _ => 0))), (kC, .inl (cI, 20, .inl (fun _ => 0))), (kD, .inl (cI, 20, .inl (fun _ => 0))), (kE, .inl (cI, 20, .inl (fun _ => 0))), (kF, .inl (cI, 20, .inl (fun _ => 0)))]) hD hS hA [0, 1, 2, 3, 4, 5, 6] rfl
  refine va_calli (va_runV (As := []) (rest := [.int 0]) ⟨hx, hb, hml, hown, hts⟩ (kX6_partClasses l dC dI k0 kN kA kO kK kV kG kP kC kD kE kF kX kY kT kU cI (fun _ => 0) (fun _ => 0) (fun _ => 0) (fun _ => 0) H.size) (cwV 0 hts gL_law_X6_partClasses rfl rfl rfl (by decide +kernel) ⟨Nat.le_of_ble_eq_true rfl, Nat.le_of_ble_eq_true rfl⟩) (fPreV hN hZ hS (fun q h => hFc q h) hPc hKc hDc (ci := 9) (q0 := 0) rfl rfl) rfl rfl hl.1 rfl (lv_room (Nat.le_of_ble_eq_true rfl)) dL_law_1730 ⟨Nat.le_of_ble_eq_true rfl, Nat.le_of_ble_eq_true rfl⟩) hS (fun q _ h => hFc q h) hFc (fun r u t H1 locs ht hvm hw hB hz1 hk1 hS => ?_)
  obtain ⟨hP1, hK1, hD1⟩ := hB
  rw [ht] at hP1
  have hK1 := va_K.moved hvm.symm hK1
  obtain ⟨u1, rfl⟩ : ∃ z, z = u := ⟨_, rfl⟩
  obtain ⟨hP, hD⟩ := va_join (wr := []) (w1 := [(k0, .inr (9, [.ref kN, .ref kA, .ref kO, .ref kK, .ref kV, .ref kG, .ref kP, .ref kC, .ref kD, .ref kE, .ref kF, .ref kX, .ref kY, .int 0, .ref kT, .ref kU, .int u1, .int 0, .int 0]))]) hP hD [0, 1, 2, 3, 4, 5, 6] [] rfl rfl (by decide) (by decide) hk1 hFc hP1 hD1
  generalize H1 = H at hP hS ⊢
  have hP : va_P (dC, dI) vwCl [(k0, .inr (9, [.ref kN, .ref kA, .ref kO, .ref kK, .ref kV, .ref kG, .ref kP, .ref kC, .ref kD, .ref kE, .ref kF, .ref kX, .ref kY, .int 0, .ref kT, .ref kU, .int u1, .int 0, .int 0]))] _ := hP
  have hD : va_D A [(k0, .inr (9, [.ref kN, .ref kA, .ref kO, .ref kK, .ref kV, .ref kG, .ref kP, .ref kC, .ref kD, .ref kE, .ref kF, .ref kX, .ref kY, .int 0, .ref kT, .ref kU, .int u1, .int 0, .int 0]))] := hD
  refine W.widen (k := 116) (n := 2101) (Nat.le_of_ble_eq_true rfl) (Nat.le_of_ble_eq_true rfl) ?_
  obtain ⟨r2, rfl⟩ : ∃ z, z = r := ⟨_, rfl⟩
  obtain ⟨rfl, rfl⟩ := hw
  have hP : va_P (dC, dI) vwCl [(k0, .inr (9, [.ref kN, .ref kA, .ref kO, .ref kK, .ref kV, .ref kG, .ref kP, .ref kC, .ref kD, .ref kE, .ref kF, .ref kX, .ref kY, .int 0, .ref kT, .ref kU, .int 0, .int 0, .int 0]))] _ := hP
  have hD : va_D A [(k0, .inr (9, [.ref kN, .ref kA, .ref kO, .ref kK, .ref kV, .ref kG, .ref kP, .ref kC, .ref kD, .ref kE, .ref kF, .ref kX, .ref kY, .int 0, .ref kT, .ref kU, .int 0, .int 0, .int 0]))] := hD
  refine lv_icmp_eq (tgt := 2720) hx hb dL_law_1733 (by decide) (fun _ => ?_) (fun h9 => absurd (by decide) h9)
  refine lv_iinc (v := 7) (lv' := [(5, .int 7), (4, .ref oD), (3, .ref oJ), (2, .ref k0), (1, .ref h0), (0, .ref b)]) hx hb dL_law_2720 hl (k := 0) rfl (by decide) (Nat.le_of_ble_eq_true rfl) rfl (fun ls hl => ?_)
  refine lv_goto (tgt := 28) hx hb dL_law_2723 (by decide) ?_
  refine lv_iload hx hb dL_law_28 (lv_at hl 0 rfl) ?_
  refine lv_aload_n hx hb dL_law_30 rfl (lv_at hl 5 rfl) ?_
  refine va_slen hx hb hX9 hbl hbA hS dL_law_31 ?_
  refine W.eq (g2 := F0 m 32 ls [.int 7, .int 7]) rfl ?_
  refine lv_bipush (v := 7) hx hb dL_law_32 (by decide) ?_
  refine lv_isub hx hb dL_law_34 ?_
  refine lv_topi (fun y3 ey3 => ?_)
  obtain rfl : y3 = 0 := ey3.trans (by decide)
  refine lv_icmp_gt (tgt := 2726) hx hb dL_law_35 (by decide) (fun _ => ?_) (fun h9 => absurd (by decide) h9)
  refine lv_iconst (v := 1) hx hb dL_law_2726 (by decide) ?_
  refine va_forget (fun q hq => hAe _ (hS.2.2 q hq)) ?_
  refine W.widen (k := 600006) (n := 7302048) (Nat.le_of_ble_eq_true rfl) (Nat.le_of_ble_eq_true rfl) ?_
  exact W.base (lw_ret (d0 := s.drawn) (Drawn.sameBut.refl _ _) hx hb hr hlk dL_law_2727)

set_option maxHeartbeats 4000000 in
set_option maxRecDepth 100000 in
/-- case 24 of the law: netsLike, on fresh objects -/
theorem lc_24 {p : Program} {e : Env} {s : State} {m : MethodId} {below : List Frame} {meth : Method} {c : Code} (l : Launch) (hfl : l.stackTraces = false) {b : Nat} {xs : Nat → Int32} (hx : p.tables.exec = Jvm.exec) (hb : c.code = cL_law) (hr : meth.sig.returnType = ret) (hml : c.maxLocals = 9) (hown : s.vm.findClass RL = some m.cls) (hts : ∀ w ∈ wsL_law, w.before #[Value.ref b] s = true) (hlk : meth.locks = false) (A : Nat → Prop) (hAe : ∀ q, A q → s.heap.size ≤ q) (hA : ∀ q : Nat, s.heap.size ≤ q → A q) (hX9 : va_X b 7 xs s s.heap) (hbl : b < s.heap.size) (hN : fN s) (hZ : fZ A s s.heap) (hX : fX s) (dC : Nat → ClassId) (dI : Nat → Nat → Nat) (h0 pr w d on op un wL wK wV wN wS wB dL dK dV dN dS dB ma tm k0 kN kA kO kK kV kG kP kC kD kE kF kX kY kT kU oJ oD : Nat) (cI cJ : ClassId) {H : Heap} {locs : List Loc} {ls : Array Slot} (hK : va_K (dC, dI) vwCl [(cI, .int), (cJ, .long)] s) (hP : va_P (dC, dI) vwCl [(h0, .inr (8, [.ref pr, .ref ma, .ref tm])), (pr, .inr (7, [.ref w, .ref d, .ref on, .ref op, .ref un, .int 0, .int 0])), (w, .inr (3, [.int 0, .int 0, .ref wL, .ref wK, .ref wV, .ref wN, .ref wS, .ref wB, .int 0])), (d, .inr (3, [.int 0, .int 0, .ref dL, .ref dK, .ref dV, .ref dN, .ref dS, .ref dB, .int 0])), (k0, .inr (9, [.ref kN, .ref kA, .ref kO, .ref kK, .ref kV, .ref kG, .ref kP, .ref kC, .ref kD, .ref kE, .ref kF, .ref kX, .ref kY, .int 0, .ref kT, .ref kU, .int 0, .int 0, .int 0])), (kN, .inl (cI, 2, .inl (fun _ => 0))), (kA, .inl (cI, 2, .inl (fun _ => 0))), (oJ, .inl (cJ, 1, .inr (.inl (fun _ => 0))))] H) (hD : va_D A [(h0, .inr (8, [.ref pr, .ref ma, .ref tm])), (pr, .inr (7, [.ref w, .ref d, .ref on, .ref op, .ref un, .int 0, .int 0])), (w, .inr (3, [.int 0, .int 0, .ref wL, .ref wK, .ref wV, .ref wN, .ref wS, .ref wB, .int 0])), (d, .inr (3, [.int 0, .int 0, .ref dL, .ref dK, .ref dV, .ref dN, .ref dS, .ref dB, .int 0])), (k0, .inr (9, [.ref kN, .ref kA, .ref kO, .ref kK, .ref kV, .ref kG, .ref kP, .ref kC, .ref kD, .ref kE, .ref kF, .ref kX, .ref kY, .int 0, .ref kT, .ref kU, .int 0, .int 0, .int 0])), (kN, .inl (cI, 2, .inl (fun _ => 0))), (kA, .inl (cI, 2, .inl (fun _ => 0))), (oJ, .inl (cJ, 1, .inr (.inl (fun _ => 0))))]) (hS : va_S A s.heap H locs) (hl : lv_has ls 9 [(5, .int 0), (4, .ref oD), (3, .ref oJ), (2, .ref k0), (1, .ref h0), (0, .ref b)]) : W p l e room_1 s m #[Value.ref b] below meth c H locs 114 2061 (lw_Z below #[Value.ref b] s) (F0 m 1738 ls []) := by
  have hbA : ¬ A b := fun h => Nat.not_le.mpr hbl (hAe _ h)
  have hX0 := hX
  refine lv_aload_n hx hb dL_law_1738 rfl (lv_at hl 4 rfl) ?_
  refine lv_aload_n hx hb dL_law_1739 rfl (lv_at hl 5 rfl) ?_
  refine lv_iload hx hb dL_law_1740 (lv_at hl 0 rfl) ?_
  refine lv_iconst (v := 1) hx hb dL_law_1742 (by decide) ?_
  refine lv_iadd hx hb dL_law_1743 ?_
  refine lv_topi (fun y1 ey1 => ?_)
  obtain rfl : y1 = 1 := ey1.trans (by decide)
  refine va_sld hx hb hX9 hbl hbA hS (show ¬ (_ ∨ _) by decide) dL_law_1744 ?_
  refine W.eq (g2 := F0 m 1745 ls [.int (xs 1), .ref h0]) rfl ?_
  refine lv_aload_n hx hb dL_law_1745 rfl (lv_at hl 5 rfl) ?_
  refine lv_iload hx hb dL_law_1746 (lv_at hl 0 rfl) ?_
  refine lv_iconst (v := 2) hx hb dL_law_1748 (by decide) ?_
  refine lv_iadd hx hb dL_law_1749 ?_
  refine lv_topi (fun y2 ey2 => ?_)
  obtain rfl : y2 = 2 := ey2.trans (by decide)
  refine va_sld hx hb hX9 hbl hbA hS (show ¬ (_ ∨ _) by decide) dL_law_1750 ?_
  refine W.eq (g2 := F0 m 1751 ls [.int (xs 2), .int (xs 1), .ref h0]) rfl ?_
  refine lv_aload_n hx hb dL_law_1751 rfl (lv_at hl 5 rfl) ?_
  refine lv_iload hx hb dL_law_1752 (lv_at hl 0 rfl) ?_
  refine lv_iconst (v := 3) hx hb dL_law_1754 (by decide) ?_
  refine lv_iadd hx hb dL_law_1755 ?_
  refine lv_topi (fun y3 ey3 => ?_)
  obtain rfl : y3 = 3 := ey3.trans (by decide)
  refine va_sld hx hb hX9 hbl hbA hS (show ¬ (_ ∨ _) by decide) dL_law_1756 ?_
  refine W.eq (g2 := F0 m 1757 ls [.int (xs 3), .int (xs 2), .int (xs 1), .ref h0]) rfl ?_
  refine lv_aload_n hx hb dL_law_1757 rfl (lv_at hl 2 rfl) ?_
  have hPc := hP.sub (ws' := [(h0, .inr (8, [.ref pr, .ref ma, .ref tm])), (pr, .inr (7, [.ref w, .ref d, .ref on, .ref op, .ref un, .int 0, .int 0])), (w, .inr (3, [.int 0, .int 0, .ref wL, .ref wK, .ref wV, .ref wN, .ref wS, .ref wB, .int 0])), (d, .inr (3, [.int 0, .int 0, .ref dL, .ref dK, .ref dV, .ref dN, .ref dS, .ref dB, .int 0])), (oJ, .inl (cJ, 1, .inr (.inl (fun _ => 0))))]) [0, 1, 2, 3, 7] rfl
  have hDc := hD.sub (ws' := [(h0, .inr (8, [.ref pr, .ref ma, .ref tm])), (pr, .inr (7, [.ref w, .ref d, .ref on, .ref op, .ref un, .int 0, .int 0])), (w, .inr (3, [.int 0, .int 0, .ref wL, .ref wK, .ref wV, .ref wN, .ref wS, .ref wB, .int 0])), (d, .inr (3, [.int 0, .int 0, .ref dL, .ref dK, .ref dV, .ref dN, .ref dS, .ref dB, .int 0])), (oJ, .inl (cJ, 1, .inr (.inl (fun _ => 0))))]) [0, 1, 2, 3, 7] (by decide) rfl
  have hKc := hK.sub (tys' := [(cJ, .long)]) [1] rfl
  have hFc := va_free (wc := [(h0, .inr (8, [.ref pr, .ref ma, .ref tm])), (pr, .inr (7, [.ref w, .ref d, .ref on, .ref op, .ref un, .int 0, .int 0])), (w, .inr (3, [.int 0, .int 0, .ref wL, .ref wK, .ref wV, .ref wN, .ref wS, .ref wB, .int 0])), (d, .inr (3, [.int 0, .int 0, .ref dL, .ref dK, .ref dV, .ref dN, .ref dS, .ref dB, .int 0])), (oJ, .inl (cJ, 1, .inr (.inl (fun _ => 0))))]) hD hS hA [0, 1, 2, 3, 7] rfl
  refine vx_calli (vx_runSX (As := [.ref h0, .int (xs 1), .int (xs 2), .int (xs 3), .ref oJ]) (rest := []) ⟨hx, hb, hml, hown, hts⟩ (kL_netsLike l hfl dC dI h0 pr ma tm w d on op un wL wK wV wN wS wB dL dK dV dN dS dB oJ cJ (xs 1) (xs 2) (xs 3) H.size) (vx_cwSW 5 hts gL_law_L_netsLike rfl rfl rfl (by decide +kernel) ⟨Nat.le_of_ble_eq_true rfl, Nat.le_of_ble_eq_true rfl⟩) (gPreS hX hN hZ hS (fun q h => hFc q h) hPc hKc hDc) rfl rfl hl.1 rfl (lv_room (Nat.le_of_ble_eq_true rfl)) dL_law_1758 ⟨Nat.le_of_ble_eq_true rfl, Nat.le_of_ble_eq_true rfl⟩) hS (fun q _ h => hFc q h) hFc (fun q _ h => hFc q h) (fun E ce q9 u t H locs ht hvm hpx hE hz1 hk1 hS hq9 hv9 hc9 => ?_) (fun r u t H1 locs ht hvm hw hB hz1 hk1 hS => ?_)
  · skip
    exact hE.elim
  · skip
    obtain ⟨hP1, hK1, hD1⟩ := hB
    rw [ht] at hP1
    have hK1 := va_K.moved hvm.symm hK1
    obtain ⟨u4, rfl⟩ : ∃ z, z = u := ⟨_, rfl⟩
    obtain ⟨hP, hD⟩ := va_join (wr := [(k0, .inr (9, [.ref kN, .ref kA, .ref kO, .ref kK, .ref kV, .ref kG, .ref kP, .ref kC, .ref kD, .ref kE, .ref kF, .ref kX, .ref kY, .int 0, .ref kT, .ref kU, .int 0, .int 0, .int 0])), (kN, .inl (cI, 2, .inl (fun _ => 0))), (kA, .inl (cI, 2, .inl (fun _ => 0)))]) (w1 := [(oJ, .inl (cJ, 1, .inr (.inl u4)))]) hP hD [0, 1, 2, 3, 7] [4, 5, 6] rfl rfl (by decide) (by decide) hk1 hFc hP1 hD1
    generalize H1 = H at hP hS ⊢
    have hP : va_P (dC, dI) vwCl [(k0, .inr (9, [.ref kN, .ref kA, .ref kO, .ref kK, .ref kV, .ref kG, .ref kP, .ref kC, .ref kD, .ref kE, .ref kF, .ref kX, .ref kY, .int 0, .ref kT, .ref kU, .int 0, .int 0, .int 0])), (kN, .inl (cI, 2, .inl (fun _ => 0))), (kA, .inl (cI, 2, .inl (fun _ => 0))), (oJ, .inl (cJ, 1, .inr (.inl u4)))] _ := hP
    have hD : va_D A [(k0, .inr (9, [.ref kN, .ref kA, .ref kO, .ref kK, .ref kV, .ref kG, .ref kP, .ref kC, .ref kD, .ref kE, .ref kF, .ref kX, .ref kY, .int 0, .ref kT, .ref kU, .int 0, .int 0, .int 0])), (kN, .inl (cI, 2, .inl (fun _ => 0))), (kA, .inl (cI, 2, .inl (fun _ => 0))), (oJ, .inl (cJ, 1, .inr (.inl u4)))] := hD
    refine W.widen (k := 117) (n := 2079) (Nat.le_of_ble_eq_true rfl) (Nat.le_of_ble_eq_true rfl) ?_
    rcases hw with ⟨rfl, hf9⟩ | ⟨rfl, hf9⟩
    · skip
      have hf5 := hf9
      refine lv_istore (lv' := [(6, .int 1), (5, .int 0), (4, .ref oD), (3, .ref oJ), (2, .ref k0), (1, .ref h0), (0, .ref b)]) hx hb dL_law_1761 hl (Nat.le_of_ble_eq_true rfl) rfl (fun ls hl => ?_)
      refine lv_aload_n hx hb dL_law_1763 rfl (lv_at hl 4 rfl) ?_
      refine lv_aload_n hx hb dL_law_1764 rfl (lv_at hl 6 rfl) ?_
      refine lv_iload hx hb dL_law_1765 (lv_at hl 1 rfl) ?_
      refine lv_iconst (v := 1) hx hb dL_law_1767 (by decide) ?_
      refine lv_iadd hx hb dL_law_1768 ?_
      refine lv_topi (fun y6 ey6 => ?_)
      obtain rfl : y6 = 1 := ey6.trans (by decide)
      refine va_sld hx hb hX9 hbl hbA hS (show ¬ (_ ∨ _) by decide) dL_law_1769 ?_
      refine W.eq (g2 := F0 m 1770 ls [.int (xs 1), .ref k0]) rfl ?_
      refine lv_aload_n hx hb dL_law_1770 rfl (lv_at hl 6 rfl) ?_
      refine lv_iload hx hb dL_law_1771 (lv_at hl 1 rfl) ?_
      refine lv_iconst (v := 2) hx hb dL_law_1773 (by decide) ?_
      refine lv_iadd hx hb dL_law_1774 ?_
      refine lv_topi (fun y7 ey7 => ?_)
      obtain rfl : y7 = 2 := ey7.trans (by decide)
      refine va_sld hx hb hX9 hbl hbA hS (show ¬ (_ ∨ _) by decide) dL_law_1775 ?_
      refine W.eq (g2 := F0 m 1776 ls [.int (xs 2), .int (xs 1), .ref k0]) rfl ?_
      refine lv_aload_n hx hb dL_law_1776 rfl (lv_at hl 6 rfl) ?_
      refine lv_iload hx hb dL_law_1777 (lv_at hl 1 rfl) ?_
      refine lv_iconst (v := 3) hx hb dL_law_1779 (by decide) ?_
      refine lv_iadd hx hb dL_law_1780 ?_
      refine lv_topi (fun y8 ey8 => ?_)
      obtain rfl : y8 = 3 := ey8.trans (by decide)
      refine va_sld hx hb hX9 hbl hbA hS (show ¬ (_ ∨ _) by decide) dL_law_1781 ?_
      refine W.eq (g2 := F0 m 1782 ls [.int (xs 3), .int (xs 2), .int (xs 1), .ref k0]) rfl ?_
      have hPc := hP.sub (ws' := [(k0, .inr (9, [.ref kN, .ref kA, .ref kO, .ref kK, .ref kV, .ref kG, .ref kP, .ref kC, .ref kD, .ref kE, .ref kF, .ref kX, .ref kY, .int 0, .ref kT, .ref kU, .int 0, .int 0, .int 0])), (kN, .inl (cI, 2, .inl (fun _ => 0))), (kA, .inl (cI, 2, .inl (fun _ => 0)))]) [0, 1, 2] rfl
      have hDc := hD.sub (ws' := [(k0, .inr (9, [.ref kN, .ref kA, .ref kO, .ref kK, .ref kV, .ref kG, .ref kP, .ref kC, .ref kD, .ref kE, .ref kF, .ref kX, .ref kY, .int 0, .ref kT, .ref kU, .int 0, .int 0, .int 0])), (kN, .inl (cI, 2, .inl (fun _ => 0))), (kA, .inl (cI, 2, .inl (fun _ => 0)))]) [0, 1, 2] (by decide) rfl
      have hKc := hK.sub (tys' := [(cI, .int)]) [0] rfl
      have hFc := va_free (wc := [(k0, .inr (9, [.ref kN, .ref kA, .ref kO, .ref kK, .ref kV, .ref kG, .ref kP, .ref kC, .ref kD, .ref kE, .ref kF, .ref kX, .ref kY, .int 0, .ref kT, .ref kU, .int 0, .int 0, .int 0])), (kN, .inl (cI, 2, .inl (fun _ => 0))), (kA, .inl (cI, 2, .inl (fun _ => 0)))]) hD hS hA [0, 1, 2] rfl
      refine va_calli (va_runV (As := [.int (xs 1), .int (xs 2), .int (xs 3)]) (rest := []) ⟨hx, hb, hml, hown, hts⟩ (kX6_netsLike l dC dI k0 kN kA kO kK kV kG kP kC kD kE kF kX kY kT kU cI (xs 1) (xs 2) (xs 3) H.size) (cwV 3 hts gL_law_X6_netsLike rfl rfl rfl (by decide +kernel) ⟨Nat.le_of_ble_eq_true rfl, Nat.le_of_ble_eq_true rfl⟩) (fPreV hN hZ hS (fun q h => hFc q h) hPc hKc hDc (ci := 9) (q0 := 0) rfl rfl) rfl rfl hl.1 rfl (lv_room (Nat.le_of_ble_eq_true rfl)) dL_law_1782 ⟨Nat.le_of_ble_eq_true rfl, Nat.le_of_ble_eq_true rfl⟩) hS (fun q _ h => hFc q h) hFc (fun r u t H1 locs ht hvm hw hB hz1 hk1 hS => ?_)
      obtain ⟨hP1, hK1, hD1⟩ := hB
      rw [ht] at hP1
      have hK1 := va_K.moved hvm.symm hK1
      obtain ⟨u10, rfl⟩ : ∃ z, z = u := ⟨_, rfl⟩
      obtain ⟨hP, hD⟩ := va_join (wr := [(oJ, .inl (cJ, 1, .inr (.inl u4)))]) (w1 := [(k0, .inr (9, [.ref kN, .ref kA, .ref kO, .ref kK, .ref kV, .ref kG, .ref kP, .ref kC, .ref kD, .ref kE, .ref kF, .ref kX, .ref kY, .int 0, .ref kT, .ref kU, .int u10, .int 0, .int 0]))]) hP hD [0, 1, 2] [3] rfl rfl (by decide) (by decide) hk1 hFc hP1 hD1
      generalize H1 = H at hP hS ⊢
      have hP : va_P (dC, dI) vwCl [(oJ, .inl (cJ, 1, .inr (.inl u4))), (k0, .inr (9, [.ref kN, .ref kA, .ref kO, .ref kK, .ref kV, .ref kG, .ref kP, .ref kC, .ref kD, .ref kE, .ref kF, .ref kX, .ref kY, .int 0, .ref kT, .ref kU, .int u10, .int 0, .int 0]))] _ := hP
      have hD : va_D A [(oJ, .inl (cJ, 1, .inr (.inl u4))), (k0, .inr (9, [.ref kN, .ref kA, .ref kO, .ref kK, .ref kV, .ref kG, .ref kP, .ref kC, .ref kD, .ref kE, .ref kF, .ref kX, .ref kY, .int 0, .ref kT, .ref kU, .int u10, .int 0, .int 0]))] := hD
      obtain ⟨r11, rfl⟩ : ∃ z, z = r := ⟨_, rfl⟩
      rcases hw with ⟨rfl, hg9⟩ | ⟨rfl, hg9⟩
      · skip
        have hP : va_P (dC, dI) vwCl [(oJ, .inl (cJ, 1, .inr (.inl u4))), (k0, .inr (9, [.ref kN, .ref kA, .ref kO, .ref kK, .ref kV, .ref kG, .ref kP, .ref kC, .ref kD, .ref kE, .ref kF, .ref kX, .ref kY, .int 0, .ref kT, .ref kU, .int 1, .int 0, .int 0]))] _ := hP
        have hD : va_D A [(oJ, .inl (cJ, 1, .inr (.inl u4))), (k0, .inr (9, [.ref kN, .ref kA, .ref kO, .ref kK, .ref kV, .ref kG, .ref kP, .ref kC, .ref kD, .ref kE, .ref kF, .ref kX, .ref kY, .int 0, .ref kT, .ref kU, .int 1, .int 0, .int 0]))] := hD
        refine lv_istore (lv' := [(7, .int r11), (6, .int 1), (5, .int 0), (4, .ref oD), (3, .ref oJ), (2, .ref k0), (1, .ref h0), (0, .ref b)]) hx hb dL_law_1785 hl (Nat.le_of_ble_eq_true rfl) rfl (fun ls hl => ?_)
        refine lv_aload_n hx hb dL_law_1787 rfl (lv_at hl 5 rfl) ?_
        have hPc := hP.sub (ws' := [(k0, .inr (9, [.ref kN, .ref kA, .ref kO, .ref kK, .ref kV, .ref kG, .ref kP, .ref kC, .ref kD, .ref kE, .ref kF, .ref kX, .ref kY, .int 0, .ref kT, .ref kU, .int 1, .int 0, .int 0]))]) [1] rfl
        have hDc := hD.sub (ws' := [(k0, .inr (9, [.ref kN, .ref kA, .ref kO, .ref kK, .ref kV, .ref kG, .ref kP, .ref kC, .ref kD, .ref kE, .ref kF, .ref kX, .ref kY, .int 0, .ref kT, .ref kU, .int 1, .int 0, .int 0]))]) [1] (by decide) rfl
        have hKc := hK.sub (tys' := []) [] rfl
        have hFc := va_free (wc := [(k0, .inr (9, [.ref kN, .ref kA, .ref kO, .ref kK, .ref kV, .ref kG, .ref kP, .ref kC, .ref kD, .ref kE, .ref kF, .ref kX, .ref kY, .int 0, .ref kT, .ref kU, .int 1, .int 0, .int 0]))]) hD hS hA [1] rfl
        refine va_calli (va_runV (As := []) (rest := []) ⟨hx, hb, hml, hown, hts⟩ (kX6_thrown l dC dI k0 kN kA kO kK kV kG kP kC kD kE kF kX kY kT kU 1 H.size) (cwV 0 hts gL_law_X6_thrown rfl rfl rfl (by decide +kernel) ⟨Nat.le_of_ble_eq_true rfl, Nat.le_of_ble_eq_true rfl⟩) (fPreV hN hZ hS (fun q h => hFc q h) hPc hKc hDc (ci := 9) (q0 := 0) rfl rfl) rfl rfl hl.1 rfl (lv_room (Nat.le_of_ble_eq_true rfl)) dL_law_1788 ⟨Nat.le_of_ble_eq_true rfl, Nat.le_of_ble_eq_true rfl⟩) hS (fun q _ h => hFc q h) hFc (fun r u t H1 locs ht hvm hw hB hz1 hk1 hS => ?_)
        obtain ⟨hP1, hK1, hD1⟩ := hB
        rw [ht] at hP1
        have hK1 := va_K.moved hvm.symm hK1
        obtain ⟨hP, hD⟩ := va_join (wr := [(oJ, .inl (cJ, 1, .inr (.inl u4)))]) (w1 := []) hP hD [1] [0] rfl rfl (by decide) (by decide) hk1 hFc hP1 hD1
        generalize H1 = H at hP hS ⊢
        have hP : va_P (dC, dI) vwCl [(oJ, .inl (cJ, 1, .inr (.inl u4)))] _ := hP
        have hD : va_D A [(oJ, .inl (cJ, 1, .inr (.inl u4)))] := hD
        subst hw
        refine lv_iload hx hb dL_law_1791 (lv_at hl 1 rfl) ?_
        refine lv_icmp_eq (tgt := 1798) hx hb dL_law_1793 (by decide) (fun _ => ?_) (fun h9 => absurd (by decide) h9)
        refine lv_iload hx hb dL_law_1798 (lv_at hl 1 rfl) ?_
        refine lv_if_ne (tgt := 1815) hx hb dL_law_1800 (by decide) (fun _ => ?_) (fun h9 => absurd h9 (by decide))
        refine lv_goto (tgt := 2720) hx hb dL_law_1815 (by decide) ?_
        refine lv_iinc (v := 7) (lv' := [(5, .int 7), (7, .int r11), (6, .int 1), (4, .ref oD), (3, .ref oJ), (2, .ref k0), (1, .ref h0), (0, .ref b)]) hx hb dL_law_2720 hl (k := 2) rfl (by decide) (Nat.le_of_ble_eq_true rfl) rfl (fun ls hl => ?_)
        refine lv_goto (tgt := 28) hx hb dL_law_2723 (by decide) ?_
        refine lv_iload hx hb dL_law_28 (lv_at hl 0 rfl) ?_
        refine lv_aload_n hx hb dL_law_30 rfl (lv_at hl 7 rfl) ?_
        refine va_slen hx hb hX9 hbl hbA hS dL_law_31 ?_
        refine W.eq (g2 := F0 m 32 ls [.int 7, .int 7]) rfl ?_
        refine lv_bipush (v := 7) hx hb dL_law_32 (by decide) ?_
        refine lv_isub hx hb dL_law_34 ?_
        refine lv_topi (fun y12 ey12 => ?_)
        obtain rfl : y12 = 0 := ey12.trans (by decide)
        refine lv_icmp_gt (tgt := 2726) hx hb dL_law_35 (by decide) (fun _ => ?_) (fun h9 => absurd (by decide) h9)
        refine lv_iconst (v := 1) hx hb dL_law_2726 (by decide) ?_
        refine va_forget (fun q hq => hAe _ (hS.2.2 q hq)) ?_
        refine W.widen (k := 600006) (n := 7302048) (Nat.le_of_ble_eq_true rfl) (Nat.le_of_ble_eq_true rfl) ?_
        exact W.base (lw_ret (d0 := s.drawn) (Drawn.sameBut.refl _ _) hx hb hr hlk dL_law_2727)
      · skip
        exact absurd hg9 ((fun h9 => h9 (hf5)))
    · skip
      have hf13 := hf9
      refine lv_istore (lv' := [(6, .int 2), (5, .int 0), (4, .ref oD), (3, .ref oJ), (2, .ref k0), (1, .ref h0), (0, .ref b)]) hx hb dL_law_1761 hl (Nat.le_of_ble_eq_true rfl) rfl (fun ls hl => ?_)
      refine lv_aload_n hx hb dL_law_1763 rfl (lv_at hl 4 rfl) ?_
      refine lv_aload_n hx hb dL_law_1764 rfl (lv_at hl 6 rfl) ?_
      refine lv_iload hx hb dL_law_1765 (lv_at hl 1 rfl) ?_
      refine lv_iconst (v := 1) hx hb dL_law_1767 (by decide) ?_
      refine lv_iadd hx hb dL_law_1768 ?_
      refine lv_topi (fun y14 ey14 => ?_)
      obtain rfl : y14 = 1 := ey14.trans (by decide)
      refine va_sld hx hb hX9 hbl hbA hS (show ¬ (_ ∨ _) by decide) dL_law_1769 ?_
      refine W.eq (g2 := F0 m 1770 ls [.int (xs 1), .ref k0]) rfl ?_
      refine lv_aload_n hx hb dL_law_1770 rfl (lv_at hl 6 rfl) ?_
      refine lv_iload hx hb dL_law_1771 (lv_at hl 1 rfl) ?_
      refine lv_iconst (v := 2) hx hb dL_law_1773 (by decide) ?_
      refine lv_iadd hx hb dL_law_1774 ?_
      refine lv_topi (fun y15 ey15 => ?_)
      obtain rfl : y15 = 2 := ey15.trans (by decide)
      refine va_sld hx hb hX9 hbl hbA hS (show ¬ (_ ∨ _) by decide) dL_law_1775 ?_
      refine W.eq (g2 := F0 m 1776 ls [.int (xs 2), .int (xs 1), .ref k0]) rfl ?_
      refine lv_aload_n hx hb dL_law_1776 rfl (lv_at hl 6 rfl) ?_
      refine lv_iload hx hb dL_law_1777 (lv_at hl 1 rfl) ?_
      refine lv_iconst (v := 3) hx hb dL_law_1779 (by decide) ?_
      refine lv_iadd hx hb dL_law_1780 ?_
      refine lv_topi (fun y16 ey16 => ?_)
      obtain rfl : y16 = 3 := ey16.trans (by decide)
      refine va_sld hx hb hX9 hbl hbA hS (show ¬ (_ ∨ _) by decide) dL_law_1781 ?_
      refine W.eq (g2 := F0 m 1782 ls [.int (xs 3), .int (xs 2), .int (xs 1), .ref k0]) rfl ?_
      have hPc := hP.sub (ws' := [(k0, .inr (9, [.ref kN, .ref kA, .ref kO, .ref kK, .ref kV, .ref kG, .ref kP, .ref kC, .ref kD, .ref kE, .ref kF, .ref kX, .ref kY, .int 0, .ref kT, .ref kU, .int 0, .int 0, .int 0])), (kN, .inl (cI, 2, .inl (fun _ => 0))), (kA, .inl (cI, 2, .inl (fun _ => 0)))]) [0, 1, 2] rfl
      have hDc := hD.sub (ws' := [(k0, .inr (9, [.ref kN, .ref kA, .ref kO, .ref kK, .ref kV, .ref kG, .ref kP, .ref kC, .ref kD, .ref kE, .ref kF, .ref kX, .ref kY, .int 0, .ref kT, .ref kU, .int 0, .int 0, .int 0])), (kN, .inl (cI, 2, .inl (fun _ => 0))), (kA, .inl (cI, 2, .inl (fun _ => 0)))]) [0, 1, 2] (by decide) rfl
      have hKc := hK.sub (tys' := [(cI, .int)]) [0] rfl
      have hFc := va_free (wc := [(k0, .inr (9, [.ref kN, .ref kA, .ref kO, .ref kK, .ref kV, .ref kG, .ref kP, .ref kC, .ref kD, .ref kE, .ref kF, .ref kX, .ref kY, .int 0, .ref kT, .ref kU, .int 0, .int 0, .int 0])), (kN, .inl (cI, 2, .inl (fun _ => 0))), (kA, .inl (cI, 2, .inl (fun _ => 0)))]) hD hS hA [0, 1, 2] rfl
      refine va_calli (va_runV (As := [.int (xs 1), .int (xs 2), .int (xs 3)]) (rest := []) ⟨hx, hb, hml, hown, hts⟩ (kX6_netsLike l dC dI k0 kN kA kO kK kV kG kP kC kD kE kF kX kY kT kU cI (xs 1) (xs 2) (xs 3) H.size) (cwV 3 hts gL_law_X6_netsLike rfl rfl rfl (by decide +kernel) ⟨Nat.le_of_ble_eq_true rfl, Nat.le_of_ble_eq_true rfl⟩) (fPreV hN hZ hS (fun q h => hFc q h) hPc hKc hDc (ci := 9) (q0 := 0) rfl rfl) rfl rfl hl.1 rfl (lv_room (Nat.le_of_ble_eq_true rfl)) dL_law_1782 ⟨Nat.le_of_ble_eq_true rfl, Nat.le_of_ble_eq_true rfl⟩) hS (fun q _ h => hFc q h) hFc (fun r u t H1 locs ht hvm hw hB hz1 hk1 hS => ?_)
      obtain ⟨hP1, hK1, hD1⟩ := hB
      rw [ht] at hP1
      have hK1 := va_K.moved hvm.symm hK1
      obtain ⟨u17, rfl⟩ : ∃ z, z = u := ⟨_, rfl⟩
      obtain ⟨hP, hD⟩ := va_join (wr := [(oJ, .inl (cJ, 1, .inr (.inl u4)))]) (w1 := [(k0, .inr (9, [.ref kN, .ref kA, .ref kO, .ref kK, .ref kV, .ref kG, .ref kP, .ref kC, .ref kD, .ref kE, .ref kF, .ref kX, .ref kY, .int 0, .ref kT, .ref kU, .int u17, .int 0, .int 0]))]) hP hD [0, 1, 2] [3] rfl rfl (by decide) (by decide) hk1 hFc hP1 hD1
      generalize H1 = H at hP hS ⊢
      have hP : va_P (dC, dI) vwCl [(oJ, .inl (cJ, 1, .inr (.inl u4))), (k0, .inr (9, [.ref kN, .ref kA, .ref kO, .ref kK, .ref kV, .ref kG, .ref kP, .ref kC, .ref kD, .ref kE, .ref kF, .ref kX, .ref kY, .int 0, .ref kT, .ref kU, .int u17, .int 0, .int 0]))] _ := hP
      have hD : va_D A [(oJ, .inl (cJ, 1, .inr (.inl u4))), (k0, .inr (9, [.ref kN, .ref kA, .ref kO, .ref kK, .ref kV, .ref kG, .ref kP, .ref kC, .ref kD, .ref kE, .ref kF, .ref kX, .ref kY, .int 0, .ref kT, .ref kU, .int u17, .int 0, .int 0]))] := hD
      obtain ⟨r18, rfl⟩ : ∃ z, z = r := ⟨_, rfl⟩
      rcases hw with ⟨rfl, hg9⟩ | ⟨rfl, hg9⟩
      · skip
        exact absurd hg9 (hf13)
      · skip
        have hP : va_P (dC, dI) vwCl [(oJ, .inl (cJ, 1, .inr (.inl u4))), (k0, .inr (9, [.ref kN, .ref kA, .ref kO, .ref kK, .ref kV, .ref kG, .ref kP, .ref kC, .ref kD, .ref kE, .ref kF, .ref kX, .ref kY, .int 0, .ref kT, .ref kU, .int 2, .int 0, .int 0]))] _ := hP
        have hD : va_D A [(oJ, .inl (cJ, 1, .inr (.inl u4))), (k0, .inr (9, [.ref kN, .ref kA, .ref kO, .ref kK, .ref kV, .ref kG, .ref kP, .ref kC, .ref kD, .ref kE, .ref kF, .ref kX, .ref kY, .int 0, .ref kT, .ref kU, .int 2, .int 0, .int 0]))] := hD
        refine lv_istore (lv' := [(7, .int r18), (6, .int 2), (5, .int 0), (4, .ref oD), (3, .ref oJ), (2, .ref k0), (1, .ref h0), (0, .ref b)]) hx hb dL_law_1785 hl (Nat.le_of_ble_eq_true rfl) rfl (fun ls hl => ?_)
        refine lv_aload_n hx hb dL_law_1787 rfl (lv_at hl 5 rfl) ?_
        have hPc := hP.sub (ws' := [(k0, .inr (9, [.ref kN, .ref kA, .ref kO, .ref kK, .ref kV, .ref kG, .ref kP, .ref kC, .ref kD, .ref kE, .ref kF, .ref kX, .ref kY, .int 0, .ref kT, .ref kU, .int 2, .int 0, .int 0]))]) [1] rfl
        have hDc := hD.sub (ws' := [(k0, .inr (9, [.ref kN, .ref kA, .ref kO, .ref kK, .ref kV, .ref kG, .ref kP, .ref kC, .ref kD, .ref kE, .ref kF, .ref kX, .ref kY, .int 0, .ref kT, .ref kU, .int 2, .int 0, .int 0]))]) [1] (by decide) rfl
        have hKc := hK.sub (tys' := []) [] rfl
        have hFc := va_free (wc := [(k0, .inr (9, [.ref kN, .ref kA, .ref kO, .ref kK, .ref kV, .ref kG, .ref kP, .ref kC, .ref kD, .ref kE, .ref kF, .ref kX, .ref kY, .int 0, .ref kT, .ref kU, .int 2, .int 0, .int 0]))]) hD hS hA [1] rfl
        refine va_calli (va_runV (As := []) (rest := []) ⟨hx, hb, hml, hown, hts⟩ (kX6_thrown l dC dI k0 kN kA kO kK kV kG kP kC kD kE kF kX kY kT kU 2 H.size) (cwV 0 hts gL_law_X6_thrown rfl rfl rfl (by decide +kernel) ⟨Nat.le_of_ble_eq_true rfl, Nat.le_of_ble_eq_true rfl⟩) (fPreV hN hZ hS (fun q h => hFc q h) hPc hKc hDc (ci := 9) (q0 := 0) rfl rfl) rfl rfl hl.1 rfl (lv_room (Nat.le_of_ble_eq_true rfl)) dL_law_1788 ⟨Nat.le_of_ble_eq_true rfl, Nat.le_of_ble_eq_true rfl⟩) hS (fun q _ h => hFc q h) hFc (fun r u t H1 locs ht hvm hw hB hz1 hk1 hS => ?_)
        obtain ⟨hP1, hK1, hD1⟩ := hB
        rw [ht] at hP1
        have hK1 := va_K.moved hvm.symm hK1
        obtain ⟨hP, hD⟩ := va_join (wr := [(oJ, .inl (cJ, 1, .inr (.inl u4)))]) (w1 := []) hP hD [1] [0] rfl rfl (by decide) (by decide) hk1 hFc hP1 hD1
        generalize H1 = H at hP hS ⊢
        have hP : va_P (dC, dI) vwCl [(oJ, .inl (cJ, 1, .inr (.inl u4)))] _ := hP
        have hD : va_D A [(oJ, .inl (cJ, 1, .inr (.inl u4)))] := hD
        subst hw
        refine lv_iload hx hb dL_law_1791 (lv_at hl 1 rfl) ?_
        refine lv_icmp_eq (tgt := 1798) hx hb dL_law_1793 (by decide) (fun _ => ?_) (fun h9 => absurd (by decide) h9)
        refine lv_iload hx hb dL_law_1798 (lv_at hl 1 rfl) ?_
        refine lv_if_ne (tgt := 1815) hx hb dL_law_1800 (by decide) (fun _ => ?_) (fun h9 => absurd h9 (by decide))
        refine lv_goto (tgt := 2720) hx hb dL_law_1815 (by decide) ?_
        refine lv_iinc (v := 7) (lv' := [(5, .int 7), (7, .int r18), (6, .int 2), (4, .ref oD), (3, .ref oJ), (2, .ref k0), (1, .ref h0), (0, .ref b)]) hx hb dL_law_2720 hl (k := 2) rfl (by decide) (Nat.le_of_ble_eq_true rfl) rfl (fun ls hl => ?_)
        refine lv_goto (tgt := 28) hx hb dL_law_2723 (by decide) ?_
        refine lv_iload hx hb dL_law_28 (lv_at hl 0 rfl) ?_
        refine lv_aload_n hx hb dL_law_30 rfl (lv_at hl 7 rfl) ?_
        refine va_slen hx hb hX9 hbl hbA hS dL_law_31 ?_
        refine W.eq (g2 := F0 m 32 ls [.int 7, .int 7]) rfl ?_
        refine lv_bipush (v := 7) hx hb dL_law_32 (by decide) ?_
        refine lv_isub hx hb dL_law_34 ?_
        refine lv_topi (fun y19 ey19 => ?_)
        obtain rfl : y19 = 0 := ey19.trans (by decide)
        refine lv_icmp_gt (tgt := 2726) hx hb dL_law_35 (by decide) (fun _ => ?_) (fun h9 => absurd (by decide) h9)
        refine lv_iconst (v := 1) hx hb dL_law_2726 (by decide) ?_
        refine va_forget (fun q hq => hAe _ (hS.2.2 q hq)) ?_
        refine W.widen (k := 600006) (n := 7302048) (Nat.le_of_ble_eq_true rfl) (Nat.le_of_ble_eq_true rfl) ?_
        exact W.base (lw_ret (d0 := s.drawn) (Drawn.sameBut.refl _ _) hx hb hr hlk dL_law_2727)
