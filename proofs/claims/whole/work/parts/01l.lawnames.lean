set_option maxRecDepth 20000 in
theorem ggL_law_X6_mean : GoodIn wsL_law wsX6_mean := goodIn_r _ [768, 749, 15, 107, 108, 2, 109, 769, 770, 771, 772, 38, 773, 774, 775, 776, 777, 295, 296, 297, 533, 14, 534, 535, 548, 549, 550, 52, 48, 551, 552, 553, 554, 555, 556, 557, 778, 779, 780, 751, 752, 753, 951, 952, 953, 954, 955, 956, 957, 958, 959, 960, 997, 998, 999, 1000, 1001, 1002, 1003, 1004, 1005, 1006] (by decide +kernel) (by decide +kernel)
set_option maxRecDepth 20000 in
theorem gL_law_X6_mean : GoodIn wsL_law (wsV RL 126 RX6 yX6_mean wsX6_mean) := goodIn_app (goodIn_of _ (by decide +kernel)) ggL_law_X6_mean
set_option maxRecDepth 20000 in
theorem ggL_law_X7_mean : GoodIn wsL_law wsX7_mean := goodIn_r _ [784, 625, 758, 116, 117, 5, 118, 785, 786, 787, 788, 92, 314, 540, 541, 542, 543, 562, 563, 564, 565, 566, 567, 568, 762, 763, 764, 961, 962, 963, 964, 965, 966, 967, 968, 969, 970, 971, 972, 973, 974, 975, 976, 977, 978, 979, 980, 981, 982, 983, 984, 985, 986, 987, 988, 989, 990, 991, 992, 993, 994, 995, 996] (by decide +kernel) (by decide +kernel)
set_option maxRecDepth 20000 in
theorem gL_law_X7_mean : GoodIn wsL_law (wsV RL 129 RX7 yX7_mean wsX7_mean) := goodIn_app (goodIn_of _ (by decide +kernel)) ggL_law_X7_mean
set_option maxRecDepth 20000 in
theorem ggL_law_X6_luck : GoodIn wsL_law wsX6_luck := goodIn_r _ [792, 749, 15, 107, 108, 2, 109, 769, 770, 771, 772, 38, 773, 774, 775, 776, 777, 295, 296, 297, 533, 14, 534, 535, 548, 549, 550, 52, 48, 551, 552, 553, 554, 555, 556, 557, 778, 779, 780, 751, 752, 753, 951, 952, 953, 954, 955, 956, 957, 958, 959, 960, 997, 998, 999, 1000, 1001, 1002, 1003, 1004, 1005, 1006] (by decide +kernel) (by decide +kernel)
set_option maxRecDepth 20000 in
theorem gL_law_X6_luck : GoodIn wsL_law (wsV RL 130 RX6 yX6_luck wsX6_luck) := goodIn_app (goodIn_of _ (by decide +kernel)) ggL_law_X6_luck
set_option maxRecDepth 20000 in
theorem ggL_law_X7_luck : GoodIn wsL_law wsX7_luck := goodIn_r _ [796, 625, 758, 116, 117, 5, 118, 785, 786, 787, 788, 92, 314, 540, 541, 542, 543, 562, 563, 564, 565, 566, 567, 568, 762, 763, 764, 961, 962, 963, 964, 965, 966, 967, 968, 969, 970, 971, 972, 973, 974, 975, 976, 977, 978, 979, 980, 981, 982, 983, 984, 985, 986, 987, 988, 989, 990, 991, 992, 993, 994, 995, 996] (by decide +kernel) (by decide +kernel)
set_option maxRecDepth 20000 in
theorem gL_law_X7_luck : GoodIn wsL_law (wsV RL 133 RX7 yX7_luck wsX7_luck) := goodIn_app (goodIn_of _ (by decide +kernel)) ggL_law_X7_luck
set_option maxRecDepth 20000 in
theorem ggL_law_X6_see : GoodIn wsL_law wsX6_see := goodIn_r _ [800, 23, 107, 108, 2, 109, 951, 952, 953, 954, 955, 956, 957, 958, 959, 960, 1018, 1019, 1020] (by decide +kernel) (by decide +kernel)
set_option maxRecDepth 20000 in
theorem gL_law_X6_see : GoodIn wsL_law (wsV RL 134 RX6 yX6_see wsX6_see) := goodIn_app (goodIn_of _ (by decide +kernel)) ggL_law_X6_see
set_option maxRecDepth 20000 in
theorem ggL_law_X7_see : GoodIn wsL_law wsX7_see := goodIn_r _ [804, 805, 480, 315, 97, 116, 117, 5, 118, 961, 962, 963, 964, 965, 966, 967, 968, 969, 970, 971, 972, 973, 974, 975, 976, 977, 978, 979, 980, 981, 982, 983, 984, 985, 986, 987, 988, 989, 990, 991, 992, 993, 994, 995, 996] (by decide +kernel) (by decide +kernel)
set_option maxRecDepth 20000 in
theorem gL_law_X7_see : GoodIn wsL_law (wsV RL 137 RX7 yX7_see wsX7_see) := goodIn_app (goodIn_of _ (by decide +kernel)) ggL_law_X7_see
set_option maxRecDepth 20000 in
theorem ggL_law_X6_forget : GoodIn wsL_law wsX6_forget := goodIn_r _ [809, 23, 107, 108, 2, 109, 951, 952, 953, 954, 955, 956, 957, 958, 959, 960, 1018, 1019, 1020] (by decide +kernel) (by decide +kernel)
set_option maxRecDepth 20000 in
theorem gL_law_X6_forget : GoodIn wsL_law (wsV RL 138 RX6 yX6_forget wsX6_forget) := goodIn_app (goodIn_of _ (by decide +kernel)) ggL_law_X6_forget
set_option maxRecDepth 20000 in
theorem ggL_law_X7_forget : GoodIn wsL_law wsX7_forget := goodIn_r _ [813, 315, 116, 117, 5, 118, 961, 962, 963, 964, 965, 966, 967, 968, 969, 970, 971, 972, 973, 974, 975, 976, 977, 978, 979, 980, 981, 982, 983, 984, 985, 986, 987, 988, 989, 990, 991, 992, 993, 994, 995, 996] (by decide +kernel) (by decide +kernel)
set_option maxRecDepth 20000 in
theorem gL_law_X7_forget : GoodIn wsL_law (wsV RL 141 RX7 yX7_forget wsX7_forget) := goodIn_app (goodIn_of _ (by decide +kernel)) ggL_law_X7_forget
set_option maxRecDepth 20000 in
theorem ggL_law_X6_fits : GoodIn wsL_law wsX6_fits := goodIn_r _ [817, 15, 31, 23, 107, 108, 2, 109, 818, 30, 819, 820, 78, 821, 80, 81, 141, 142, 711, 712, 822, 823, 824, 825, 690, 14, 691, 692, 689, 401, 402, 403, 45, 288, 289, 290, 826, 827, 828, 829, 79, 710, 295, 296, 297, 713, 714, 715, 716, 523, 524, 951, 952, 953, 954, 955, 956, 957, 958, 959, 960, 997, 998, 999, 1000, 1001, 1002, 1003, 1004, 1005, 1006, 1028, 1029, 1030, 1031, 1032, 1033, 1018, 1019, 1020] (by decide +kernel) (by decide +kernel)
set_option maxRecDepth 20000 in
theorem gL_law_X6_fits : GoodIn wsL_law (wsV RL 142 RX6 yX6_fits wsX6_fits) := goodIn_app (goodIn_of _ (by decide +kernel)) ggL_law_X6_fits
set_option maxRecDepth 20000 in
theorem ggL_law_X7_fits : GoodIn wsL_law wsX7_fits := goodIn_r _ [833, 625, 313, 834, 626, 116, 117, 5, 118, 640, 641, 642, 835, 836, 837, 838, 315, 97, 721, 722, 723, 724, 647, 648, 649, 650, 651, 652, 653, 411, 412, 413, 414, 839, 840, 841, 842, 415, 416, 417, 418, 92, 371, 372, 373, 961, 962, 963, 964, 965, 966, 967, 968, 969, 970, 971, 972, 973, 974, 975, 976, 977, 978, 979, 980, 981, 982, 983, 984, 985, 986, 987, 988, 989, 990, 991, 992, 993, 994, 995, 996] (by decide +kernel) (by decide +kernel)
set_option maxRecDepth 20000 in
theorem gL_law_X7_fits : GoodIn wsL_law (wsV RL 145 RX7 yX7_fits wsX7_fits) := goodIn_app (goodIn_of _ (by decide +kernel)) ggL_law_X7_fits
set_option maxRecDepth 20000 in
theorem ggL_law_X6_ask : GoodIn wsL_law wsX6_ask := goodIn_r _ [846, 31, 15, 23, 107, 108, 2, 109, 818, 30, 819, 820, 78, 821, 80, 81, 141, 142, 711, 712, 822, 823, 824, 825, 690, 14, 691, 692, 689, 401, 402, 403, 45, 288, 289, 290, 826, 827, 828, 829, 79, 710, 295, 296, 297, 713, 714, 715, 716, 523, 524, 847, 848, 849, 850, 582, 583, 584, 951, 952, 953, 954, 955, 956, 957, 958, 959, 960, 1028, 1029, 1030, 1031, 1032, 1033, 997, 998, 999, 1000, 1001, 1002, 1003, 1004, 1005, 1006, 1018, 1019, 1020] (by decide +kernel) (by decide +kernel)
set_option maxRecDepth 20000 in
theorem gL_law_X6_ask : GoodIn wsL_law (wsV RL 146 RX6 yX6_ask wsX6_ask) := goodIn_app (goodIn_of _ (by decide +kernel)) ggL_law_X6_ask
set_option maxRecDepth 20000 in
theorem ggL_law_X7_ask : GoodIn wsL_law wsX7_ask := goodIn_r _ [854, 313, 98, 116, 117, 5, 118, 855, 831, 832, 833, 625, 834, 626, 640, 641, 642, 835, 836, 837, 838, 315, 97, 721, 722, 723, 724, 647, 648, 649, 650, 651, 652, 653, 411, 412, 413, 414, 839, 840, 841, 842, 415, 416, 417, 418, 92, 371, 372, 373, 961, 962, 963, 964, 965, 966, 967, 968, 969, 970, 971, 972, 973, 974, 975, 976, 977, 978, 979, 980, 981, 982, 983, 984, 985, 986, 987, 988, 989, 990, 991, 992, 993, 994, 995, 996] (by decide +kernel) (by decide +kernel)
set_option maxRecDepth 20000 in
theorem gL_law_X7_ask : GoodIn wsL_law (wsV RL 149 RX7 yX7_ask wsX7_ask) := goodIn_app (goodIn_of _ (by decide +kernel)) ggL_law_X7_ask
set_option maxRecDepth 20000 in
theorem ggL_law_X6_drift : GoodIn wsL_law wsX6_drift := goodIn_r _ [859, 15, 38, 777, 295, 296, 297, 107, 108, 2, 109, 860, 861, 862, 863, 864, 865, 866, 533, 14, 534, 535, 548, 549, 550, 52, 48, 551, 552, 553, 554, 555, 556, 557, 951, 952, 953, 954, 955, 956, 957, 958, 959, 960, 997, 998, 999, 1000, 1001, 1002, 1003, 1004, 1005, 1006] (by decide +kernel) (by decide +kernel)
set_option maxRecDepth 20000 in
theorem gL_law_X6_drift : GoodIn wsL_law (wsV RL 150 RX6 yX6_drift wsX6_drift) := goodIn_app (goodIn_of _ (by decide +kernel)) ggL_law_X6_drift
set_option maxRecDepth 20000 in
theorem ggL_law_X7_drift : GoodIn wsL_law wsX7_drift := goodIn_r _ [870, 871, 313, 872, 92, 116, 117, 5, 118, 636, 637, 638, 639, 873, 874, 875, 876, 877, 540, 541, 542, 543, 562, 563, 564, 565, 314, 566, 567, 568, 961, 962, 963, 964, 965, 966, 967, 968, 969, 970, 971, 972, 973, 974, 975, 976, 977, 978, 979, 980, 981, 982, 983, 984, 985, 986, 987, 988, 989, 990, 991, 992, 993, 994, 995, 996] (by decide +kernel) (by decide +kernel)
set_option maxRecDepth 20000 in
theorem gL_law_X7_drift : GoodIn wsL_law (wsV RL 153 RX7 yX7_drift wsX7_drift) := goodIn_app (goodIn_of _ (by decide +kernel)) ggL_law_X7_drift
set_option maxRecDepth 20000 in
theorem ggL_law_X6_keep : GoodIn wsL_law wsX6_keep := goodIn_r _ [881, 34, 32, 15, 107, 108, 2, 109, 291, 14, 292, 293, 45, 294, 295, 296, 297, 46, 47, 48, 49, 50, 51, 52, 53, 54, 951, 952, 953, 954, 955, 956, 957, 958, 959, 960, 997, 998, 999, 1000, 1001, 1002, 1003, 1004, 1005, 1006] (by decide +kernel) (by decide +kernel)
set_option maxRecDepth 20000 in
theorem gL_law_X6_keep : GoodIn wsL_law (wsV RL 154 RX6 yX6_keep wsX6_keep) := goodIn_app (goodIn_of _ (by decide +kernel)) ggL_law_X6_keep
set_option maxRecDepth 20000 in
theorem ggL_law_X7_keep : GoodIn wsL_law wsX7_keep := goodIn_r _ [885, 99, 116, 117, 5, 118, 636, 637, 638, 639, 92, 961, 962, 963, 964, 965, 966, 967, 968, 969, 970, 971, 972, 973, 974, 975, 976, 977, 978, 979, 980, 981, 982, 983, 984, 985, 986, 987, 988, 989, 990, 991, 992, 993, 994, 995, 996] (by decide +kernel) (by decide +kernel)
set_option maxRecDepth 20000 in
theorem gL_law_X7_keep : GoodIn wsL_law (wsV RL 157 RX7 yX7_keep wsX7_keep) := goodIn_app (goodIn_of _ (by decide +kernel)) ggL_law_X7_keep
set_option maxRecDepth 20000 in
theorem ggL_law_X6_back : GoodIn wsL_law wsX6_back := goodIn_r _ [889, 34, 15, 32, 107, 108, 2, 109, 291, 14, 292, 293, 45, 294, 295, 296, 297, 46, 47, 48, 49, 50, 51, 52, 53, 54, 951, 952, 953, 954, 955, 956, 957, 958, 959, 960, 997, 998, 999, 1000, 1001, 1002, 1003, 1004, 1005, 1006] (by decide +kernel) (by decide +kernel)
set_option maxRecDepth 20000 in
theorem gL_law_X6_back : GoodIn wsL_law (wsV RL 158 RX6 yX6_back wsX6_back) := goodIn_app (goodIn_of _ (by decide +kernel)) ggL_law_X6_back
set_option maxRecDepth 20000 in
theorem ggL_law_X7_back : GoodIn wsL_law wsX7_back := goodIn_r _ [893, 99, 92, 116, 117, 5, 118, 636, 637, 638, 639, 961, 962, 963, 964, 965, 966, 967, 968, 969, 970, 971, 972, 973, 974, 975, 976, 977, 978, 979, 980, 981, 982, 983, 984, 985, 986, 987, 988, 989, 990, 991, 992, 993, 994, 995, 996] (by decide +kernel) (by decide +kernel)
set_option maxRecDepth 20000 in
theorem gL_law_X7_back : GoodIn wsL_law (wsV RL 161 RX7 yX7_back wsX7_back) := goodIn_app (goodIn_of _ (by decide +kernel)) ggL_law_X7_back
set_option maxRecDepth 20000 in
theorem ggL_law_X6_sheet : GoodIn wsL_law wsX6_sheet := goodIn_r _ [897, 36, 107, 108, 2, 109, 898, 41, 899, 900, 86, 87, 85, 951, 952, 953, 954, 955, 956, 957, 958, 959, 960, 1034, 1035, 1036] (by decide +kernel) (by decide +kernel)
set_option maxRecDepth 20000 in
theorem gL_law_X6_sheet : GoodIn wsL_law (wsV RL 162 RX6 yX6_sheet wsX6_sheet) := goodIn_app (goodIn_of _ (by decide +kernel)) ggL_law_X6_sheet
set_option maxRecDepth 20000 in
theorem ggL_law_X7_sheet : GoodIn wsL_law wsX7_sheet := goodIn_r _ [904, 466, 624, 100, 101, 102, 116, 117, 5, 118, 961, 962, 963, 964, 965, 966, 967, 968, 969, 970, 971, 972, 973, 974, 975, 976, 977, 978, 979, 980, 981, 982, 983, 984, 985, 986, 987, 988, 989, 990, 991, 992, 993, 994, 995, 996] (by decide +kernel) (by decide +kernel)
set_option maxRecDepth 20000 in
theorem gL_law_X7_sheet : GoodIn wsL_law (wsV RL 165 RX7 yX7_sheet wsX7_sheet) := goodIn_app (goodIn_of _ (by decide +kernel)) ggL_law_X7_sheet
set_option maxRecDepth 20000 in
theorem ggL_law_X6_lay : GoodIn wsL_law wsX6_lay := goodIn_r _ [908, 36, 107, 108, 2, 109, 909, 41, 910, 911, 86, 87, 912, 913, 914, 85, 951, 952, 953, 954, 955, 956, 957, 958, 959, 960, 1034, 1035, 1036] (by decide +kernel) (by decide +kernel)
set_option maxRecDepth 20000 in
theorem gL_law_X6_lay : GoodIn wsL_law (wsV RL 166 RX6 yX6_lay wsX6_lay) := goodIn_app (goodIn_of _ (by decide +kernel)) ggL_law_X6_lay
set_option maxRecDepth 20000 in
theorem ggL_law_X7_lay : GoodIn wsL_law wsX7_lay := goodIn_r _ [918, 466, 100, 101, 102, 116, 117, 5, 118, 961, 962, 963, 964, 965, 966, 967, 968, 969, 970, 971, 972, 973, 974, 975, 976, 977, 978, 979, 980, 981, 982, 983, 984, 985, 986, 987, 988, 989, 990, 991, 992, 993, 994, 995, 996] (by decide +kernel) (by decide +kernel)
set_option maxRecDepth 20000 in
theorem gL_law_X7_lay : GoodIn wsL_law (wsV RL 169 RX7 yX7_lay wsX7_lay) := goodIn_app (goodIn_of _ (by decide +kernel)) ggL_law_X7_lay
set_option maxRecDepth 20000 in
theorem ggL_law_X6_read : GoodIn wsL_law wsX6_read := goodIn_r _ [922, 36, 15, 39, 107, 108, 2, 109, 923, 41, 924, 925, 86, 926, 909, 910, 911, 87, 494, 495, 496, 497, 274, 14, 275, 276, 51, 498, 499, 500, 53, 49, 46, 501, 386, 387, 388, 280, 281, 282, 283, 284, 285, 286, 287, 45, 288, 289, 290, 951, 952, 953, 954, 955, 956, 957, 958, 959, 960, 997, 998, 999, 1000, 1001, 1002, 1003, 1004, 1005, 1006, 1034, 1035, 1036] (by decide +kernel) (by decide +kernel)
set_option maxRecDepth 20000 in
theorem gL_law_X6_read : GoodIn wsL_law (wsV RL 170 RX6 yX6_read wsX6_read) := goodIn_app (goodIn_of _ (by decide +kernel)) ggL_law_X6_read
set_option maxRecDepth 20000 in
theorem ggL_law_X7_read : GoodIn wsL_law wsX7_read := goodIn_r _ [930, 466, 624, 834, 100, 101, 102, 931, 116, 117, 5, 118, 636, 637, 638, 639, 92, 506, 507, 508, 509, 411, 412, 413, 414, 313, 419, 420, 421, 422, 363, 364, 365, 366, 367, 368, 369, 370, 371, 372, 373, 961, 962, 963, 964, 965, 966, 967, 968, 969, 970, 971, 972, 973, 974, 975, 976, 977, 978, 979, 980, 981, 982, 983, 984, 985, 986, 987, 988, 989, 990, 991, 992, 993, 994, 995, 996] (by decide +kernel) (by decide +kernel)
set_option maxRecDepth 20000 in
theorem gL_law_X7_read : GoodIn wsL_law (wsV RL 174 RX7 yX7_read wsX7_read) := goodIn_app (goodIn_of _ (by decide +kernel)) ggL_law_X7_read
set_option maxRecDepth 20000 in
theorem ggL_law_X6_torn : GoodIn wsL_law wsX6_torn := goodIn_r _ [935, 39, 951, 952, 953, 954, 955, 956, 957, 958, 959, 960] (by decide +kernel) (by decide +kernel)
set_option maxRecDepth 20000 in
theorem gL_law_X6_torn : GoodIn wsL_law (wsV RL 175 RX6 yX6_torn wsX6_torn) := goodIn_app (goodIn_of _ (by decide +kernel)) ggL_law_X6_torn
set_option maxRecDepth 20000 in
theorem ggL_law_X7_torn : GoodIn wsL_law wsX7_torn := goodIn_r _ [939, 931, 961, 962, 963, 964, 965, 966, 967, 968, 969, 970, 971, 972, 973, 974, 975, 976, 977, 978, 979, 980, 981, 982, 983, 984, 985, 986, 987, 988, 989, 990, 991, 992, 993, 994, 995, 996] (by decide +kernel) (by decide +kernel)
set_option maxRecDepth 20000 in
theorem gL_law_X7_torn : GoodIn wsL_law (wsV RL 178 RX7 yX7_torn wsX7_torn) := goodIn_app (goodIn_of _ (by decide +kernel)) ggL_law_X7_torn
set_option maxRecDepth 20000 in
theorem ggL_law_X6_count : GoodIn wsL_law wsX6_count := goodIn_r _ [943, 23, 34, 19, 36, 15, 944, 945, 2, 946, 951, 952, 953, 954, 955, 956, 957, 958, 959, 960, 1018, 1019, 1020, 1007, 1008, 1009, 1010, 1011, 1012, 1013, 1014, 1015, 1016, 1017, 1034, 1035, 1036, 997, 998, 999, 1000, 1001, 1002, 1003, 1004, 1005, 1006] (by decide +kernel) (by decide +kernel)
set_option maxRecDepth 20000 in
theorem gL_law_X6_count : GoodIn wsL_law (wsV RL 179 RX6 yX6_count wsX6_count) := goodIn_app (goodIn_of _ (by decide +kernel)) ggL_law_X6_count
set_option maxRecDepth 20000 in
theorem ggL_law_X7_count : GoodIn wsL_law wsX7_count := goodIn_r _ [950, 313, 92, 314, 315, 99, 115, 100, 101, 961, 962, 963, 964, 965, 966, 967, 968, 969, 970, 971, 972, 973, 974, 975, 976, 977, 978, 979, 980, 981, 982, 983, 984, 985, 986, 987, 988, 989, 990, 991, 992, 993, 994, 995, 996] (by decide +kernel) (by decide +kernel)
set_option maxRecDepth 20000 in
theorem gL_law_X7_count : GoodIn wsL_law (wsV RL 182 RX7 yX7_count wsX7_count) := goodIn_app (goodIn_of _ (by decide +kernel)) ggL_law_X7_count
