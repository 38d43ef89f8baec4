set_option maxRecDepth 20000 in
theorem ggL_law_X6_init : GoodIn wsL_law wsX6_init := goodIn_r _ [8, 9, 10, 11, 12, 13, 14, 15, 16, 17, 18, 19, 20, 21, 22, 23, 24, 25, 26, 27, 28, 29, 30, 31, 32, 33, 34, 35, 36, 37, 38, 39, 40, 41, 42, 43, 44, 45, 46, 47, 48, 49, 50, 51, 52, 53, 54, 55, 56, 57, 58, 59, 60, 61, 62, 63, 64, 65, 66, 67, 68, 69, 70, 71, 72, 73, 74, 75, 76, 77, 78, 79, 80, 81, 82, 83, 84, 85, 86, 87, 997, 998, 999, 1000, 1001, 1002, 1003, 1004, 1005, 1006, 951, 952, 953, 954, 955, 956, 957, 958, 959, 960, 1007, 1008, 1009, 1010, 1011, 1012, 1013, 1014, 1015, 1016, 1017, 1018, 1019, 1020, 1021, 1022, 1023, 1024, 1025, 1026, 1027, 1028, 1029, 1030, 1031, 1032, 1033, 1034, 1035, 1036] (by decide +kernel) (by decide +kernel)
set_option maxRecDepth 20000 in
theorem gL_law_X6_init : GoodIn wsL_law (wsX6_init) := ggL_law_X6_init
set_option maxRecDepth 20000 in
theorem ggL_law_X7_init : GoodIn wsL_law wsX7_init := goodIn_r _ [90, 91, 10, 11, 37, 92, 93, 94, 95, 96, 97, 98, 33, 99, 100, 101, 102, 961, 962, 963, 964, 965, 966, 967, 968, 969, 970, 971, 972, 973, 974, 975, 976, 977, 978, 979, 980, 981, 982, 983, 984, 985, 986, 987, 988, 989, 990, 991, 992, 993, 994, 995, 996] (by decide +kernel) (by decide +kernel)
set_option maxRecDepth 20000 in
theorem gL_law_X7_init : GoodIn wsL_law (wsX7_init) := ggL_law_X7_init
set_option maxRecDepth 20000 in
theorem ggL_law_X6_feed : GoodIn wsL_law wsX6_feed := goodIn_r _ [106, 19, 107, 108, 2, 109, 951, 952, 953, 954, 955, 956, 957, 958, 959, 960, 1007, 1008, 1009, 1010, 1011, 1012, 1013, 1014, 1015, 1016, 1017] (by decide +kernel) (by decide +kernel)
set_option maxRecDepth 20000 in
theorem gL_law_X6_feed : GoodIn wsL_law (wsV RL 13 RX6 yX6_feed wsX6_feed) := goodIn_app (goodIn_of _ (by decide +kernel)) ggL_law_X6_feed
set_option maxRecDepth 20000 in
theorem ggL_law_X7_feed : GoodIn wsL_law wsX7_feed := goodIn_r _ [113, 114, 115, 94, 116, 117, 5, 118, 961, 962, 963, 964, 965, 966, 967, 968, 969, 970, 971, 972, 973, 974, 975, 976, 977, 978, 979, 980, 981, 982, 983, 984, 985, 986, 987, 988, 989, 990, 991, 992, 993, 994, 995, 996] (by decide +kernel) (by decide +kernel)
set_option maxRecDepth 20000 in
theorem gL_law_X7_feed : GoodIn wsL_law (wsV RL 17 RX7 yX7_feed wsX7_feed) := goodIn_app (goodIn_of _ (by decide +kernel)) ggL_law_X7_feed
set_option maxRecDepth 20000 in
theorem ggL_law_X6_end : GoodIn wsL_law wsX6_end := goodIn_r _ [122, 19, 107, 108, 2, 109, 951, 952, 953, 954, 955, 956, 957, 958, 959, 960, 1007, 1008, 1009, 1010, 1011, 1012, 1013, 1014, 1015, 1016, 1017] (by decide +kernel) (by decide +kernel)
set_option maxRecDepth 20000 in
theorem gL_law_X6_end : GoodIn wsL_law (wsV RL 18 RX6 yX6_end wsX6_end) := goodIn_app (goodIn_of _ (by decide +kernel)) ggL_law_X6_end
set_option maxRecDepth 20000 in
theorem ggL_law_X7_end : GoodIn wsL_law wsX7_end := goodIn_r _ [126, 115, 116, 117, 5, 118, 961, 962, 963, 964, 965, 966, 967, 968, 969, 970, 971, 972, 973, 974, 975, 976, 977, 978, 979, 980, 981, 982, 983, 984, 985, 986, 987, 988, 989, 990, 991, 992, 993, 994, 995, 996] (by decide +kernel) (by decide +kernel)
set_option maxRecDepth 20000 in
theorem gL_law_X7_end : GoodIn wsL_law (wsV RL 21 RX7 yX7_end wsX7_end) := goodIn_app (goodIn_of _ (by decide +kernel)) ggL_law_X7_end
set_option maxRecDepth 20000 in
theorem ggL_law_X6_text : GoodIn wsL_law wsX6_text := goodIn_r _ [130, 19, 15, 23, 34, 131, 18, 132, 133, 60, 134, 135, 136, 62, 137, 138, 14, 139, 140, 51, 52, 53, 54, 141, 2, 142, 143, 144, 145, 146, 147, 148, 149, 150, 151, 152, 61, 58, 108, 109, 153, 154, 155, 156, 157, 158, 159, 160, 161, 162, 163, 164, 165, 166, 167, 168, 169, 170, 171, 172, 173, 174, 175, 176, 177, 178, 179, 180, 181, 182, 183, 184, 185, 186, 187, 188, 189, 190, 191, 192, 193, 194, 195, 196, 197, 198, 199, 200, 201, 202, 203, 204, 205, 206, 207, 208, 209, 210, 211, 212, 213, 214, 215, 216, 217, 218, 219, 220, 221, 222, 223, 224, 225, 226, 227, 228, 229, 230, 231, 232, 233, 234, 235, 236, 237, 238, 239, 240, 241, 242, 243, 244, 245, 246, 247, 248, 249, 250, 251, 252, 253, 254, 255, 256, 257, 258, 259, 260, 261, 262, 263, 264, 265, 266, 267, 268, 269, 270, 271, 272, 273, 274, 275, 276, 277, 278, 279, 49, 280, 281, 282, 283, 46, 284, 285, 286, 287, 45, 288, 289, 290, 291, 292, 293, 294, 295, 296, 297, 47, 48, 50, 951, 952, 953, 954, 955, 956, 957, 958, 959, 960, 1007, 1008, 1009, 1010, 1011, 1012, 1013, 1014, 1015, 1016, 1017, 1018, 1019, 1020, 997, 998, 999, 1000, 1001, 1002, 1003, 1004, 1005, 1006] (by decide +kernel) (by decide +kernel)
set_option maxRecDepth 20000 in
theorem gL_law_X6_text : GoodIn wsL_law (wsV RL 22 RX6 yX6_text wsX6_text) := goodIn_app (goodIn_of _ (by decide +kernel)) ggL_law_X6_text
set_option maxRecDepth 20000 in
theorem ggL_law_X7_text : GoodIn wsL_law wsX7_text := goodIn_r _ [301, 302, 303, 304, 305, 306, 307, 308, 309, 93, 310, 115, 311, 312, 92, 313, 314, 315, 99, 316, 317, 318, 5, 319, 320, 321, 322, 323, 324, 325, 326, 327, 328, 329, 94, 116, 117, 118, 330, 331, 332, 333, 334, 335, 336, 337, 338, 339, 340, 341, 342, 95, 96, 343, 344, 345, 346, 347, 348, 349, 350, 351, 352, 353, 354, 355, 356, 357, 358, 359, 360, 361, 362, 363, 364, 365, 366, 367, 368, 369, 370, 371, 372, 373, 961, 962, 963, 964, 965, 966, 967, 968, 969, 970, 971, 972, 973, 974, 975, 976, 977, 978, 979, 980, 981, 982, 983, 984, 985, 986, 987, 988, 989, 990, 991, 992, 993, 994, 995, 996] (by decide +kernel) (by decide +kernel)
set_option maxRecDepth 20000 in
theorem gL_law_X7_text : GoodIn wsL_law (wsV RL 26 RX7 yX7_text wsX7_text) := goodIn_app (goodIn_of _ (by decide +kernel)) ggL_law_X7_text
set_option maxRecDepth 20000 in
theorem ggL_law_X6_fault : GoodIn wsL_law wsX6_fault := goodIn_r _ [377, 19, 951, 952, 953, 954, 955, 956, 957, 958, 959, 960, 1007, 1008, 1009, 1010, 1011, 1012, 1013, 1014, 1015, 1016, 1017] (by decide +kernel) (by decide +kernel)
set_option maxRecDepth 20000 in
theorem gL_law_X6_fault : GoodIn wsL_law (wsV RL 27 RX6 yX6_fault wsX6_fault) := goodIn_app (goodIn_of _ (by decide +kernel)) ggL_law_X6_fault
set_option maxRecDepth 20000 in
theorem ggL_law_X7_fault : GoodIn wsL_law wsX7_fault := goodIn_r _ [381, 311, 961, 962, 963, 964, 965, 966, 967, 968, 969, 970, 971, 972, 973, 974, 975, 976, 977, 978, 979, 980, 981, 982, 983, 984, 985, 986, 987, 988, 989, 990, 991, 992, 993, 994, 995, 996] (by decide +kernel) (by decide +kernel)
set_option maxRecDepth 20000 in
theorem gL_law_X7_fault : GoodIn wsL_law (wsV RL 30 RX7 yX7_fault wsX7_fault) := goodIn_app (goodIn_of _ (by decide +kernel)) ggL_law_X7_fault
set_option maxRecDepth 20000 in
theorem ggL_law_X6_rule : GoodIn wsL_law wsX6_rule := goodIn_r _ [385, 15, 386, 14, 387, 388, 53, 49, 951, 952, 953, 954, 955, 956, 957, 958, 959, 960, 997, 998, 999, 1000, 1001, 1002, 1003, 1004, 1005, 1006] (by decide +kernel) (by decide +kernel)
set_option maxRecDepth 20000 in
theorem gL_law_X6_rule : GoodIn wsL_law (wsV RL 31 RX6 yX6_rule wsX6_rule) := goodIn_app (goodIn_of _ (by decide +kernel)) ggL_law_X6_rule
set_option maxRecDepth 20000 in
theorem ggL_law_X7_rule : GoodIn wsL_law wsX7_rule := goodIn_r _ [392, 313, 314, 92, 393, 394, 395, 5, 396, 961, 962, 963, 964, 965, 966, 967, 968, 969, 970, 971, 972, 973, 974, 975, 976, 977, 978, 979, 980, 981, 982, 983, 984, 985, 986, 987, 988, 989, 990, 991, 992, 993, 994, 995, 996] (by decide +kernel) (by decide +kernel)
set_option maxRecDepth 20000 in
theorem gL_law_X7_rule : GoodIn wsL_law (wsV RL 34 RX7 yX7_rule wsX7_rule) := goodIn_app (goodIn_of _ (by decide +kernel)) ggL_law_X7_rule
set_option maxRecDepth 20000 in
theorem ggL_law_X6_beast : GoodIn wsL_law wsX6_beast := goodIn_r _ [400, 15, 274, 14, 275, 276, 51, 108, 2, 109, 285, 286, 287, 45, 46, 288, 289, 290, 401, 402, 403, 404, 405, 406, 951, 952, 953, 954, 955, 956, 957, 958, 959, 960, 997, 998, 999, 1000, 1001, 1002, 1003, 1004, 1005, 1006] (by decide +kernel) (by decide +kernel)
set_option maxRecDepth 20000 in
theorem gL_law_X6_beast : GoodIn wsL_law (wsV RL 35 RX6 yX6_beast wsX6_beast) := goodIn_app (goodIn_of _ (by decide +kernel)) ggL_law_X6_beast
set_option maxRecDepth 20000 in
theorem ggL_law_X7_beast : GoodIn wsL_law wsX7_beast := goodIn_r _ [410, 92, 411, 412, 413, 5, 414, 313, 116, 117, 118, 367, 368, 369, 370, 371, 372, 373, 415, 416, 417, 418, 419, 420, 421, 422, 423, 424, 425, 426, 427, 428, 429, 430, 961, 962, 963, 964, 965, 966, 967, 968, 969, 970, 971, 972, 973, 974, 975, 976, 977, 978, 979, 980, 981, 982, 983, 984, 985, 986, 987, 988, 989, 990, 991, 992, 993, 994, 995, 996] (by decide +kernel) (by decide +kernel)
set_option maxRecDepth 20000 in
theorem gL_law_X7_beast : GoodIn wsL_law (wsV RL 39 RX7 yX7_beast wsX7_beast) := goodIn_app (goodIn_of _ (by decide +kernel)) ggL_law_X7_beast
set_option maxRecDepth 20000 in
theorem ggL_law_X6_robber : GoodIn wsL_law wsX6_robber := goodIn_r _ [434, 15, 435, 14, 436, 437, 52, 108, 2, 109, 951, 952, 953, 954, 955, 956, 957, 958, 959, 960, 997, 998, 999, 1000, 1001, 1002, 1003, 1004, 1005, 1006] (by decide +kernel) (by decide +kernel)
set_option maxRecDepth 20000 in
theorem gL_law_X6_robber : GoodIn wsL_law (wsV RL 40 RX6 yX6_robber wsX6_robber) := goodIn_app (goodIn_of _ (by decide +kernel)) ggL_law_X6_robber
set_option maxRecDepth 20000 in
theorem ggL_law_X7_robber : GoodIn wsL_law wsX7_robber := goodIn_r _ [441, 92, 442, 443, 444, 5, 445, 314, 116, 117, 118, 961, 962, 963, 964, 965, 966, 967, 968, 969, 970, 971, 972, 973, 974, 975, 976, 977, 978, 979, 980, 981, 982, 983, 984, 985, 986, 987, 988, 989, 990, 991, 992, 993, 994, 995, 996] (by decide +kernel) (by decide +kernel)
set_option maxRecDepth 20000 in
theorem gL_law_X7_robber : GoodIn wsL_law (wsV RL 43 RX7 yX7_robber wsX7_robber) := goodIn_app (goodIn_of _ (by decide +kernel)) ggL_law_X7_robber
set_option maxRecDepth 20000 in
theorem ggL_law_X6_at : GoodIn wsL_law wsX6_at := goodIn_r _ [449, 15, 107, 108, 2, 109, 951, 952, 953, 954, 955, 956, 957, 958, 959, 960, 997, 998, 999, 1000, 1001, 1002, 1003, 1004, 1005, 1006] (by decide +kernel) (by decide +kernel)
set_option maxRecDepth 20000 in
theorem gL_law_X6_at : GoodIn wsL_law (wsV RL 44 RX6 yX6_at wsX6_at) := goodIn_app (goodIn_of _ (by decide +kernel)) ggL_law_X6_at
set_option maxRecDepth 20000 in
theorem ggL_law_X7_at : GoodIn wsL_law wsX7_at := goodIn_r _ [453, 92, 116, 117, 5, 118, 411, 412, 413, 414, 313, 427, 428, 429, 430, 961, 962, 963, 964, 965, 966, 967, 968, 969, 970, 971, 972, 973, 974, 975, 976, 977, 978, 979, 980, 981, 982, 983, 984, 985, 986, 987, 988, 989, 990, 991, 992, 993, 994, 995, 996] (by decide +kernel) (by decide +kernel)
set_option maxRecDepth 20000 in
theorem gL_law_X7_at : GoodIn wsL_law (wsV RL 47 RX7 yX7_at wsX7_at) := goodIn_app (goodIn_of _ (by decide +kernel)) ggL_law_X7_at
set_option maxRecDepth 20000 in
theorem ggL_law_X6_alter : GoodIn wsL_law wsX6_alter := goodIn_r _ [457, 15, 274, 14, 275, 276, 51, 108, 2, 109, 107, 458, 459, 460, 461, 277, 278, 279, 49, 53, 280, 281, 282, 283, 46, 284, 285, 286, 287, 45, 288, 289, 290, 951, 952, 953, 954, 955, 956, 957, 958, 959, 960, 997, 998, 999, 1000, 1001, 1002, 1003, 1004, 1005, 1006] (by decide +kernel) (by decide +kernel)
set_option maxRecDepth 20000 in
theorem gL_law_X6_alter : GoodIn wsL_law (wsV RL 48 RX6 yX6_alter wsX6_alter) := goodIn_app (goodIn_of _ (by decide +kernel)) ggL_law_X6_alter
set_option maxRecDepth 20000 in
theorem ggL_law_X7_alter : GoodIn wsL_law wsX7_alter := goodIn_r _ [465, 466, 467, 92, 116, 117, 5, 118, 411, 412, 413, 414, 313, 468, 469, 470, 471, 363, 364, 365, 366, 367, 368, 369, 370, 371, 372, 373, 961, 962, 963, 964, 965, 966, 967, 968, 969, 970, 971, 972, 973, 974, 975, 976, 977, 978, 979, 980, 981, 982, 983, 984, 985, 986, 987, 988, 989, 990, 991, 992, 993, 994, 995, 996] (by decide +kernel) (by decide +kernel)
set_option maxRecDepth 20000 in
theorem gL_law_X7_alter : GoodIn wsL_law (wsV RL 52 RX7 yX7_alter wsX7_alter) := goodIn_app (goodIn_of _ (by decide +kernel)) ggL_law_X7_alter
set_option maxRecDepth 20000 in
theorem ggL_law_X6_steel : GoodIn wsL_law wsX6_steel := goodIn_r _ [475, 15, 435, 14, 436, 437, 52, 108, 2, 109, 107, 951, 952, 953, 954, 955, 956, 957, 958, 959, 960, 997, 998, 999, 1000, 1001, 1002, 1003, 1004, 1005, 1006] (by decide +kernel) (by decide +kernel)
set_option maxRecDepth 20000 in
theorem gL_law_X6_steel : GoodIn wsL_law (wsV RL 53 RX6 yX6_steel wsX6_steel) := goodIn_app (goodIn_of _ (by decide +kernel)) ggL_law_X6_steel
set_option maxRecDepth 20000 in
theorem ggL_law_X7_steel : GoodIn wsL_law wsX7_steel := goodIn_r _ [479, 480, 442, 443, 444, 5, 445, 314, 116, 117, 118, 468, 469, 470, 471, 92, 961, 962, 963, 964, 965, 966, 967, 968, 969, 970, 971, 972, 973, 974, 975, 976, 977, 978, 979, 980, 981, 982, 983, 984, 985, 986, 987, 988, 989, 990, 991, 992, 993, 994, 995, 996] (by decide +kernel) (by decide +kernel)
set_option maxRecDepth 20000 in
theorem gL_law_X7_steel : GoodIn wsL_law (wsV RL 56 RX7 yX7_steel wsX7_steel) := goodIn_app (goodIn_of _ (by decide +kernel)) ggL_law_X7_steel
set_option maxRecDepth 20000 in
theorem ggL_law_X6_scout : GoodIn wsL_law wsX6_scout := goodIn_r _ [484, 15, 107, 108, 2, 109, 951, 952, 953, 954, 955, 956, 957, 958, 959, 960, 997, 998, 999, 1000, 1001, 1002, 1003, 1004, 1005, 1006] (by decide +kernel) (by decide +kernel)
set_option maxRecDepth 20000 in
theorem gL_law_X6_scout : GoodIn wsL_law (wsV RL 57 RX6 yX6_scout wsX6_scout) := goodIn_app (goodIn_of _ (by decide +kernel)) ggL_law_X6_scout
set_option maxRecDepth 20000 in
theorem ggL_law_X7_scout : GoodIn wsL_law wsX7_scout := goodIn_r _ [488, 489, 116, 117, 5, 118, 468, 469, 470, 471, 92, 961, 962, 963, 964, 965, 966, 967, 968, 969, 970, 971, 972, 973, 974, 975, 976, 977, 978, 979, 980, 981, 982, 983, 984, 985, 986, 987, 988, 989, 990, 991, 992, 993, 994, 995, 996] (by decide +kernel) (by decide +kernel)
set_option maxRecDepth 20000 in
theorem gL_law_X7_scout : GoodIn wsL_law (wsV RL 60 RX7 yX7_scout wsX7_scout) := goodIn_app (goodIn_of _ (by decide +kernel)) ggL_law_X7_scout
set_option maxRecDepth 20000 in
theorem ggL_law_X6_climb : GoodIn wsL_law wsX6_climb := goodIn_r _ [493, 494, 495, 496, 2, 497, 15, 274, 14, 275, 276, 51, 108, 109, 498, 499, 500, 53, 49, 46, 501, 386, 387, 388, 280, 281, 282, 283, 284, 285, 286, 287, 45, 288, 289, 290, 951, 952, 953, 954, 955, 956, 957, 958, 959, 960, 997, 998, 999, 1000, 1001, 1002, 1003, 1004, 1005, 1006] (by decide +kernel) (by decide +kernel)
set_option maxRecDepth 20000 in
theorem gL_law_X6_climb : GoodIn wsL_law (wsV RL 61 RX6 yX6_climb wsX6_climb) := goodIn_app (goodIn_of _ (by decide +kernel)) ggL_law_X6_climb
set_option maxRecDepth 20000 in
theorem ggL_law_X7_climb : GoodIn wsL_law wsX7_climb := goodIn_r _ [505, 506, 507, 508, 5, 509, 92, 411, 412, 413, 414, 313, 116, 117, 118, 419, 420, 421, 422, 363, 364, 365, 366, 367, 368, 369, 370, 371, 372, 373, 961, 962, 963, 964, 965, 966, 967, 968, 969, 970, 971, 972, 973, 974, 975, 976, 977, 978, 979, 980, 981, 982, 983, 984, 985, 986, 987, 988, 989, 990, 991, 992, 993, 994, 995, 996] (by decide +kernel) (by decide +kernel)
set_option maxRecDepth 20000 in
theorem gL_law_X7_climb : GoodIn wsL_law (wsV RL 64 RX7 yX7_climb wsX7_climb) := goodIn_app (goodIn_of _ (by decide +kernel)) ggL_law_X7_climb
set_option maxRecDepth 20000 in
theorem ggL_law_X6_down : GoodIn wsL_law wsX6_down := goodIn_r _ [513, 15, 107, 108, 2, 109, 951, 952, 953, 954, 955, 956, 957, 958, 959, 960, 997, 998, 999, 1000, 1001, 1002, 1003, 1004, 1005, 1006] (by decide +kernel) (by decide +kernel)
set_option maxRecDepth 20000 in
theorem gL_law_X6_down : GoodIn wsL_law (wsV RL 65 RX6 yX6_down wsX6_down) := goodIn_app (goodIn_of _ (by decide +kernel)) ggL_law_X6_down
set_option maxRecDepth 20000 in
theorem ggL_law_X7_down : GoodIn wsL_law wsX7_down := goodIn_r _ [517, 92, 116, 117, 5, 118, 468, 469, 470, 471, 961, 962, 963, 964, 965, 966, 967, 968, 969, 970, 971, 972, 973, 974, 975, 976, 977, 978, 979, 980, 981, 982, 983, 984, 985, 986, 987, 988, 989, 990, 991, 992, 993, 994, 995, 996] (by decide +kernel) (by decide +kernel)
set_option maxRecDepth 20000 in
theorem gL_law_X7_down : GoodIn wsL_law (wsV RL 68 RX7 yX7_down wsX7_down) := goodIn_app (goodIn_of _ (by decide +kernel)) ggL_law_X7_down
