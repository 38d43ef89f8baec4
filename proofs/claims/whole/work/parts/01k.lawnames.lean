set_option maxRecDepth 20000 in
theorem ggL_law_X6_swap : GoodIn wsL_law wsX6_swap := goodIn_r _ [521, 15, 107, 108, 2, 109, 522, 523, 524, 951, 952, 953, 954, 955, 956, 957, 958, 959, 960, 997, 998, 999, 1000, 1001, 1002, 1003, 1004, 1005, 1006] (by decide +kernel) (by decide +kernel)
set_option maxRecDepth 20000 in
theorem gL_law_X6_swap : GoodIn wsL_law (wsV RL 69 RX6 yX6_swap wsX6_swap) := goodIn_app (goodIn_of _ (by decide +kernel)) ggL_law_X6_swap
set_option maxRecDepth 20000 in
theorem ggL_law_X7_swap : GoodIn wsL_law wsX7_swap := goodIn_r _ [528, 92, 411, 412, 413, 5, 414, 313, 116, 117, 118, 427, 428, 429, 430, 961, 962, 963, 964, 965, 966, 967, 968, 969, 970, 971, 972, 973, 974, 975, 976, 977, 978, 979, 980, 981, 982, 983, 984, 985, 986, 987, 988, 989, 990, 991, 992, 993, 994, 995, 996] (by decide +kernel) (by decide +kernel)
set_option maxRecDepth 20000 in
theorem gL_law_X7_swap : GoodIn wsL_law (wsV RL 72 RX7 yX7_swap wsX7_swap) := goodIn_app (goodIn_of _ (by decide +kernel)) ggL_law_X7_swap
set_option maxRecDepth 20000 in
theorem ggL_law_X6_noise : GoodIn wsL_law wsX6_noise := goodIn_r _ [532, 15, 533, 14, 534, 535, 951, 952, 953, 954, 955, 956, 957, 958, 959, 960, 997, 998, 999, 1000, 1001, 1002, 1003, 1004, 1005, 1006] (by decide +kernel) (by decide +kernel)
set_option maxRecDepth 20000 in
theorem gL_law_X6_noise : GoodIn wsL_law (wsV RL 73 RX6 yX6_noise wsX6_noise) := goodIn_app (goodIn_of _ (by decide +kernel)) ggL_law_X6_noise
set_option maxRecDepth 20000 in
theorem ggL_law_X7_noise : GoodIn wsL_law wsX7_noise := goodIn_r _ [539, 540, 541, 542, 5, 543, 92, 961, 962, 963, 964, 965, 966, 967, 968, 969, 970, 971, 972, 973, 974, 975, 976, 977, 978, 979, 980, 981, 982, 983, 984, 985, 986, 987, 988, 989, 990, 991, 992, 993, 994, 995, 996] (by decide +kernel) (by decide +kernel)
set_option maxRecDepth 20000 in
theorem gL_law_X7_noise : GoodIn wsL_law (wsV RL 76 RX7 yX7_noise wsX7_noise) := goodIn_app (goodIn_of _ (by decide +kernel)) ggL_law_X7_noise
set_option maxRecDepth 20000 in
theorem ggL_law_X6_flight : GoodIn wsL_law wsX6_flight := goodIn_r _ [547, 15, 107, 108, 2, 109, 533, 14, 534, 535, 548, 549, 550, 52, 48, 551, 552, 553, 554, 555, 556, 557, 951, 952, 953, 954, 955, 956, 957, 958, 959, 960, 997, 998, 999, 1000, 1001, 1002, 1003, 1004, 1005, 1006] (by decide +kernel) (by decide +kernel)
set_option maxRecDepth 20000 in
theorem gL_law_X6_flight : GoodIn wsL_law (wsV RL 77 RX6 yX6_flight wsX6_flight) := goodIn_app (goodIn_of _ (by decide +kernel)) ggL_law_X6_flight
set_option maxRecDepth 20000 in
theorem ggL_law_X7_flight : GoodIn wsL_law wsX7_flight := goodIn_r _ [561, 540, 541, 542, 5, 543, 92, 562, 563, 564, 565, 314, 566, 567, 568, 961, 962, 963, 964, 965, 966, 967, 968, 969, 970, 971, 972, 973, 974, 975, 976, 977, 978, 979, 980, 981, 982, 983, 984, 985, 986, 987, 988, 989, 990, 991, 992, 993, 994, 995, 996] (by decide +kernel) (by decide +kernel)
set_option maxRecDepth 20000 in
theorem gL_law_X7_flight : GoodIn wsL_law (wsV RL 80 RX7 yX7_flight wsX7_flight) := goodIn_app (goodIn_of _ (by decide +kernel)) ggL_law_X7_flight
set_option maxRecDepth 20000 in
theorem ggL_law_X6_free : GoodIn wsL_law wsX6_free := goodIn_r _ [572, 15, 498, 14, 499, 500, 53, 49, 46, 501, 386, 387, 388, 280, 281, 282, 283, 284, 285, 286, 287, 45, 288, 289, 290, 951, 952, 953, 954, 955, 956, 957, 958, 959, 960, 997, 998, 999, 1000, 1001, 1002, 1003, 1004, 1005, 1006] (by decide +kernel) (by decide +kernel)
set_option maxRecDepth 20000 in
theorem gL_law_X6_free : GoodIn wsL_law (wsV RL 81 RX6 yX6_free wsX6_free) := goodIn_app (goodIn_of _ (by decide +kernel)) ggL_law_X6_free
set_option maxRecDepth 20000 in
theorem ggL_law_X7_free : GoodIn wsL_law wsX7_free := goodIn_r _ [576, 313, 92, 506, 507, 508, 5, 509, 411, 412, 413, 414, 116, 117, 118, 419, 420, 421, 422, 363, 364, 365, 366, 367, 368, 369, 370, 371, 372, 373, 961, 962, 963, 964, 965, 966, 967, 968, 969, 970, 971, 972, 973, 974, 975, 976, 977, 978, 979, 980, 981, 982, 983, 984, 985, 986, 987, 988, 989, 990, 991, 992, 993, 994, 995, 996] (by decide +kernel) (by decide +kernel)
set_option maxRecDepth 20000 in
theorem gL_law_X7_free : GoodIn wsL_law (wsV RL 84 RX7 yX7_free wsX7_free) := goodIn_app (goodIn_of _ (by decide +kernel)) ggL_law_X7_free
set_option maxRecDepth 20000 in
theorem ggL_law_X6_need : GoodIn wsL_law wsX6_need := goodIn_r _ [580, 15, 581, 582, 583, 584, 951, 952, 953, 954, 955, 956, 957, 958, 959, 960, 997, 998, 999, 1000, 1001, 1002, 1003, 1004, 1005, 1006] (by decide +kernel) (by decide +kernel)
set_option maxRecDepth 20000 in
theorem gL_law_X6_need : GoodIn wsL_law (wsV RL 85 RX6 yX6_need wsX6_need) := goodIn_app (goodIn_of _ (by decide +kernel)) ggL_law_X6_need
set_option maxRecDepth 20000 in
theorem ggL_law_X7_need : GoodIn wsL_law wsX7_need := goodIn_r _ [588, 314, 92, 961, 962, 963, 964, 965, 966, 967, 968, 969, 970, 971, 972, 973, 974, 975, 976, 977, 978, 979, 980, 981, 982, 983, 984, 985, 986, 987, 988, 989, 990, 991, 992, 993, 994, 995, 996] (by decide +kernel) (by decide +kernel)
set_option maxRecDepth 20000 in
theorem gL_law_X7_need : GoodIn wsL_law (wsV RL 88 RX7 yX7_need wsX7_need) := goodIn_app (goodIn_of _ (by decide +kernel)) ggL_law_X7_need
set_option maxRecDepth 20000 in
theorem ggL_law_X6_best : GoodIn wsL_law wsX6_best := goodIn_r _ [592, 27, 15, 107, 108, 2, 109, 593, 594, 595, 596, 26, 597, 598, 74, 599, 600, 601, 602, 603, 604, 605, 72, 606, 607, 608, 609, 610, 582, 583, 584, 73, 611, 295, 296, 297, 533, 14, 534, 535, 548, 549, 550, 52, 48, 612, 552, 553, 554, 555, 556, 557, 281, 282, 283, 46, 284, 285, 286, 287, 45, 288, 289, 290, 613, 614, 615, 616, 617, 618, 619, 951, 952, 953, 954, 955, 956, 957, 958, 959, 960, 1021, 1022, 1023, 1024, 1025, 1026, 1027, 997, 998, 999, 1000, 1001, 1002, 1003, 1004, 1005, 1006] (by decide +kernel) (by decide +kernel)
set_option maxRecDepth 20000 in
theorem gL_law_X6_best : GoodIn wsL_law (wsV RL 89 RX6 yX6_best wsX6_best) := goodIn_app (goodIn_of _ (by decide +kernel)) ggL_law_X6_best
set_option maxRecDepth 20000 in
theorem ggL_law_X7_best : GoodIn wsL_law wsX7_best := goodIn_r _ [623, 624, 625, 626, 627, 628, 629, 116, 117, 5, 118, 630, 631, 632, 633, 634, 313, 635, 636, 637, 638, 639, 92, 640, 641, 642, 643, 644, 645, 646, 647, 648, 649, 650, 651, 652, 653, 411, 412, 413, 414, 363, 364, 365, 366, 367, 368, 369, 370, 371, 372, 373, 540, 541, 542, 543, 562, 563, 564, 565, 314, 566, 567, 568, 654, 655, 656, 657, 961, 962, 963, 964, 965, 966, 967, 968, 969, 970, 971, 972, 973, 974, 975, 976, 977, 978, 979, 980, 981, 982, 983, 984, 985, 986, 987, 988, 989, 990, 991, 992, 993, 994, 995, 996] (by decide +kernel) (by decide +kernel)
set_option maxRecDepth 20000 in
theorem gL_law_X7_best : GoodIn wsL_law (wsV RL 92 RX7 yX7_best wsX7_best) := goodIn_app (goodIn_of _ (by decide +kernel)) ggL_law_X7_best
set_option maxRecDepth 20000 in
theorem ggL_law_X6_few : GoodIn wsL_law wsX6_few := goodIn_r _ [661, 27, 15, 107, 108, 2, 109, 593, 594, 595, 596, 26, 597, 598, 74, 599, 600, 601, 602, 603, 604, 605, 72, 606, 607, 608, 609, 610, 582, 583, 584, 73, 611, 295, 296, 297, 533, 14, 534, 535, 548, 549, 550, 52, 48, 612, 552, 553, 554, 555, 556, 557, 281, 282, 283, 46, 284, 285, 286, 287, 45, 288, 289, 290, 613, 614, 615, 616, 617, 618, 619, 951, 952, 953, 954, 955, 956, 957, 958, 959, 960, 1021, 1022, 1023, 1024, 1025, 1026, 1027, 997, 998, 999, 1000, 1001, 1002, 1003, 1004, 1005, 1006] (by decide +kernel) (by decide +kernel)
set_option maxRecDepth 20000 in
theorem gL_law_X6_few : GoodIn wsL_law (wsV RL 93 RX6 yX6_few wsX6_few) := goodIn_app (goodIn_of _ (by decide +kernel)) ggL_law_X6_few
set_option maxRecDepth 20000 in
theorem ggL_law_X7_few : GoodIn wsL_law wsX7_few := goodIn_r _ [665, 625, 626, 627, 314, 629, 628, 116, 117, 5, 118, 630, 631, 632, 633, 634, 313, 635, 636, 637, 638, 639, 92, 640, 641, 642, 643, 644, 645, 646, 647, 648, 649, 650, 651, 652, 653, 411, 412, 413, 414, 363, 364, 365, 366, 367, 368, 369, 370, 371, 372, 373, 540, 541, 542, 543, 562, 563, 564, 565, 566, 567, 568, 654, 655, 656, 657, 961, 962, 963, 964, 965, 966, 967, 968, 969, 970, 971, 972, 973, 974, 975, 976, 977, 978, 979, 980, 981, 982, 983, 984, 985, 986, 987, 988, 989, 990, 991, 992, 993, 994, 995, 996] (by decide +kernel) (by decide +kernel)
set_option maxRecDepth 20000 in
theorem gL_law_X7_few : GoodIn wsL_law (wsV RL 96 RX7 yX7_few wsX7_few) := goodIn_app (goodIn_of _ (by decide +kernel)) ggL_law_X7_few
set_option maxRecDepth 20000 in
theorem ggL_law_X6_loud : GoodIn wsL_law wsX6_loud := goodIn_r _ [669, 27, 15, 107, 108, 2, 109, 593, 594, 595, 596, 26, 597, 598, 74, 599, 600, 601, 602, 603, 604, 605, 72, 606, 607, 608, 609, 610, 582, 583, 584, 73, 611, 295, 296, 297, 533, 14, 534, 535, 548, 549, 550, 52, 48, 612, 552, 553, 554, 555, 556, 557, 281, 282, 283, 46, 284, 285, 286, 287, 45, 288, 289, 290, 613, 614, 615, 616, 617, 618, 619, 951, 952, 953, 954, 955, 956, 957, 958, 959, 960, 1021, 1022, 1023, 1024, 1025, 1026, 1027, 997, 998, 999, 1000, 1001, 1002, 1003, 1004, 1005, 1006] (by decide +kernel) (by decide +kernel)
set_option maxRecDepth 20000 in
theorem gL_law_X6_loud : GoodIn wsL_law (wsV RL 97 RX6 yX6_loud wsX6_loud) := goodIn_app (goodIn_of _ (by decide +kernel)) ggL_law_X6_loud
set_option maxRecDepth 20000 in
theorem ggL_law_X7_loud : GoodIn wsL_law wsX7_loud := goodIn_r _ [673, 625, 626, 628, 629, 116, 117, 5, 118, 630, 631, 632, 633, 627, 634, 313, 635, 636, 637, 638, 639, 92, 640, 641, 642, 643, 644, 645, 646, 647, 648, 649, 650, 651, 652, 653, 411, 412, 413, 414, 363, 364, 365, 366, 367, 368, 369, 370, 371, 372, 373, 540, 541, 542, 543, 562, 563, 564, 565, 314, 566, 567, 568, 654, 655, 656, 657, 961, 962, 963, 964, 965, 966, 967, 968, 969, 970, 971, 972, 973, 974, 975, 976, 977, 978, 979, 980, 981, 982, 983, 984, 985, 986, 987, 988, 989, 990, 991, 992, 993, 994, 995, 996] (by decide +kernel) (by decide +kernel)
set_option maxRecDepth 20000 in
theorem gL_law_X7_loud : GoodIn wsL_law (wsV RL 100 RX7 yX7_loud wsX7_loud) := goodIn_app (goodIn_of _ (by decide +kernel)) ggL_law_X7_loud
set_option maxRecDepth 20000 in
theorem ggL_law_X6_towers : GoodIn wsL_law wsX6_towers := goodIn_r _ [677, 27, 15, 596, 26, 597, 598, 74, 599, 600, 601, 602, 603, 604, 605, 72, 606, 607, 608, 609, 610, 582, 583, 584, 73, 611, 295, 296, 297, 533, 14, 534, 535, 548, 549, 550, 52, 48, 612, 552, 553, 554, 555, 556, 557, 281, 282, 283, 46, 284, 285, 286, 287, 45, 288, 289, 290, 613, 614, 615, 616, 951, 952, 953, 954, 955, 956, 957, 958, 959, 960, 1021, 1022, 1023, 1024, 1025, 1026, 1027, 997, 998, 999, 1000, 1001, 1002, 1003, 1004, 1005, 1006] (by decide +kernel) (by decide +kernel)
set_option maxRecDepth 20000 in
theorem gL_law_X6_towers : GoodIn wsL_law (wsV RL 101 RX6 yX6_towers wsX6_towers) := goodIn_app (goodIn_of _ (by decide +kernel)) ggL_law_X6_towers
set_option maxRecDepth 20000 in
theorem ggL_law_X7_towers : GoodIn wsL_law wsX7_towers := goodIn_r _ [681, 634, 630, 631, 632, 5, 633, 627, 313, 628, 635, 629, 636, 637, 638, 639, 92, 640, 641, 642, 643, 644, 645, 646, 647, 648, 649, 650, 651, 652, 653, 411, 412, 413, 414, 116, 117, 118, 363, 364, 365, 366, 367, 368, 369, 370, 371, 372, 373, 540, 541, 542, 543, 562, 563, 564, 565, 314, 566, 567, 568, 961, 962, 963, 964, 965, 966, 967, 968, 969, 970, 971, 972, 973, 974, 975, 976, 977, 978, 979, 980, 981, 982, 983, 984, 985, 986, 987, 988, 989, 990, 991, 992, 993, 994, 995, 996] (by decide +kernel) (by decide +kernel)
set_option maxRecDepth 20000 in
theorem gL_law_X7_towers : GoodIn wsL_law (wsV RL 104 RX7 yX7_towers wsX7_towers) := goodIn_app (goodIn_of _ (by decide +kernel)) ggL_law_X7_towers
set_option maxRecDepth 20000 in
theorem ggL_law_X6_tale : GoodIn wsL_law wsX6_tale := goodIn_r _ [685, 15, 686, 14, 687, 688, 51, 54, 689, 401, 402, 403, 45, 288, 289, 290, 690, 691, 692, 951, 952, 953, 954, 955, 956, 957, 958, 959, 960, 997, 998, 999, 1000, 1001, 1002, 1003, 1004, 1005, 1006] (by decide +kernel) (by decide +kernel)
set_option maxRecDepth 20000 in
theorem gL_law_X6_tale : GoodIn wsL_law (wsV RL 105 RX6 yX6_tale wsX6_tale) := goodIn_app (goodIn_of _ (by decide +kernel)) ggL_law_X6_tale
set_option maxRecDepth 20000 in
theorem ggL_law_X7_tale : GoodIn wsL_law wsX7_tale := goodIn_r _ [696, 697, 698, 699, 700, 5, 701, 313, 92, 427, 428, 429, 430, 651, 652, 653, 640, 641, 642, 415, 416, 417, 418, 371, 372, 373, 961, 962, 963, 964, 965, 966, 967, 968, 969, 970, 971, 972, 973, 974, 975, 976, 977, 978, 979, 980, 981, 982, 983, 984, 985, 986, 987, 988, 989, 990, 991, 992, 993, 994, 995, 996] (by decide +kernel) (by decide +kernel)
set_option maxRecDepth 20000 in
theorem gL_law_X7_tale : GoodIn wsL_law (wsV RL 108 RX7 yX7_tale wsX7_tale) := goodIn_app (goodIn_of _ (by decide +kernel)) ggL_law_X7_tale
set_option maxRecDepth 20000 in
theorem ggL_law_X6_beds : GoodIn wsL_law wsX6_beds := goodIn_r _ [705, 15, 31, 107, 108, 2, 109, 706, 30, 707, 708, 78, 709, 79, 710, 295, 296, 297, 141, 142, 711, 712, 686, 14, 687, 688, 51, 54, 689, 401, 402, 403, 45, 288, 289, 290, 690, 691, 692, 713, 714, 715, 716, 523, 524, 951, 952, 953, 954, 955, 956, 957, 958, 959, 960, 997, 998, 999, 1000, 1001, 1002, 1003, 1004, 1005, 1006, 1028, 1029, 1030, 1031, 1032, 1033] (by decide +kernel) (by decide +kernel)
set_option maxRecDepth 20000 in
theorem gL_law_X6_beds : GoodIn wsL_law (wsV RL 109 RX6 yX6_beds wsX6_beds) := goodIn_app (goodIn_of _ (by decide +kernel)) ggL_law_X6_beds
set_option maxRecDepth 20000 in
theorem ggL_law_X7_beds : GoodIn wsL_law wsX7_beds := goodIn_r _ [720, 625, 313, 116, 117, 5, 118, 640, 641, 642, 721, 722, 723, 724, 647, 648, 649, 650, 651, 652, 653, 411, 412, 413, 414, 698, 699, 700, 701, 697, 92, 427, 428, 429, 430, 415, 416, 417, 418, 371, 372, 373, 961, 962, 963, 964, 965, 966, 967, 968, 969, 970, 971, 972, 973, 974, 975, 976, 977, 978, 979, 980, 981, 982, 983, 984, 985, 986, 987, 988, 989, 990, 991, 992, 993, 994, 995, 996] (by decide +kernel) (by decide +kernel)
set_option maxRecDepth 20000 in
theorem gL_law_X7_beds : GoodIn wsL_law (wsV RL 112 RX7 yX7_beds wsX7_beds) := goodIn_app (goodIn_of _ (by decide +kernel)) ggL_law_X7_beds
set_option maxRecDepth 20000 in
theorem ggL_law_X6_brave : GoodIn wsL_law wsX6_brave := goodIn_r _ [728, 15, 690, 14, 691, 692, 689, 401, 402, 403, 45, 288, 289, 290, 951, 952, 953, 954, 955, 956, 957, 958, 959, 960, 997, 998, 999, 1000, 1001, 1002, 1003, 1004, 1005, 1006] (by decide +kernel) (by decide +kernel)
set_option maxRecDepth 20000 in
theorem gL_law_X6_brave : GoodIn wsL_law (wsV RL 113 RX6 yX6_brave wsX6_brave) := goodIn_app (goodIn_of _ (by decide +kernel)) ggL_law_X6_brave
set_option maxRecDepth 20000 in
theorem ggL_law_X7_brave : GoodIn wsL_law wsX7_brave := goodIn_r _ [732, 313, 427, 428, 429, 5, 430, 92, 415, 416, 417, 418, 371, 372, 373, 961, 962, 963, 964, 965, 966, 967, 968, 969, 970, 971, 972, 973, 974, 975, 976, 977, 978, 979, 980, 981, 982, 983, 984, 985, 986, 987, 988, 989, 990, 991, 992, 993, 994, 995, 996] (by decide +kernel) (by decide +kernel)
set_option maxRecDepth 20000 in
theorem gL_law_X7_brave : GoodIn wsL_law (wsV RL 116 RX7 yX7_brave wsX7_brave) := goodIn_app (goodIn_of _ (by decide +kernel)) ggL_law_X7_brave
set_option maxRecDepth 20000 in
theorem ggL_law_X6_value : GoodIn wsL_law wsX6_value := goodIn_r _ [736, 15, 27, 107, 108, 2, 109, 596, 26, 597, 598, 74, 599, 600, 601, 602, 603, 604, 605, 72, 606, 607, 608, 609, 610, 582, 583, 584, 73, 611, 295, 296, 297, 533, 14, 534, 535, 548, 549, 550, 52, 48, 612, 552, 553, 554, 555, 556, 557, 281, 282, 283, 46, 284, 285, 286, 287, 45, 288, 289, 290, 613, 614, 615, 616, 951, 952, 953, 954, 955, 956, 957, 958, 959, 960, 997, 998, 999, 1000, 1001, 1002, 1003, 1004, 1005, 1006, 1021, 1022, 1023, 1024, 1025, 1026, 1027] (by decide +kernel) (by decide +kernel)
set_option maxRecDepth 20000 in
theorem gL_law_X6_value : GoodIn wsL_law (wsV RL 117 RX6 yX6_value wsX6_value) := goodIn_app (goodIn_of _ (by decide +kernel)) ggL_law_X6_value
set_option maxRecDepth 20000 in
theorem ggL_law_X7_value : GoodIn wsL_law wsX7_value := goodIn_r _ [740, 313, 116, 117, 5, 118, 741, 742, 743, 744, 627, 630, 631, 632, 633, 634, 628, 635, 629, 636, 637, 638, 639, 92, 640, 641, 642, 643, 644, 645, 646, 647, 648, 649, 650, 651, 652, 653, 411, 412, 413, 414, 363, 364, 365, 366, 367, 368, 369, 370, 371, 372, 373, 540, 541, 542, 543, 562, 563, 564, 565, 314, 566, 567, 568, 961, 962, 963, 964, 965, 966, 967, 968, 969, 970, 971, 972, 973, 974, 975, 976, 977, 978, 979, 980, 981, 982, 983, 984, 985, 986, 987, 988, 989, 990, 991, 992, 993, 994, 995, 996] (by decide +kernel) (by decide +kernel)
set_option maxRecDepth 20000 in
theorem gL_law_X7_value : GoodIn wsL_law (wsV RL 120 RX7 yX7_value wsX7_value) := goodIn_app (goodIn_of _ (by decide +kernel)) ggL_law_X7_value
set_option maxRecDepth 20000 in
theorem ggL_law_X6_share : GoodIn wsL_law wsX6_share := goodIn_r _ [748, 15, 749, 27, 274, 14, 275, 276, 51, 108, 2, 109, 107, 596, 26, 597, 598, 74, 599, 600, 601, 602, 603, 604, 605, 72, 606, 607, 608, 609, 610, 582, 583, 584, 73, 611, 295, 296, 297, 533, 534, 535, 548, 549, 550, 52, 48, 612, 552, 553, 554, 555, 556, 557, 281, 282, 283, 46, 284, 285, 286, 287, 45, 288, 289, 290, 613, 614, 615, 616, 551, 750, 711, 712, 751, 752, 753, 951, 952, 953, 954, 955, 956, 957, 958, 959, 960, 997, 998, 999, 1000, 1001, 1002, 1003, 1004, 1005, 1006, 1021, 1022, 1023, 1024, 1025, 1026, 1027] (by decide +kernel) (by decide +kernel)
set_option maxRecDepth 20000 in
theorem gL_law_X6_share : GoodIn wsL_law (wsV RL 121 RX6 yX6_share wsX6_share) := goodIn_app (goodIn_of _ (by decide +kernel)) ggL_law_X6_share
set_option maxRecDepth 20000 in
theorem ggL_law_X7_share : GoodIn wsL_law wsX7_share := goodIn_r _ [757, 758, 313, 411, 412, 413, 5, 414, 116, 117, 118, 566, 567, 568, 759, 760, 761, 741, 742, 743, 744, 627, 630, 631, 632, 633, 634, 628, 635, 629, 636, 637, 638, 639, 92, 640, 641, 642, 643, 644, 645, 646, 647, 648, 649, 650, 651, 652, 653, 363, 364, 365, 366, 367, 368, 369, 370, 371, 372, 373, 540, 541, 542, 543, 562, 563, 564, 565, 314, 762, 763, 764, 961, 962, 963, 964, 965, 966, 967, 968, 969, 970, 971, 972, 973, 974, 975, 976, 977, 978, 979, 980, 981, 982, 983, 984, 985, 986, 987, 988, 989, 990, 991, 992, 993, 994, 995, 996] (by decide +kernel) (by decide +kernel)
set_option maxRecDepth 20000 in
theorem gL_law_X7_share : GoodIn wsL_law (wsV RL 125 RX7 yX7_share wsX7_share) := goodIn_app (goodIn_of _ (by decide +kernel)) ggL_law_X7_share
