set_option maxRecDepth 20000 in
theorem ggL_law_X8_init : GoodIn wsL_law wsX8_init := goodIn_r _ [9, 10, 11, 12, 13, 14, 15, 16, 17, 18, 19, 20, 21, 22, 23, 24, 25, 26, 27, 28, 29, 30, 31, 32, 33, 34, 35, 36, 37, 38, 39, 40, 41, 42, 43, 44, 45, 46, 47, 48, 49, 50, 51, 52, 53, 54, 55, 56, 57, 58, 59, 60, 61, 62, 63, 64, 65, 66, 67, 68, 69, 70, 71, 72, 73, 74, 75, 76, 77, 78, 79, 80, 81, 82, 83, 84, 85, 86, 87, 88, 89, 90, 91, 92, 93, 94, 95, 96, 97, 98, 99, 100, 990, 991, 992, 952, 953, 954, 955, 956, 957, 958, 959, 960, 961, 962, 993, 994, 995, 996, 997, 998, 999, 1000, 1001, 1002, 1003, 1004, 1005, 1006, 1007, 1008, 1009, 1010, 1011, 1012, 1013, 1014, 1015, 1016, 1017, 1018, 1019, 1020, 1021] (by decide +kernel) (by decide +kernel)
set_option maxRecDepth 20000 in
theorem gL_law_X8_init : GoodIn wsL_law (wsX8_init) := ggL_law_X8_init
set_option maxRecDepth 20000 in
theorem ggL_law_X9_init : GoodIn wsL_law wsX9_init := goodIn_r _ [103, 104, 11, 12, 51, 105, 106, 107, 108, 109, 110, 111, 112, 113, 114, 115, 116, 117, 118, 963, 964, 965, 966, 967, 968, 969, 970, 971, 972, 973, 974, 975, 976, 977, 978, 979, 980, 981, 982, 983, 984, 985, 986, 987, 988, 989] (by decide +kernel) (by decide +kernel)
set_option maxRecDepth 20000 in
theorem gL_law_X9_init : GoodIn wsL_law (wsX9_init) := ggL_law_X9_init
set_option maxRecDepth 20000 in
theorem ggL_law_X8_row : GoodIn wsL_law wsX8_row := goodIn_r _ [122, 123, 16, 124, 125, 2, 126, 127, 128, 129, 130, 131, 132, 133, 134, 135, 15, 136, 53, 54, 52, 55, 56, 57, 58, 137, 138, 139, 140, 952, 953, 954, 955, 956, 957, 958, 959, 960, 961, 962, 990, 991, 992] (by decide +kernel) (by decide +kernel)
set_option maxRecDepth 20000 in
theorem gL_law_X8_row : GoodIn wsL_law (wsV RL 13 RX8 yX8_row wsX8_row) := goodIn_app (goodIn_of _ (by decide +kernel)) ggL_law_X8_row
set_option maxRecDepth 20000 in
theorem ggL_law_X9_row : GoodIn wsL_law wsX9_row := goodIn_r _ [144, 145, 146, 147, 148, 105, 106, 107, 149, 150, 5, 151, 152, 153, 154, 155, 156, 157, 158, 159, 160, 963, 964, 965, 966, 967, 968, 969, 970, 971, 972, 973, 974, 975, 976, 977, 978, 979, 980, 981, 982, 983, 984, 985, 986, 987, 988, 989] (by decide +kernel) (by decide +kernel)
set_option maxRecDepth 20000 in
theorem gL_law_X9_row : GoodIn wsL_law (wsV RL 17 RX9 yX9_row wsX9_row) := goodIn_app (goodIn_of _ (by decide +kernel)) ggL_law_X9_row
set_option maxRecDepth 20000 in
theorem ggL_law_X8_set : GoodIn wsL_law wsX8_set := goodIn_r _ [164, 123, 16, 124, 125, 2, 126, 165, 166, 167, 15, 168, 53, 127, 128, 129, 130, 131, 132, 169, 170, 171, 172, 54, 173, 174, 175, 176, 52, 137, 138, 139, 140, 952, 953, 954, 955, 956, 957, 958, 959, 960, 961, 962, 990, 991, 992] (by decide +kernel) (by decide +kernel)
set_option maxRecDepth 20000 in
theorem gL_law_X8_set : GoodIn wsL_law (wsV RL 18 RX8 yX8_set wsX8_set) := goodIn_app (goodIn_of _ (by decide +kernel)) ggL_law_X8_set
set_option maxRecDepth 20000 in
theorem ggL_law_X9_set : GoodIn wsL_law wsX9_set := goodIn_r _ [180, 145, 147, 148, 105, 106, 107, 149, 150, 5, 151, 152, 153, 154, 155, 156, 157, 158, 159, 160, 963, 964, 965, 966, 967, 968, 969, 970, 971, 972, 973, 974, 975, 976, 977, 978, 979, 980, 981, 982, 983, 984, 985, 986, 987, 988, 989] (by decide +kernel) (by decide +kernel)
set_option maxRecDepth 20000 in
theorem gL_law_X9_set : GoodIn wsL_law (wsV RL 21 RX9 yX9_set wsX9_set) := goodIn_app (goodIn_of _ (by decide +kernel)) ggL_law_X9_set
set_option maxRecDepth 20000 in
theorem ggL_law_X8_copy : GoodIn wsL_law wsX8_copy := goodIn_r _ [184, 123, 16, 185, 186, 187, 188, 189, 190, 124, 125, 2, 126, 165, 166, 167, 15, 168, 53, 127, 128, 129, 130, 131, 132, 169, 170, 171, 172, 54, 137, 138, 139, 140, 952, 953, 954, 955, 956, 957, 958, 959, 960, 961, 962, 990, 991, 992] (by decide +kernel) (by decide +kernel)
set_option maxRecDepth 20000 in
theorem gL_law_X8_copy : GoodIn wsL_law (wsV RL 22 RX8 yX8_copy wsX8_copy) := goodIn_app (goodIn_of _ (by decide +kernel)) ggL_law_X8_copy
set_option maxRecDepth 20000 in
theorem ggL_law_X9_copy : GoodIn wsL_law wsX9_copy := goodIn_r _ [194, 145, 147, 148, 105, 106, 107, 149, 150, 5, 151, 152, 153, 154, 155, 156, 157, 158, 159, 160, 963, 964, 965, 966, 967, 968, 969, 970, 971, 972, 973, 974, 975, 976, 977, 978, 979, 980, 981, 982, 983, 984, 985, 986, 987, 988, 989] (by decide +kernel) (by decide +kernel)
set_option maxRecDepth 20000 in
theorem gL_law_X9_copy : GoodIn wsL_law (wsV RL 26 RX9 yX9_copy wsX9_copy) := goodIn_app (goodIn_of _ (by decide +kernel)) ggL_law_X9_copy
set_option maxRecDepth 20000 in
theorem ggL_law_X8_drop : GoodIn wsL_law wsX8_drop := goodIn_r _ [198, 123, 16, 124, 125, 2, 126, 165, 166, 167, 15, 168, 53, 127, 128, 129, 130, 131, 132, 199, 200, 201, 202, 54, 137, 138, 139, 140, 952, 953, 954, 955, 956, 957, 958, 959, 960, 961, 962, 990, 991, 992] (by decide +kernel) (by decide +kernel)
set_option maxRecDepth 20000 in
theorem gL_law_X8_drop : GoodIn wsL_law (wsV RL 27 RX8 yX8_drop wsX8_drop) := goodIn_app (goodIn_of _ (by decide +kernel)) ggL_law_X8_drop
set_option maxRecDepth 20000 in
theorem ggL_law_X9_drop : GoodIn wsL_law wsX9_drop := goodIn_r _ [206, 145, 147, 148, 105, 106, 149, 150, 5, 151, 152, 153, 154, 155, 156, 157, 158, 159, 160, 963, 964, 965, 966, 967, 968, 969, 970, 971, 972, 973, 974, 975, 976, 977, 978, 979, 980, 981, 982, 983, 984, 985, 986, 987, 988, 989] (by decide +kernel) (by decide +kernel)
set_option maxRecDepth 20000 in
theorem gL_law_X9_drop : GoodIn wsL_law (wsV RL 31 RX9 yX9_drop wsX9_drop) := goodIn_app (goodIn_of _ (by decide +kernel)) ggL_law_X9_drop
set_option maxRecDepth 20000 in
theorem ggL_law_X8_feed : GoodIn wsL_law wsX8_feed := goodIn_r _ [210, 123, 20, 211, 212, 213, 214, 215, 19, 216, 217, 63, 952, 953, 954, 955, 956, 957, 958, 959, 960, 961, 962, 993, 994, 995, 996, 997, 998, 999] (by decide +kernel) (by decide +kernel)
set_option maxRecDepth 20000 in
theorem gL_law_X8_feed : GoodIn wsL_law (wsV RL 34 RX8 yX8_feed wsX8_feed) := goodIn_app (goodIn_of _ (by decide +kernel)) ggL_law_X8_feed
set_option maxRecDepth 20000 in
theorem ggL_law_X9_feed : GoodIn wsL_law wsX9_feed := goodIn_r _ [221, 145, 222, 147, 223, 224, 112, 225, 153, 154, 5, 155, 963, 964, 965, 966, 967, 968, 969, 970, 971, 972, 973, 974, 975, 976, 977, 978, 979, 980, 981, 982, 983, 984, 985, 986, 987, 988, 989] (by decide +kernel) (by decide +kernel)
set_option maxRecDepth 20000 in
theorem gL_law_X9_feed : GoodIn wsL_law (wsV RL 38 RX9 yX9_feed wsX9_feed) := goodIn_app (goodIn_of _ (by decide +kernel)) ggL_law_X9_feed
set_option maxRecDepth 20000 in
theorem ggL_law_X8_bay : GoodIn wsL_law wsX8_bay := goodIn_r _ [229, 20, 24, 230, 231, 232, 28, 33, 233, 234, 235, 236, 237, 19, 238, 239, 240, 241, 242, 217, 243, 244, 245, 246, 247, 63, 248, 249, 250, 251, 252, 253, 254, 255, 256, 257, 258, 259, 260, 261, 262, 263, 264, 265, 266, 267, 268, 269, 270, 271, 272, 273, 274, 275, 276, 277, 278, 279, 280, 281, 282, 283, 284, 285, 286, 287, 288, 289, 290, 291, 292, 293, 294, 295, 296, 297, 298, 299, 300, 301, 302, 303, 304, 305, 306, 307, 308, 309, 310, 311, 312, 313, 314, 315, 316, 317, 318, 319, 320, 321, 322, 323, 324, 325, 326, 327, 328, 329, 330, 331, 332, 333, 334, 335, 336, 337, 338, 339, 340, 341, 342, 343, 344, 345, 346, 347, 348, 349, 350, 351, 352, 353, 354, 23, 355, 356, 68, 69, 70, 357, 358, 359, 27, 360, 75, 77, 361, 362, 363, 364, 365, 67, 366, 188, 189, 190, 367, 368, 369, 36, 370, 371, 81, 82, 83, 372, 373, 374, 375, 56, 57, 58, 376, 377, 378, 32, 379, 380, 952, 953, 954, 955, 956, 957, 958, 959, 960, 961, 962, 993, 994, 995, 996, 997, 998, 999, 1005, 1006, 1007, 1000, 1001, 1002, 1003, 1004, 1011, 1012, 1013, 1014, 1008, 1009, 1010] (by decide +kernel) (by decide +kernel)
set_option maxRecDepth 20000 in
theorem gL_law_X8_bay : GoodIn wsL_law (wsV RL 39 RX8 yX8_bay wsX8_bay) := goodIn_app (goodIn_of _ (by decide +kernel)) ggL_law_X8_bay
set_option maxRecDepth 20000 in
theorem ggL_law_X9_bay : GoodIn wsL_law wsX9_bay := goodIn_r _ [384, 145, 109, 385, 386, 387, 388, 389, 390, 391, 108, 392, 393, 394, 5, 395, 223, 396, 397, 398, 399, 400, 401, 402, 403, 404, 405, 406, 407, 408, 112, 409, 410, 411, 412, 413, 414, 415, 416, 417, 418, 419, 420, 421, 422, 423, 424, 425, 426, 427, 428, 429, 430, 431, 432, 433, 434, 435, 436, 437, 438, 439, 153, 154, 155, 440, 441, 442, 443, 444, 445, 446, 447, 448, 449, 450, 451, 452, 453, 454, 455, 963, 964, 965, 966, 967, 968, 969, 970, 971, 972, 973, 974, 975, 976, 977, 978, 979, 980, 981, 982, 983, 984, 985, 986, 987, 988, 989] (by decide +kernel) (by decide +kernel)
set_option maxRecDepth 20000 in
theorem gL_law_X9_bay : GoodIn wsL_law (wsV RL 43 RX9 yX9_bay wsX9_bay) := goodIn_app (goodIn_of _ (by decide +kernel)) ggL_law_X9_bay
set_option maxRecDepth 20000 in
theorem ggL_law_X8_fault : GoodIn wsL_law wsX8_fault := goodIn_r _ [459, 230, 952, 953, 954, 955, 956, 957, 958, 959, 960, 961, 962] (by decide +kernel) (by decide +kernel)
set_option maxRecDepth 20000 in
theorem gL_law_X8_fault : GoodIn wsL_law (wsV RL 44 RX8 yX8_fault wsX8_fault) := goodIn_app (goodIn_of _ (by decide +kernel)) ggL_law_X8_fault
set_option maxRecDepth 20000 in
theorem ggL_law_X9_fault : GoodIn wsL_law wsX9_fault := goodIn_r _ [463, 145, 388, 963, 964, 965, 966, 967, 968, 969, 970, 971, 972, 973, 974, 975, 976, 977, 978, 979, 980, 981, 982, 983, 984, 985, 986, 987, 988, 989] (by decide +kernel) (by decide +kernel)
set_option maxRecDepth 20000 in
theorem gL_law_X9_fault : GoodIn wsL_law (wsV RL 47 RX9 yX9_fault wsX9_fault) := goodIn_app (goodIn_of _ (by decide +kernel)) ggL_law_X9_fault
set_option maxRecDepth 20000 in
theorem ggL_law_X8_hours : GoodIn wsL_law wsX8_hours := goodIn_r _ [467, 28, 468, 469, 123, 470, 471, 212, 33, 233, 472, 473, 474, 32, 475, 89, 476, 380, 477, 478, 479, 480, 481, 482, 483, 36, 484, 81, 374, 188, 189, 190, 82, 83, 371, 485, 486, 487, 488, 373, 489, 490, 491, 23, 492, 493, 494, 495, 496, 67, 497, 498, 499, 500, 501, 502, 503, 504, 68, 70, 505, 506, 507, 508, 509, 510, 511, 512, 513, 514, 952, 953, 954, 955, 956, 957, 958, 959, 960, 961, 962, 1005, 1006, 1007, 1011, 1012, 1013, 1014, 1008, 1009, 1010, 1000, 1001, 1002, 1003, 1004] (by decide +kernel) (by decide +kernel)
set_option maxRecDepth 20000 in
theorem gL_law_X8_hours : GoodIn wsL_law (wsV RL 48 RX8 yX8_hours wsX8_hours) := goodIn_app (goodIn_of _ (by decide +kernel)) ggL_law_X8_hours
set_option maxRecDepth 20000 in
theorem ggL_law_X9_hours : GoodIn wsL_law wsX9_hours := goodIn_r _ [518, 145, 519, 520, 147, 108, 224, 110, 521, 522, 523, 5, 524, 153, 154, 155, 525, 526, 527, 528, 391, 111, 529, 530, 531, 532, 533, 534, 535, 536, 537, 538, 539, 540, 541, 542, 543, 544, 545, 546, 547, 548, 549, 550, 551, 552, 963, 964, 965, 966, 967, 968, 969, 970, 971, 972, 973, 974, 975, 976, 977, 978, 979, 980, 981, 982, 983, 984, 985, 986, 987, 988, 989] (by decide +kernel) (by decide +kernel)
set_option maxRecDepth 20000 in
theorem gL_law_X9_hours : GoodIn wsL_law (wsV RL 51 RX9 yX9_hours wsX9_hours) := goodIn_app (goodIn_of _ (by decide +kernel)) ggL_law_X9_hours
set_option maxRecDepth 20000 in
theorem ggL_law_X8_lend : GoodIn wsL_law wsX8_lend := goodIn_r _ [556, 123, 28, 470, 557, 469, 212, 33, 558, 559, 560, 2, 561, 562, 563, 564, 565, 233, 234, 566, 567, 568, 36, 569, 83, 472, 473, 474, 32, 475, 89, 476, 380, 477, 478, 479, 480, 481, 482, 483, 484, 81, 374, 188, 189, 190, 82, 371, 570, 571, 572, 573, 574, 575, 576, 577, 578, 952, 953, 954, 955, 956, 957, 958, 959, 960, 961, 962, 1005, 1006, 1007, 1011, 1012, 1013, 1014, 1000, 1001, 1002, 1003, 1004, 1008, 1009, 1010] (by decide +kernel) (by decide +kernel)
set_option maxRecDepth 20000 in
theorem gL_law_X8_lend : GoodIn wsL_law (wsV RL 52 RX8 yX8_lend wsX8_lend) := goodIn_app (goodIn_of _ (by decide +kernel)) ggL_law_X8_lend
set_option maxRecDepth 20000 in
theorem ggL_law_X9_lend : GoodIn wsL_law wsX9_lend := goodIn_r _ [582, 145, 583, 147, 108, 519, 224, 584, 585, 586, 5, 587, 588, 589, 590, 591, 153, 154, 155, 546, 547, 548, 592, 593, 594, 525, 526, 527, 528, 391, 111, 963, 964, 965, 966, 967, 968, 969, 970, 971, 972, 973, 974, 975, 976, 977, 978, 979, 980, 981, 982, 983, 984, 985, 986, 987, 988, 989] (by decide +kernel) (by decide +kernel)
set_option maxRecDepth 20000 in
theorem gL_law_X9_lend : GoodIn wsL_law (wsV RL 55 RX9 yX9_lend wsX9_lend) := goodIn_app (goodIn_of _ (by decide +kernel)) ggL_law_X9_lend
set_option maxRecDepth 20000 in
theorem ggL_law_X8_pay : GoodIn wsL_law wsX8_pay := goodIn_r _ [598, 123, 28, 470, 557, 469, 33, 558, 559, 560, 2, 561, 562, 563, 564, 565, 233, 234, 566, 567, 568, 36, 569, 83, 472, 473, 474, 32, 475, 89, 476, 380, 477, 478, 479, 480, 481, 482, 483, 484, 81, 374, 188, 189, 190, 82, 371, 570, 571, 572, 573, 574, 575, 576, 577, 578, 952, 953, 954, 955, 956, 957, 958, 959, 960, 961, 962, 1005, 1006, 1007, 1011, 1012, 1013, 1014, 1000, 1001, 1002, 1003, 1004, 1008, 1009, 1010] (by decide +kernel) (by decide +kernel)
set_option maxRecDepth 20000 in
theorem gL_law_X8_pay : GoodIn wsL_law (wsV RL 56 RX8 yX8_pay wsX8_pay) := goodIn_app (goodIn_of _ (by decide +kernel)) ggL_law_X8_pay
set_option maxRecDepth 20000 in
theorem ggL_law_X9_pay : GoodIn wsL_law wsX9_pay := goodIn_r _ [602, 145, 603, 147, 108, 519, 584, 585, 586, 5, 587, 588, 589, 590, 591, 153, 154, 155, 592, 593, 594, 546, 547, 548, 525, 526, 527, 528, 391, 111, 963, 964, 965, 966, 967, 968, 969, 970, 971, 972, 973, 974, 975, 976, 977, 978, 979, 980, 981, 982, 983, 984, 985, 986, 987, 988, 989] (by decide +kernel) (by decide +kernel)
set_option maxRecDepth 20000 in
theorem gL_law_X9_pay : GoodIn wsL_law (wsV RL 59 RX9 yX9_pay wsX9_pay) := goodIn_app (goodIn_of _ (by decide +kernel)) ggL_law_X9_pay
set_option maxRecDepth 20000 in
theorem ggL_law_X8_storm : GoodIn wsL_law wsX8_storm := goodIn_r _ [607, 28, 468, 469, 608, 123, 33, 470, 233, 234, 472, 473, 474, 32, 475, 89, 476, 380, 477, 478, 479, 480, 481, 482, 483, 36, 484, 81, 374, 188, 189, 190, 82, 83, 371, 609, 610, 611, 612, 613, 614, 615, 952, 953, 954, 955, 956, 957, 958, 959, 960, 961, 962, 1005, 1006, 1007, 1000, 1001, 1002, 1003, 1004, 1008, 1009, 1010, 1011, 1012, 1013, 1014] (by decide +kernel) (by decide +kernel)
set_option maxRecDepth 20000 in
theorem gL_law_X8_storm : GoodIn wsL_law (wsV RL 60 RX8 yX8_storm wsX8_storm) := goodIn_app (goodIn_of _ (by decide +kernel)) ggL_law_X8_storm
set_option maxRecDepth 20000 in
theorem ggL_law_X9_storm : GoodIn wsL_law wsX9_storm := goodIn_r _ [619, 145, 519, 620, 147, 108, 621, 622, 623, 521, 522, 523, 5, 524, 153, 154, 155, 525, 526, 527, 528, 391, 111, 546, 547, 548, 963, 964, 965, 966, 967, 968, 969, 970, 971, 972, 973, 974, 975, 976, 977, 978, 979, 980, 981, 982, 983, 984, 985, 986, 987, 988, 989] (by decide +kernel) (by decide +kernel)
set_option maxRecDepth 20000 in
theorem gL_law_X9_storm : GoodIn wsL_law (wsV RL 63 RX9 yX9_storm wsX9_storm) := goodIn_app (goodIn_of _ (by decide +kernel)) ggL_law_X9_storm
set_option maxRecDepth 20000 in
theorem ggL_law_X8_settle : GoodIn wsL_law wsX8_settle := goodIn_r _ [627, 28, 468, 41, 470, 233, 234, 469, 33, 628, 629, 630, 40, 631, 632, 633, 634, 635, 36, 636, 637, 638, 639, 640, 578, 567, 568, 569, 83, 641, 642, 643, 644, 93, 645, 646, 56, 57, 58, 647, 648, 649, 650, 651, 652, 653, 654, 655, 656, 657, 658, 659, 660, 478, 479, 480, 94, 95, 96, 472, 473, 474, 32, 475, 89, 476, 380, 477, 481, 482, 483, 484, 81, 374, 188, 189, 190, 82, 371, 661, 662, 663, 664, 665, 666, 571, 572, 573, 952, 953, 954, 955, 956, 957, 958, 959, 960, 961, 962, 1005, 1006, 1007, 1000, 1001, 1002, 1003, 1004, 1011, 1012, 1013, 1014, 1015, 1016, 1017, 1018, 1019, 1008, 1009, 1010] (by decide +kernel) (by decide +kernel)
set_option maxRecDepth 20000 in
theorem gL_law_X8_settle : GoodIn wsL_law (wsV RL 64 RX8 yX8_settle wsX8_settle) := goodIn_app (goodIn_of _ (by decide +kernel)) ggL_law_X8_settle
set_option maxRecDepth 20000 in
theorem ggL_law_X9_settle : GoodIn wsL_law wsX9_settle := goodIn_r _ [670, 145, 519, 671, 108, 114, 521, 522, 523, 5, 524, 672, 673, 674, 675, 546, 547, 548, 676, 677, 678, 679, 592, 593, 594, 525, 526, 527, 528, 391, 111, 680, 681, 682, 683, 113, 403, 684, 685, 686, 687, 963, 964, 965, 966, 967, 968, 969, 970, 971, 972, 973, 974, 975, 976, 977, 978, 979, 980, 981, 982, 983, 984, 985, 986, 987, 988, 989] (by decide +kernel) (by decide +kernel)
set_option maxRecDepth 20000 in
theorem gL_law_X9_settle : GoodIn wsL_law (wsV RL 67 RX9 yX9_settle wsX9_settle) := goodIn_app (goodIn_of _ (by decide +kernel)) ggL_law_X9_settle
set_option maxRecDepth 20000 in
theorem ggL_law_X8_undo : GoodIn wsL_law wsX8_undo := goodIn_r _ [691, 33, 692, 469, 28, 470, 693, 694, 695, 32, 696, 476, 380, 89, 481, 482, 483, 36, 484, 81, 374, 188, 189, 190, 82, 83, 371, 952, 953, 954, 955, 956, 957, 958, 959, 960, 961, 962, 1008, 1009, 1010, 1005, 1006, 1007, 1011, 1012, 1013, 1014] (by decide +kernel) (by decide +kernel)
set_option maxRecDepth 20000 in
theorem gL_law_X8_undo : GoodIn wsL_law (wsV RL 68 RX8 yX8_undo wsX8_undo) := goodIn_app (goodIn_of _ (by decide +kernel)) ggL_law_X8_undo
set_option maxRecDepth 20000 in
theorem ggL_law_X9_undo : GoodIn wsL_law wsX9_undo := goodIn_r _ [700, 145, 391, 519, 108, 111, 963, 964, 965, 966, 967, 968, 969, 970, 971, 972, 973, 974, 975, 976, 977, 978, 979, 980, 981, 982, 983, 984, 985, 986, 987, 988, 989] (by decide +kernel) (by decide +kernel)
set_option maxRecDepth 20000 in
theorem gL_law_X9_undo : GoodIn wsL_law (wsV RL 71 RX9 yX9_undo wsX9_undo) := goodIn_app (goodIn_of _ (by decide +kernel)) ggL_law_X9_undo
set_option maxRecDepth 20000 in
theorem ggL_law_X8_water : GoodIn wsL_law wsX8_water := goodIn_r _ [704, 123, 28, 470, 557, 705, 233, 706, 562, 563, 564, 2, 565, 234, 707, 634, 635, 36, 636, 637, 638, 639, 640, 578, 567, 568, 569, 83, 952, 953, 954, 955, 956, 957, 958, 959, 960, 961, 962, 1005, 1006, 1007, 1011, 1012, 1013, 1014, 1000, 1001, 1002, 1003, 1004] (by decide +kernel) (by decide +kernel)
set_option maxRecDepth 20000 in
theorem gL_law_X8_water : GoodIn wsL_law (wsV RL 72 RX8 yX8_water wsX8_water) := goodIn_app (goodIn_of _ (by decide +kernel)) ggL_law_X8_water
set_option maxRecDepth 20000 in
theorem ggL_law_X9_water : GoodIn wsL_law wsX9_water := goodIn_r _ [711, 145, 712, 147, 108, 588, 589, 590, 5, 591, 153, 154, 155, 676, 677, 678, 679, 592, 593, 594, 546, 547, 548, 963, 964, 965, 966, 967, 968, 969, 970, 971, 972, 973, 974, 975, 976, 977, 978, 979, 980, 981, 982, 983, 984, 985, 986, 987, 988, 989] (by decide +kernel) (by decide +kernel)
set_option maxRecDepth 20000 in
theorem gL_law_X9_water : GoodIn wsL_law (wsV RL 76 RX9 yX9_water wsX9_water) := goodIn_app (goodIn_of _ (by decide +kernel)) ggL_law_X9_water
set_option maxRecDepth 20000 in
theorem ggL_law_X8_owes : GoodIn wsL_law wsX8_owes := goodIn_r _ [716, 28, 470, 123, 558, 559, 560, 2, 561, 562, 563, 564, 565, 233, 234, 566, 567, 568, 36, 569, 83, 952, 953, 954, 955, 956, 957, 958, 959, 960, 961, 962, 1005, 1006, 1007, 1000, 1001, 1002, 1003, 1004, 1011, 1012, 1013, 1014] (by decide +kernel) (by decide +kernel)
set_option maxRecDepth 20000 in
theorem gL_law_X8_owes : GoodIn wsL_law (wsV RL 77 RX8 yX8_owes wsX8_owes) := goodIn_app (goodIn_of _ (by decide +kernel)) ggL_law_X8_owes
set_option maxRecDepth 20000 in
theorem ggL_law_X9_owes : GoodIn wsL_law wsX9_owes := goodIn_r _ [720, 145, 108, 147, 584, 585, 586, 5, 587, 588, 589, 590, 591, 153, 154, 155, 592, 593, 594, 963, 964, 965, 966, 967, 968, 969, 970, 971, 972, 973, 974, 975, 976, 977, 978, 979, 980, 981, 982, 983, 984, 985, 986, 987, 988, 989] (by decide +kernel) (by decide +kernel)
set_option maxRecDepth 20000 in
theorem gL_law_X9_owes : GoodIn wsL_law (wsV RL 80 RX9 yX9_owes wsX9_owes) := goodIn_app (goodIn_of _ (by decide +kernel)) ggL_law_X9_owes
set_option maxRecDepth 20000 in
theorem ggL_law_X8_ahead : GoodIn wsL_law wsX8_ahead := goodIn_r _ [724, 123, 37, 28, 470, 233, 705, 557, 562, 563, 564, 2, 565, 234, 725, 482, 483, 36, 484, 81, 374, 188, 189, 190, 82, 83, 371, 726, 727, 728, 729, 730, 486, 487, 488, 373, 489, 490, 491, 23, 492, 493, 494, 495, 496, 67, 497, 498, 499, 500, 501, 502, 503, 504, 68, 70, 505, 506, 507, 508, 509, 510, 478, 479, 480, 511, 512, 513, 514, 731, 638, 639, 640, 578, 567, 568, 569, 952, 953, 954, 955, 956, 957, 958, 959, 960, 961, 962, 1005, 1006, 1007, 1011, 1012, 1013, 1014, 1000, 1001, 1002, 1003, 1004] (by decide +kernel) (by decide +kernel)
set_option maxRecDepth 20000 in
theorem gL_law_X8_ahead : GoodIn wsL_law (wsV RL 81 RX8 yX8_ahead wsX8_ahead) := goodIn_app (goodIn_of _ (by decide +kernel)) ggL_law_X8_ahead
set_option maxRecDepth 20000 in
theorem ggL_law_X9_ahead : GoodIn wsL_law wsX9_ahead := goodIn_r _ [735, 145, 736, 146, 147, 108, 110, 588, 589, 590, 5, 591, 153, 154, 155, 529, 530, 531, 532, 533, 534, 535, 536, 537, 538, 539, 540, 541, 542, 543, 544, 545, 546, 547, 548, 549, 550, 551, 552, 592, 593, 594, 963, 964, 965, 966, 967, 968, 969, 970, 971, 972, 973, 974, 975, 976, 977, 978, 979, 980, 981, 982, 983, 984, 985, 986, 987, 988, 989] (by decide +kernel) (by decide +kernel)
set_option maxRecDepth 20000 in
theorem gL_law_X9_ahead : GoodIn wsL_law (wsV RL 84 RX9 yX9_ahead wsX9_ahead) := goodIn_app (goodIn_of _ (by decide +kernel)) ggL_law_X9_ahead
set_option maxRecDepth 20000 in
theorem ggL_law_X8_sail : GoodIn wsL_law wsX8_sail := goodIn_r _ [740, 123, 741, 562, 563, 564, 2, 565, 28, 233, 234, 742, 743, 744, 745, 37, 470, 557, 725, 482, 483, 36, 484, 81, 374, 188, 189, 190, 82, 83, 371, 726, 727, 728, 729, 730, 486, 487, 488, 373, 489, 490, 491, 23, 492, 493, 494, 495, 496, 67, 497, 498, 499, 500, 501, 502, 503, 504, 68, 70, 505, 506, 507, 508, 509, 510, 478, 479, 480, 511, 512, 513, 514, 485, 952, 953, 954, 955, 956, 957, 958, 959, 960, 961, 962, 1005, 1006, 1007, 1000, 1001, 1002, 1003, 1004, 1011, 1012, 1013, 1014] (by decide +kernel) (by decide +kernel)
set_option maxRecDepth 20000 in
theorem gL_law_X8_sail : GoodIn wsL_law (wsV RL 85 RX8 yX8_sail wsX8_sail) := goodIn_app (goodIn_of _ (by decide +kernel)) ggL_law_X8_sail
set_option maxRecDepth 20000 in
theorem ggL_law_X9_sail : GoodIn wsL_law wsX9_sail := goodIn_r _ [749, 145, 583, 520, 147, 403, 588, 589, 590, 5, 591, 108, 153, 154, 155, 750, 751, 752, 753, 110, 529, 530, 531, 532, 546, 547, 548, 533, 534, 535, 536, 537, 538, 539, 540, 541, 542, 543, 544, 545, 549, 550, 551, 552, 963, 964, 965, 966, 967, 968, 969, 970, 971, 972, 973, 974, 975, 976, 977, 978, 979, 980, 981, 982, 983, 984, 985, 986, 987, 988, 989] (by decide +kernel) (by decide +kernel)
set_option maxRecDepth 20000 in
theorem gL_law_X9_sail : GoodIn wsL_law (wsV RL 89 RX9 yX9_sail wsX9_sail) := goodIn_app (goodIn_of _ (by decide +kernel)) ggL_law_X9_sail
set_option maxRecDepth 20000 in
theorem ggL_law_X8_net : GoodIn wsL_law wsX8_net := goodIn_r _ [757, 28, 468, 469, 123, 41, 470, 233, 234, 758, 628, 629, 630, 40, 631, 632, 633, 634, 635, 36, 636, 637, 638, 639, 640, 578, 567, 568, 569, 83, 641, 642, 643, 644, 93, 645, 646, 56, 57, 58, 647, 648, 649, 650, 651, 652, 653, 654, 655, 656, 657, 658, 659, 660, 478, 479, 480, 94, 95, 96, 759, 760, 761, 762, 952, 953, 954, 955, 956, 957, 958, 959, 960, 961, 962, 1005, 1006, 1007, 1000, 1001, 1002, 1003, 1004, 1015, 1016, 1017, 1018, 1019, 1011, 1012, 1013, 1014] (by decide +kernel) (by decide +kernel)
set_option maxRecDepth 20000 in
theorem gL_law_X8_net : GoodIn wsL_law (wsV RL 90 RX8 yX8_net wsX8_net) := goodIn_app (goodIn_of _ (by decide +kernel)) ggL_law_X8_net
set_option maxRecDepth 20000 in
theorem ggL_law_X9_net : GoodIn wsL_law wsX9_net := goodIn_r _ [766, 145, 519, 146, 147, 671, 114, 403, 521, 522, 523, 5, 524, 108, 153, 154, 155, 672, 673, 674, 675, 546, 547, 548, 676, 677, 678, 679, 592, 593, 594, 680, 681, 682, 683, 113, 684, 685, 686, 687, 963, 964, 965, 966, 967, 968, 969, 970, 971, 972, 973, 974, 975, 976, 977, 978, 979, 980, 981, 982, 983, 984, 985, 986, 987, 988, 989] (by decide +kernel) (by decide +kernel)
set_option maxRecDepth 20000 in
theorem gL_law_X9_net : GoodIn wsL_law (wsV RL 93 RX9 yX9_net wsX9_net) := goodIn_app (goodIn_of _ (by decide +kernel)) ggL_law_X9_net
set_option maxRecDepth 20000 in
theorem ggL_law_X8_least : GoodIn wsL_law wsX8_least := goodIn_r _ [770, 123, 28, 470, 557, 741, 558, 559, 560, 2, 561, 562, 563, 564, 565, 233, 234, 771, 772, 773, 774, 37, 725, 482, 483, 36, 484, 81, 374, 188, 189, 190, 82, 83, 371, 726, 727, 728, 729, 730, 486, 487, 488, 373, 489, 490, 491, 23, 492, 493, 494, 495, 496, 67, 497, 498, 499, 500, 501, 502, 503, 504, 68, 70, 505, 506, 507, 508, 509, 510, 478, 479, 480, 511, 512, 513, 514, 952, 953, 954, 955, 956, 957, 958, 959, 960, 961, 962, 1005, 1006, 1007, 1011, 1012, 1013, 1014, 1000, 1001, 1002, 1003, 1004] (by decide +kernel) (by decide +kernel)
set_option maxRecDepth 20000 in
theorem gL_law_X8_least : GoodIn wsL_law (wsV RL 94 RX8 yX8_least wsX8_least) := goodIn_app (goodIn_of _ (by decide +kernel)) ggL_law_X8_least
set_option maxRecDepth 20000 in
theorem ggL_law_X9_least : GoodIn wsL_law wsX9_least := goodIn_r _ [778, 145, 583, 520, 147, 108, 110, 403, 584, 585, 586, 5, 587, 588, 589, 590, 591, 153, 154, 155, 546, 547, 548, 529, 530, 531, 532, 542, 543, 544, 545, 538, 539, 540, 541, 549, 550, 551, 552, 963, 964, 965, 966, 967, 968, 969, 970, 971, 972, 973, 974, 975, 976, 977, 978, 979, 980, 981, 982, 983, 984, 985, 986, 987, 988, 989] (by decide +kernel) (by decide +kernel)
set_option maxRecDepth 20000 in
theorem gL_law_X9_least : GoodIn wsL_law (wsV RL 97 RX9 yX9_least wsX9_least) := goodIn_app (goodIn_of _ (by decide +kernel)) ggL_law_X9_least
set_option maxRecDepth 20000 in
theorem ggL_law_X8_run : GoodIn wsL_law wsX8_run := goodIn_r _ [782, 28, 468, 469, 37, 470, 233, 234, 725, 482, 483, 36, 484, 81, 374, 188, 189, 190, 82, 83, 371, 783, 784, 785, 786, 787, 788, 789, 790, 510, 478, 479, 480, 578, 567, 568, 569, 791, 571, 572, 573, 952, 953, 954, 955, 956, 957, 958, 959, 960, 961, 962, 1005, 1006, 1007, 1000, 1001, 1002, 1003, 1004, 1011, 1012, 1013, 1014] (by decide +kernel) (by decide +kernel)
set_option maxRecDepth 20000 in
theorem gL_law_X8_run : GoodIn wsL_law (wsV RL 98 RX8 yX8_run wsX8_run) := goodIn_app (goodIn_of _ (by decide +kernel)) ggL_law_X8_run
set_option maxRecDepth 20000 in
theorem ggL_law_X9_run : GoodIn wsL_law wsX9_run := goodIn_r _ [795, 145, 519, 108, 110, 521, 522, 523, 5, 524, 529, 530, 531, 532, 592, 593, 594, 546, 547, 548, 963, 964, 965, 966, 967, 968, 969, 970, 971, 972, 973, 974, 975, 976, 977, 978, 979, 980, 981, 982, 983, 984, 985, 986, 987, 988, 989] (by decide +kernel) (by decide +kernel)
set_option maxRecDepth 20000 in
theorem gL_law_X9_run : GoodIn wsL_law (wsV RL 101 RX9 yX9_run wsX9_run) := goodIn_app (goodIn_of _ (by decide +kernel)) ggL_law_X9_run
set_option maxRecDepth 20000 in
theorem ggL_law_X8_frauds : GoodIn wsL_law wsX8_frauds := goodIn_r _ [799, 28, 468, 469, 123, 16, 233, 234, 186, 124, 125, 2, 126, 165, 166, 167, 15, 168, 53, 127, 128, 129, 130, 131, 132, 169, 170, 171, 172, 54, 800, 801, 802, 803, 52, 804, 805, 806, 807, 37, 470, 557, 725, 482, 483, 36, 484, 81, 374, 188, 189, 190, 82, 83, 371, 485, 486, 487, 488, 373, 489, 490, 491, 23, 492, 493, 494, 495, 496, 67, 497, 498, 499, 500, 501, 502, 503, 504, 68, 70, 505, 506, 507, 508, 509, 510, 478, 479, 480, 511, 512, 513, 514, 137, 138, 139, 140, 952, 953, 954, 955, 956, 957, 958, 959, 960, 961, 962, 1005, 1006, 1007, 1000, 1001, 1002, 1003, 1004, 990, 991, 992, 1011, 1012, 1013, 1014] (by decide +kernel) (by decide +kernel)
set_option maxRecDepth 20000 in
theorem gL_law_X8_frauds : GoodIn wsL_law (wsV RL 102 RX8 yX8_frauds wsX8_frauds) := goodIn_app (goodIn_of _ (by decide +kernel)) ggL_law_X8_frauds
set_option maxRecDepth 20000 in
theorem ggL_law_X9_frauds : GoodIn wsL_law wsX9_frauds := goodIn_r _ [811, 145, 519, 147, 105, 108, 106, 107, 148, 110, 521, 522, 523, 5, 524, 149, 150, 151, 152, 153, 154, 155, 156, 157, 158, 159, 160, 529, 530, 531, 532, 533, 534, 535, 536, 537, 538, 539, 540, 541, 542, 543, 544, 545, 546, 547, 548, 549, 550, 551, 552, 963, 964, 965, 966, 967, 968, 969, 970, 971, 972, 973, 974, 975, 976, 977, 978, 979, 980, 981, 982, 983, 984, 985, 986, 987, 988, 989] (by decide +kernel) (by decide +kernel)
set_option maxRecDepth 20000 in
theorem gL_law_X9_frauds : GoodIn wsL_law (wsV RL 105 RX9 yX9_frauds wsX9_frauds) := goodIn_app (goodIn_of _ (by decide +kernel)) ggL_law_X9_frauds
set_option maxRecDepth 20000 in
theorem ggL_law_X8_image : GoodIn wsL_law wsX8_image := goodIn_r _ [815, 123, 28, 468, 469, 29, 816, 817, 818, 27, 819, 75, 77, 361, 362, 363, 364, 23, 365, 67, 366, 188, 189, 190, 68, 69, 70, 356, 820, 482, 483, 36, 484, 81, 374, 82, 83, 371, 952, 953, 954, 955, 956, 957, 958, 959, 960, 961, 962, 1005, 1006, 1007, 1000, 1001, 1002, 1003, 1004, 1011, 1012, 1013, 1014] (by decide +kernel) (by decide +kernel)
set_option maxRecDepth 20000 in
theorem gL_law_X8_image : GoodIn wsL_law (wsV RL 106 RX8 yX8_image wsX8_image) := goodIn_app (goodIn_of _ (by decide +kernel)) ggL_law_X8_image
set_option maxRecDepth 20000 in
theorem ggL_law_X9_image : GoodIn wsL_law wsX9_image := goodIn_r _ [824, 145, 147, 519, 117, 108, 116, 153, 154, 5, 155, 521, 522, 523, 524, 963, 964, 965, 966, 967, 968, 969, 970, 971, 972, 973, 974, 975, 976, 977, 978, 979, 980, 981, 982, 983, 984, 985, 986, 987, 988, 989] (by decide +kernel) (by decide +kernel)
set_option maxRecDepth 20000 in
theorem gL_law_X9_image : GoodIn wsL_law (wsV RL 109 RX9 yX9_image wsX9_image) := goodIn_app (goodIn_of _ (by decide +kernel)) ggL_law_X9_image
set_option maxRecDepth 20000 in
theorem ggL_law_X8_restore : GoodIn wsL_law wsX8_restore := goodIn_r _ [828, 123, 29, 468, 469, 28, 33, 816, 817, 818, 27, 819, 75, 77, 361, 362, 363, 364, 23, 365, 67, 366, 188, 189, 190, 68, 69, 70, 356, 820, 482, 483, 36, 484, 81, 374, 82, 83, 371, 376, 377, 378, 32, 379, 380, 952, 953, 954, 955, 956, 957, 958, 959, 960, 961, 962, 1005, 1006, 1007, 1000, 1001, 1002, 1003, 1004, 1011, 1012, 1013, 1014, 1008, 1009, 1010] (by decide +kernel) (by decide +kernel)
set_option maxRecDepth 20000 in
theorem gL_law_X8_restore : GoodIn wsL_law (wsV RL 110 RX8 yX8_restore wsX8_restore) := goodIn_app (goodIn_of _ (by decide +kernel)) ggL_law_X8_restore
set_option maxRecDepth 20000 in
theorem ggL_law_X9_restore : GoodIn wsL_law wsX9_restore := goodIn_r _ [832, 145, 147, 116, 519, 108, 117, 391, 153, 154, 5, 155, 963, 964, 965, 966, 967, 968, 969, 970, 971, 972, 973, 974, 975, 976, 977, 978, 979, 980, 981, 982, 983, 984, 985, 986, 987, 988, 989] (by decide +kernel) (by decide +kernel)
set_option maxRecDepth 20000 in
theorem gL_law_X9_restore : GoodIn wsL_law (wsV RL 113 RX9 yX9_restore wsX9_restore) := goodIn_app (goodIn_of _ (by decide +kernel)) ggL_law_X9_restore
set_option maxRecDepth 20000 in
theorem ggL_law_X8_kind : GoodIn wsL_law wsX8_kind := goodIn_r _ [836, 28, 233, 837, 123, 562, 563, 564, 2, 565, 234, 952, 953, 954, 955, 956, 957, 958, 959, 960, 961, 962, 1005, 1006, 1007, 1000, 1001, 1002, 1003, 1004] (by decide +kernel) (by decide +kernel)
set_option maxRecDepth 20000 in
theorem gL_law_X8_kind : GoodIn wsL_law (wsV RL 114 RX8 yX8_kind wsX8_kind) := goodIn_app (goodIn_of _ (by decide +kernel)) ggL_law_X8_kind
set_option maxRecDepth 20000 in
theorem ggL_law_X9_kind : GoodIn wsL_law wsX9_kind := goodIn_r _ [841, 145, 108, 147, 588, 589, 590, 5, 591, 153, 154, 155, 546, 547, 548, 963, 964, 965, 966, 967, 968, 969, 970, 971, 972, 973, 974, 975, 976, 977, 978, 979, 980, 981, 982, 983, 984, 985, 986, 987, 988, 989] (by decide +kernel) (by decide +kernel)
set_option maxRecDepth 20000 in
theorem gL_law_X9_kind : GoodIn wsL_law (wsV RL 117 RX9 yX9_kind wsX9_kind) := goodIn_app (goodIn_of _ (by decide +kernel)) ggL_law_X9_kind
set_option maxRecDepth 20000 in
theorem ggL_law_X8_as : GoodIn wsL_law wsX8_as := goodIn_r _ [845, 123, 28, 233, 837, 562, 563, 564, 2, 565, 234, 846, 847, 23, 848, 849, 137, 138, 139, 140, 131, 127, 128, 129, 130, 132, 952, 953, 954, 955, 956, 957, 958, 959, 960, 961, 962, 1005, 1006, 1007, 1000, 1001, 1002, 1003, 1004] (by decide +kernel) (by decide +kernel)
set_option maxRecDepth 20000 in
theorem gL_law_X8_as : GoodIn wsL_law (wsV RL 118 RX8 yX8_as wsX8_as) := goodIn_app (goodIn_of _ (by decide +kernel)) ggL_law_X8_as
set_option maxRecDepth 20000 in
theorem ggL_law_X9_as : GoodIn wsL_law wsX9_as := goodIn_r _ [853, 145, 854, 147, 148, 108, 588, 589, 590, 5, 591, 153, 154, 155, 546, 547, 548, 855, 856, 857, 156, 157, 158, 159, 160, 963, 964, 965, 966, 967, 968, 969, 970, 971, 972, 973, 974, 975, 976, 977, 978, 979, 980, 981, 982, 983, 984, 985, 986, 987, 988, 989] (by decide +kernel) (by decide +kernel)
set_option maxRecDepth 20000 in
theorem gL_law_X9_as : GoodIn wsL_law (wsV RL 121 RX9 yX9_as wsX9_as) := goodIn_app (goodIn_of _ (by decide +kernel)) ggL_law_X9_as
set_option maxRecDepth 20000 in
theorem ggL_law_X8_ask : GoodIn wsL_law wsX8_ask := goodIn_r _ [861, 123, 45, 862, 28, 562, 563, 564, 2, 565, 233, 234, 863, 864, 865, 44, 866, 867, 868, 869, 870, 871, 872, 873, 874, 875, 876, 877, 878, 879, 880, 881, 100, 882, 883, 884, 885, 886, 887, 888, 952, 953, 954, 955, 956, 957, 958, 959, 960, 961, 962, 1020, 1021, 1005, 1006, 1007, 1000, 1001, 1002, 1003, 1004, 1011, 1012, 1013, 1014] (by decide +kernel) (by decide +kernel)
set_option maxRecDepth 20000 in
theorem gL_law_X8_ask : GoodIn wsL_law (wsV RL 122 RX8 yX8_ask wsX8_ask) := goodIn_app (goodIn_of _ (by decide +kernel)) ggL_law_X8_ask
set_option maxRecDepth 20000 in
theorem ggL_law_X9_ask : GoodIn wsL_law wsX9_ask := goodIn_r _ [892, 145, 147, 893, 588, 589, 590, 5, 591, 108, 153, 154, 155, 894, 895, 896, 897, 546, 547, 548, 898, 899, 900, 901, 902, 903, 904, 905, 118, 906, 907, 908, 909, 910, 911, 912, 913, 963, 964, 965, 966, 967, 968, 969, 970, 971, 972, 973, 974, 975, 976, 977, 978, 979, 980, 981, 982, 983, 984, 985, 986, 987, 988, 989] (by decide +kernel) (by decide +kernel)
set_option maxRecDepth 20000 in
theorem gL_law_X9_ask : GoodIn wsL_law (wsV RL 125 RX9 yX9_ask wsX9_ask) := goodIn_app (goodIn_of _ (by decide +kernel)) ggL_law_X9_ask
set_option maxRecDepth 20000 in
theorem ggL_law_X8_trace : GoodIn wsL_law wsX8_trace := goodIn_r _ [917, 45, 862, 918, 741, 952, 953, 954, 955, 956, 957, 958, 959, 960, 961, 962, 1020, 1021] (by decide +kernel) (by decide +kernel)
set_option maxRecDepth 20000 in
theorem gL_law_X8_trace : GoodIn wsL_law (wsV RL 126 RX8 yX8_trace wsX8_trace) := goodIn_app (goodIn_of _ (by decide +kernel)) ggL_law_X8_trace
set_option maxRecDepth 20000 in
theorem ggL_law_X9_trace : GoodIn wsL_law wsX9_trace := goodIn_r _ [922, 145, 893, 118, 403, 153, 154, 5, 155, 963, 964, 965, 966, 967, 968, 969, 970, 971, 972, 973, 974, 975, 976, 977, 978, 979, 980, 981, 982, 983, 984, 985, 986, 987, 988, 989] (by decide +kernel) (by decide +kernel)
set_option maxRecDepth 20000 in
theorem gL_law_X9_trace : GoodIn wsL_law (wsV RL 129 RX9 yX9_trace wsX9_trace) := goodIn_app (goodIn_of _ (by decide +kernel)) ggL_law_X9_trace
set_option maxRecDepth 20000 in
theorem ggL_law_X8_count : GoodIn wsL_law wsX8_count := goodIn_r _ [926, 16, 28, 233, 234, 470, 471, 33, 692, 20, 211, 123, 927, 928, 929, 15, 930, 931, 166, 167, 168, 53, 932, 933, 934, 36, 935, 81, 936, 937, 938, 939, 83, 952, 953, 954, 955, 956, 957, 958, 959, 960, 961, 962, 1005, 1006, 1007, 1000, 1001, 1002, 1003, 1004, 1011, 1012, 1013, 1014, 1008, 1009, 1010, 993, 994, 995, 996, 997, 998, 999, 990, 991, 992] (by decide +kernel) (by decide +kernel)
set_option maxRecDepth 20000 in
theorem gL_law_X8_count : GoodIn wsL_law (wsV RL 130 RX8 yX8_count wsX8_count) := goodIn_app (goodIn_of _ (by decide +kernel)) ggL_law_X8_count
set_option maxRecDepth 20000 in
theorem ggL_law_X9_count : GoodIn wsL_law wsX9_count := goodIn_r _ [943, 145, 105, 108, 391, 223, 147, 546, 547, 5, 548, 963, 964, 965, 966, 967, 968, 969, 970, 971, 972, 973, 974, 975, 976, 977, 978, 979, 980, 981, 982, 983, 984, 985, 986, 987, 988, 989] (by decide +kernel) (by decide +kernel)
set_option maxRecDepth 20000 in
theorem gL_law_X9_count : GoodIn wsL_law (wsV RL 133 RX9 yX9_count wsX9_count) := goodIn_app (goodIn_of _ (by decide +kernel)) ggL_law_X9_count
set_option maxRecDepth 20000 in
theorem ggL_law_X8_status : GoodIn wsL_law wsX8_status := goodIn_r _ [947, 131, 952, 953, 954, 955, 956, 957, 958, 959, 960, 961, 962] (by decide +kernel) (by decide +kernel)
set_option maxRecDepth 20000 in
theorem gL_law_X8_status : GoodIn wsL_law (wsV RL 134 RX8 yX8_status wsX8_status) := goodIn_app (goodIn_of _ (by decide +kernel)) ggL_law_X8_status
set_option maxRecDepth 20000 in
theorem ggL_law_X9_status : GoodIn wsL_law wsX9_status := goodIn_r _ [951, 145, 148, 963, 964, 965, 966, 967, 968, 969, 970, 971, 972, 973, 974, 975, 976, 977, 978, 979, 980, 981, 982, 983, 984, 985, 986, 987, 988, 989] (by decide +kernel) (by decide +kernel)
set_option maxRecDepth 20000 in
theorem gL_law_X9_status : GoodIn wsL_law (wsV RL 137 RX9 yX9_status wsX9_status) := goodIn_app (goodIn_of _ (by decide +kernel)) ggL_law_X9_status
