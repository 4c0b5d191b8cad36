set_option maxRecDepth 20000 in
theorem ggL_law_X4_init : GoodIn wsL_law wsX4_init := goodIn_r _ [8, 9, 10, 11, 12, 13, 14, 15, 16, 17, 18, 19, 20, 21, 22, 23, 24, 25, 26, 27, 28, 29, 30, 31, 32, 33, 34, 35, 36, 37, 38, 39, 40, 41, 42, 43, 44, 45, 46, 47, 48, 49, 50, 51, 52, 53, 54, 55, 56, 862, 863, 823, 824, 825, 826, 827, 828, 829, 830, 864, 865, 866, 867, 868, 869, 870, 871, 872, 873, 874, 875, 876, 877, 878, 879, 880, 881, 882, 883, 884] (by decide +kernel) (by decide +kernel)
set_option maxRecDepth 20000 in
theorem gL_law_X4_init : GoodIn wsL_law (wsX4_init) := ggL_law_X4_init
set_option maxRecDepth 20000 in
theorem ggL_law_X5_init : GoodIn wsL_law wsX5_init := goodIn_r _ [59, 60, 10, 11, 32, 61, 62, 63, 64, 65, 66, 67, 68, 69, 70, 71, 72, 73, 74, 75, 76, 77, 78, 831, 832, 833, 834, 835, 836, 837, 838, 839, 840, 841, 842, 843, 844, 845, 846, 847, 848, 849, 850, 851, 852, 853, 854, 855, 856, 857, 858, 859, 860, 861] (by decide +kernel) (by decide +kernel)
set_option maxRecDepth 20000 in
theorem gL_law_X5_init : GoodIn wsL_law (wsX5_init) := ggL_law_X5_init
set_option maxRecDepth 20000 in
theorem ggL_law_X4_letter : GoodIn wsL_law wsX4_letter := goodIn_r _ [82, 15, 83, 84, 85, 86, 14, 87, 88, 33, 823, 824, 825, 826, 827, 828, 829, 830, 862, 863] (by decide +kernel) (by decide +kernel)
set_option maxRecDepth 20000 in
theorem gL_law_X4_letter : GoodIn wsL_law (wsV RL 13 RX4 yX4_letter wsX4_letter) := goodIn_app (goodIn_of _ (by decide +kernel)) ggL_law_X4_letter
set_option maxRecDepth 20000 in
theorem ggL_law_X5_letter : GoodIn wsL_law wsX5_letter := goodIn_r _ [92, 93, 94, 61, 95, 96, 5, 97, 831, 832, 833, 834, 835, 836, 837, 838, 839, 840, 841, 842, 843, 844, 845, 846, 847, 848, 849, 850, 851, 852, 853, 854, 855, 856, 857, 858, 859, 860, 861] (by decide +kernel) (by decide +kernel)
set_option maxRecDepth 20000 in
theorem gL_law_X5_letter : GoodIn wsL_law (wsV RL 17 RX5 yX5_letter wsX5_letter) := goodIn_app (goodIn_of _ (by decide +kernel)) ggL_law_X5_letter
set_option maxRecDepth 20000 in
theorem ggL_law_X4_blank : GoodIn wsL_law wsX4_blank := goodIn_r _ [101, 15, 83, 823, 824, 825, 826, 827, 828, 829, 830, 862, 863] (by decide +kernel) (by decide +kernel)
set_option maxRecDepth 20000 in
theorem gL_law_X4_blank : GoodIn wsL_law (wsV RL 18 RX4 yX4_blank wsX4_blank) := goodIn_app (goodIn_of _ (by decide +kernel)) ggL_law_X4_blank
set_option maxRecDepth 20000 in
theorem ggL_law_X5_blank : GoodIn wsL_law wsX5_blank := goodIn_r _ [105, 94, 831, 832, 833, 834, 835, 836, 837, 838, 839, 840, 841, 842, 843, 844, 845, 846, 847, 848, 849, 850, 851, 852, 853, 854, 855, 856, 857, 858, 859, 860, 861] (by decide +kernel) (by decide +kernel)
set_option maxRecDepth 20000 in
theorem gL_law_X5_blank : GoodIn wsL_law (wsV RL 22 RX5 yX5_blank wsX5_blank) := goodIn_app (goodIn_of _ (by decide +kernel)) ggL_law_X5_blank
set_option maxRecDepth 20000 in
theorem ggL_law_X4_fault : GoodIn wsL_law wsX4_fault := goodIn_r _ [109, 15, 110, 111, 112, 14, 113, 88, 114, 115, 116, 117, 33, 118, 119, 120, 121, 122, 123, 124, 125, 126, 127, 128, 129, 130, 131, 132, 133, 134, 135, 136, 137, 138, 139, 140, 141, 142, 143, 144, 145, 146, 147, 148, 149, 150, 151, 152, 153, 154, 155, 156, 157, 158, 159, 160, 161, 162, 163, 164, 165, 166, 167, 168, 169, 170, 171, 172, 173, 174, 175, 176, 177, 178, 179, 180, 181, 182, 183, 184, 185, 186, 187, 188, 189, 190, 191, 192, 193, 194, 195, 196, 197, 198, 199, 200, 201, 202, 203, 204, 205, 206, 823, 824, 825, 826, 827, 828, 829, 830, 862, 863] (by decide +kernel) (by decide +kernel)
set_option maxRecDepth 20000 in
theorem gL_law_X4_fault : GoodIn wsL_law (wsV RL 23 RX4 yX4_fault wsX4_fault) := goodIn_app (goodIn_of _ (by decide +kernel)) ggL_law_X4_fault
set_option maxRecDepth 20000 in
theorem ggL_law_X5_fault : GoodIn wsL_law wsX5_fault := goodIn_r _ [210, 211, 212, 213, 5, 214, 94, 215, 216, 217, 218, 61, 219, 220, 221, 222, 223, 95, 96, 97, 831, 832, 833, 834, 835, 836, 837, 838, 839, 840, 841, 842, 843, 844, 845, 846, 847, 848, 849, 850, 851, 852, 853, 854, 855, 856, 857, 858, 859, 860, 861] (by decide +kernel) (by decide +kernel)
set_option maxRecDepth 20000 in
theorem gL_law_X5_fault : GoodIn wsL_law (wsV RL 26 RX5 yX5_fault wsX5_fault) := goodIn_app (goodIn_of _ (by decide +kernel)) ggL_law_X5_fault
set_option maxRecDepth 20000 in
theorem ggL_law_X4_company : GoodIn wsL_law wsX4_company := goodIn_r _ [227, 15, 19, 83, 228, 229, 230, 231, 232, 233, 14, 234, 88, 235, 111, 112, 113, 114, 115, 116, 117, 33, 118, 119, 120, 121, 122, 123, 124, 125, 126, 127, 128, 129, 130, 131, 132, 133, 134, 135, 136, 137, 138, 139, 140, 141, 142, 143, 144, 145, 146, 147, 148, 149, 150, 151, 152, 153, 154, 155, 156, 157, 158, 159, 160, 161, 162, 163, 164, 165, 166, 167, 168, 169, 170, 171, 172, 173, 174, 175, 176, 177, 178, 179, 180, 181, 182, 183, 184, 185, 186, 187, 188, 189, 190, 191, 192, 193, 194, 195, 196, 197, 198, 199, 200, 201, 202, 203, 204, 205, 206, 236, 237, 238, 18, 239, 240, 241, 37, 38, 40, 242, 243, 244, 245, 246, 247, 248, 249, 250, 251, 252, 253, 254, 255, 256, 257, 258, 259, 260, 261, 262, 263, 39, 823, 824, 825, 826, 827, 828, 829, 830, 862, 863, 864, 865, 866, 867, 868, 869, 870, 871, 872, 873] (by decide +kernel) (by decide +kernel)
set_option maxRecDepth 20000 in
theorem gL_law_X4_company : GoodIn wsL_law (wsV RL 27 RX4 yX4_company wsX4_company) := goodIn_app (goodIn_of _ (by decide +kernel)) ggL_law_X4_company
set_option maxRecDepth 20000 in
theorem ggL_law_X5_company : GoodIn wsL_law wsX5_company := goodIn_r _ [267, 94, 268, 62, 61, 63, 64, 65, 269, 270, 271, 211, 212, 213, 5, 214, 215, 216, 217, 218, 219, 220, 221, 222, 223, 95, 96, 97, 831, 832, 833, 834, 835, 836, 837, 838, 839, 840, 841, 842, 843, 844, 845, 846, 847, 848, 849, 850, 851, 852, 853, 854, 855, 856, 857, 858, 859, 860, 861] (by decide +kernel) (by decide +kernel)
set_option maxRecDepth 20000 in
theorem gL_law_X5_company : GoodIn wsL_law (wsV RL 30 RX5 yX5_company wsX5_company) := goodIn_app (goodIn_of _ (by decide +kernel)) ggL_law_X5_company
set_option maxRecDepth 20000 in
theorem ggL_law_X4_person : GoodIn wsL_law wsX4_person := goodIn_r _ [275, 19, 24, 276, 277, 278, 18, 279, 241, 280, 281, 282, 23, 283, 284, 285, 286, 287, 288, 289, 290, 48, 291, 292, 293, 294, 295, 39, 296, 297, 298, 299, 300, 301, 302, 303, 304, 305, 306, 307, 308, 37, 40, 309, 310, 311, 312, 38, 313, 314, 148, 315, 316, 317, 318, 319, 49, 320, 321, 322, 323, 324, 325, 326, 327, 328, 329, 330, 331, 332, 333, 334, 335, 336, 337, 338, 339, 340, 341, 50, 342, 257, 258, 259, 343, 344, 345, 346, 52, 347, 348, 349, 350, 351, 352, 2, 353, 354, 355, 356, 357, 358, 359, 360, 361, 362, 363, 364, 365, 366, 367, 368, 369, 370, 371, 372, 373, 374, 375, 376, 377, 378, 379, 380, 381, 382, 242, 41, 42, 44, 383, 384, 385, 386, 387, 388, 389, 390, 391, 392, 147, 149, 393, 394, 395, 396, 397, 398, 823, 824, 825, 826, 827, 828, 829, 830, 864, 865, 866, 867, 868, 869, 870, 871, 872, 873, 874, 875, 876, 877, 878, 879, 880, 881] (by decide +kernel) (by decide +kernel)
set_option maxRecDepth 20000 in
theorem gL_law_X4_person : GoodIn wsL_law (wsV RL 31 RX4 yX4_person wsX4_person) := goodIn_app (goodIn_of _ (by decide +kernel)) ggL_law_X4_person
set_option maxRecDepth 20000 in
theorem ggL_law_X5_person : GoodIn wsL_law wsX5_person := goodIn_r _ [402, 403, 404, 405, 5, 406, 268, 95, 96, 97, 407, 408, 409, 410, 62, 63, 64, 411, 412, 413, 414, 415, 416, 417, 418, 65, 419, 420, 421, 422, 423, 424, 425, 426, 427, 428, 429, 430, 431, 432, 433, 434, 69, 435, 436, 437, 438, 439, 68, 70, 440, 441, 442, 443, 444, 66, 67, 445, 446, 447, 448, 449, 450, 451, 452, 453, 454, 455, 456, 457, 458, 459, 460, 461, 462, 463, 464, 465, 466, 467, 468, 469, 470, 471, 472, 473, 474, 475, 476, 477, 478, 479, 270, 72, 480, 481, 482, 483, 484, 485, 486, 487, 488, 489, 490, 831, 832, 833, 834, 835, 836, 837, 838, 839, 840, 841, 842, 843, 844, 845, 846, 847, 848, 849, 850, 851, 852, 853, 854, 855, 856, 857, 858, 859, 860, 861] (by decide +kernel) (by decide +kernel)
set_option maxRecDepth 20000 in
theorem gL_law_X5_person : GoodIn wsL_law (wsV RL 35 RX5 yX5_person wsX5_person) := goodIn_app (goodIn_of _ (by decide +kernel)) ggL_law_X5_person
set_option maxRecDepth 20000 in
theorem ggL_law_X4_as : GoodIn wsL_law wsX4_as := goodIn_r _ [494, 19, 276, 277, 278, 18, 279, 241, 495, 496, 2, 497, 498, 499, 500, 501, 37, 823, 824, 825, 826, 827, 828, 829, 830, 864, 865, 866, 867, 868, 869, 870, 871, 872, 873] (by decide +kernel) (by decide +kernel)
set_option maxRecDepth 20000 in
theorem gL_law_X4_as : GoodIn wsL_law (wsV RL 36 RX4 yX4_as wsX4_as) := goodIn_app (goodIn_of _ (by decide +kernel)) ggL_law_X4_as
set_option maxRecDepth 20000 in
theorem ggL_law_X5_as : GoodIn wsL_law wsX5_as := goodIn_r _ [505, 506, 62, 403, 404, 405, 5, 406, 268, 95, 96, 97, 831, 832, 833, 834, 835, 836, 837, 838, 839, 840, 841, 842, 843, 844, 845, 846, 847, 848, 849, 850, 851, 852, 853, 854, 855, 856, 857, 858, 859, 860, 861] (by decide +kernel) (by decide +kernel)
set_option maxRecDepth 20000 in
theorem gL_law_X5_as : GoodIn wsL_law (wsV RL 39 RX5 yX5_as wsX5_as) := goodIn_app (goodIn_of _ (by decide +kernel)) ggL_law_X5_as
set_option maxRecDepth 20000 in
theorem ggL_law_X4_take : GoodIn wsL_law wsX4_take := goodIn_r _ [510, 19, 511, 356, 24, 276, 277, 278, 18, 279, 241, 366, 297, 298, 299, 39, 358, 359, 360, 361, 512, 306, 307, 308, 37, 40, 309, 310, 311, 312, 38, 313, 314, 148, 315, 513, 285, 286, 23, 287, 288, 289, 290, 48, 291, 292, 293, 294, 295, 296, 300, 301, 302, 303, 304, 305, 316, 317, 318, 319, 49, 320, 321, 322, 323, 324, 325, 326, 327, 328, 329, 330, 331, 332, 333, 334, 335, 336, 337, 514, 372, 373, 374, 823, 824, 825, 826, 827, 828, 829, 830, 864, 865, 866, 867, 868, 869, 870, 871, 872, 873, 874, 875, 876, 877, 878, 879, 880, 881] (by decide +kernel) (by decide +kernel)
set_option maxRecDepth 20000 in
theorem gL_law_X4_take : GoodIn wsL_law (wsV RL 40 RX4 yX4_take wsX4_take) := goodIn_app (goodIn_of _ (by decide +kernel)) ggL_law_X4_take
set_option maxRecDepth 20000 in
theorem ggL_law_X5_take : GoodIn wsL_law wsX5_take := goodIn_r _ [518, 64, 269, 403, 404, 405, 5, 406, 268, 95, 96, 97, 445, 446, 447, 448, 449, 450, 451, 452, 415, 416, 417, 418, 65, 62, 419, 420, 421, 422, 63, 423, 424, 425, 519, 520, 521, 522, 434, 439, 435, 436, 437, 438, 69, 68, 70, 440, 441, 442, 443, 444, 66, 67, 453, 454, 455, 456, 457, 458, 459, 460, 461, 462, 463, 464, 465, 466, 467, 468, 469, 470, 471, 472, 473, 474, 475, 831, 832, 833, 834, 835, 836, 837, 838, 839, 840, 841, 842, 843, 844, 845, 846, 847, 848, 849, 850, 851, 852, 853, 854, 855, 856, 857, 858, 859, 860, 861] (by decide +kernel) (by decide +kernel)
set_option maxRecDepth 20000 in
theorem gL_law_X5_take : GoodIn wsL_law (wsV RL 43 RX5 yX5_take wsX5_take) := goodIn_app (goodIn_of _ (by decide +kernel)) ggL_law_X5_take
set_option maxRecDepth 20000 in
theorem ggL_law_X4_back : GoodIn wsL_law wsX4_back := goodIn_r _ [526, 19, 356, 276, 277, 278, 18, 279, 241, 366, 297, 298, 299, 39, 823, 824, 825, 826, 827, 828, 829, 830, 864, 865, 866, 867, 868, 869, 870, 871, 872, 873] (by decide +kernel) (by decide +kernel)
set_option maxRecDepth 20000 in
theorem gL_law_X4_back : GoodIn wsL_law (wsV RL 44 RX4 yX4_back wsX4_back) := goodIn_app (goodIn_of _ (by decide +kernel)) ggL_law_X4_back
set_option maxRecDepth 20000 in
theorem ggL_law_X5_back : GoodIn wsL_law wsX5_back := goodIn_r _ [530, 64, 403, 404, 405, 5, 406, 268, 95, 96, 97, 831, 832, 833, 834, 835, 836, 837, 838, 839, 840, 841, 842, 843, 844, 845, 846, 847, 848, 849, 850, 851, 852, 853, 854, 855, 856, 857, 858, 859, 860, 861] (by decide +kernel) (by decide +kernel)
set_option maxRecDepth 20000 in
theorem gL_law_X5_back : GoodIn wsL_law (wsV RL 47 RX5 yX5_back wsX5_back) := goodIn_app (goodIn_of _ (by decide +kernel)) ggL_law_X5_back
set_option maxRecDepth 20000 in
theorem ggL_law_X4_exchange : GoodIn wsL_law wsX4_exchange := goodIn_r _ [534, 19, 356, 276, 277, 278, 18, 279, 241, 366, 297, 298, 299, 39, 512, 306, 307, 308, 37, 40, 309, 310, 311, 312, 38, 313, 314, 148, 315, 535, 536, 537, 538, 539, 395, 396, 397, 823, 824, 825, 826, 827, 828, 829, 830, 864, 865, 866, 867, 868, 869, 870, 871, 872, 873] (by decide +kernel) (by decide +kernel)
set_option maxRecDepth 20000 in
theorem gL_law_X4_exchange : GoodIn wsL_law (wsV RL 48 RX4 yX4_exchange wsX4_exchange) := goodIn_app (goodIn_of _ (by decide +kernel)) ggL_law_X4_exchange
set_option maxRecDepth 20000 in
theorem ggL_law_X5_exchange : GoodIn wsL_law wsX5_exchange := goodIn_r _ [543, 64, 403, 404, 405, 5, 406, 268, 95, 96, 97, 415, 416, 417, 418, 65, 62, 419, 420, 421, 422, 63, 423, 424, 425, 544, 545, 546, 547, 464, 465, 466, 467, 831, 832, 833, 834, 835, 836, 837, 838, 839, 840, 841, 842, 843, 844, 845, 846, 847, 848, 849, 850, 851, 852, 853, 854, 855, 856, 857, 858, 859, 860, 861] (by decide +kernel) (by decide +kernel)
set_option maxRecDepth 20000 in
theorem gL_law_X5_exchange : GoodIn wsL_law (wsV RL 51 RX5 yX5_exchange wsX5_exchange) := goodIn_app (goodIn_of _ (by decide +kernel)) ggL_law_X5_exchange
set_option maxRecDepth 20000 in
theorem ggL_law_X4_all : GoodIn wsL_law wsX4_all := goodIn_r _ [551, 19, 230, 552, 553, 554, 18, 555, 241, 296, 297, 298, 299, 39, 556, 261, 262, 263, 256, 257, 258, 259, 823, 824, 825, 826, 827, 828, 829, 830, 864, 865, 866, 867, 868, 869, 870, 871, 872, 873] (by decide +kernel) (by decide +kernel)
set_option maxRecDepth 20000 in
theorem gL_law_X4_all : GoodIn wsL_law (wsV RL 52 RX4 yX4_all wsX4_all) := goodIn_app (goodIn_of _ (by decide +kernel)) ggL_law_X4_all
set_option maxRecDepth 20000 in
theorem ggL_law_X5_all : GoodIn wsL_law wsX5_all := goodIn_r _ [560, 268, 64, 561, 562, 563, 5, 564, 449, 450, 451, 452, 488, 489, 490, 831, 832, 833, 834, 835, 836, 837, 838, 839, 840, 841, 842, 843, 844, 845, 846, 847, 848, 849, 850, 851, 852, 853, 854, 855, 856, 857, 858, 859, 860, 861] (by decide +kernel) (by decide +kernel)
set_option maxRecDepth 20000 in
theorem gL_law_X5_all : GoodIn wsL_law (wsV RL 55 RX5 yX5_all wsX5_all) := goodIn_app (goodIn_of _ (by decide +kernel)) ggL_law_X5_all
set_option maxRecDepth 20000 in
theorem ggL_law_X4_bar : GoodIn wsL_law wsX4_bar := goodIn_r _ [568, 19, 569, 276, 277, 278, 18, 279, 241, 357, 302, 303, 304, 305, 306, 307, 308, 37, 40, 309, 310, 311, 312, 38, 313, 314, 148, 315, 398, 325, 326, 327, 328, 329, 330, 823, 824, 825, 826, 827, 828, 829, 830, 864, 865, 866, 867, 868, 869, 870, 871, 872, 873] (by decide +kernel) (by decide +kernel)
set_option maxRecDepth 20000 in
theorem gL_law_X4_bar : GoodIn wsL_law (wsV RL 56 RX4 yX4_bar wsX4_bar) := goodIn_app (goodIn_of _ (by decide +kernel)) ggL_law_X4_bar
set_option maxRecDepth 20000 in
theorem ggL_law_X5_bar : GoodIn wsL_law wsX5_bar := goodIn_r _ [573, 65, 403, 404, 405, 5, 406, 268, 95, 96, 97, 411, 412, 413, 414, 415, 416, 417, 418, 62, 419, 420, 421, 422, 63, 423, 424, 425, 488, 489, 490, 831, 832, 833, 834, 835, 836, 837, 838, 839, 840, 841, 842, 843, 844, 845, 846, 847, 848, 849, 850, 851, 852, 853, 854, 855, 856, 857, 858, 859, 860, 861] (by decide +kernel) (by decide +kernel)
set_option maxRecDepth 20000 in
theorem gL_law_X5_bar : GoodIn wsL_law (wsV RL 59 RX5 yX5_bar wsX5_bar) := goodIn_app (goodIn_of _ (by decide +kernel)) ggL_law_X5_bar
set_option maxRecDepth 20000 in
theorem ggL_law_X4_change : GoodIn wsL_law wsX4_change := goodIn_r _ [577, 19, 354, 355, 276, 277, 278, 18, 279, 241, 495, 496, 2, 497, 823, 824, 825, 826, 827, 828, 829, 830, 864, 865, 866, 867, 868, 869, 870, 871, 872, 873] (by decide +kernel) (by decide +kernel)
set_option maxRecDepth 20000 in
theorem gL_law_X4_change : GoodIn wsL_law (wsV RL 60 RX4 yX4_change wsX4_change) := goodIn_app (goodIn_of _ (by decide +kernel)) ggL_law_X4_change
set_option maxRecDepth 20000 in
theorem ggL_law_X5_change : GoodIn wsL_law wsX5_change := goodIn_r _ [581, 506, 582, 62, 63, 403, 404, 405, 5, 406, 268, 95, 96, 97, 831, 832, 833, 834, 835, 836, 837, 838, 839, 840, 841, 842, 843, 844, 845, 846, 847, 848, 849, 850, 851, 852, 853, 854, 855, 856, 857, 858, 859, 860, 861] (by decide +kernel) (by decide +kernel)
set_option maxRecDepth 20000 in
theorem gL_law_X5_change : GoodIn wsL_law (wsV RL 64 RX5 yX5_change wsX5_change) := goodIn_app (goodIn_of _ (by decide +kernel)) ggL_law_X5_change
set_option maxRecDepth 20000 in
theorem ggL_law_X4_ways : GoodIn wsL_law wsX4_ways := goodIn_r _ [586, 19, 230, 24, 513, 285, 286, 23, 287, 288, 289, 290, 48, 291, 292, 293, 294, 18, 295, 241, 39, 296, 297, 298, 299, 300, 301, 302, 303, 304, 305, 306, 307, 308, 37, 40, 309, 310, 311, 312, 38, 313, 314, 148, 315, 316, 317, 318, 319, 49, 320, 321, 322, 323, 324, 325, 326, 327, 328, 329, 330, 331, 332, 333, 334, 335, 336, 337, 514, 372, 373, 374, 587, 588, 589, 590, 53, 347, 348, 349, 591, 592, 593, 594, 823, 824, 825, 826, 827, 828, 829, 830, 864, 865, 866, 867, 868, 869, 870, 871, 872, 873, 874, 875, 876, 877, 878, 879, 880, 881] (by decide +kernel) (by decide +kernel)
set_option maxRecDepth 20000 in
theorem gL_law_X4_ways : GoodIn wsL_law (wsV RL 65 RX4 yX4_ways wsX4_ways) := goodIn_app (goodIn_of _ (by decide +kernel)) ggL_law_X4_ways
set_option maxRecDepth 20000 in
theorem ggL_law_X5_ways : GoodIn wsL_law wsX5_ways := goodIn_r _ [598, 95, 96, 5, 97, 561, 562, 563, 564, 268, 519, 520, 521, 522, 434, 439, 435, 436, 437, 438, 69, 68, 70, 440, 441, 442, 443, 444, 64, 66, 67, 445, 446, 447, 448, 449, 450, 451, 452, 453, 454, 455, 456, 415, 416, 417, 418, 65, 62, 419, 420, 421, 422, 63, 423, 424, 425, 457, 458, 459, 460, 461, 462, 463, 464, 465, 466, 467, 468, 469, 470, 471, 472, 473, 474, 475, 831, 832, 833, 834, 835, 836, 837, 838, 839, 840, 841, 842, 843, 844, 845, 846, 847, 848, 849, 850, 851, 852, 853, 854, 855, 856, 857, 858, 859, 860, 861] (by decide +kernel) (by decide +kernel)
set_option maxRecDepth 20000 in
theorem gL_law_X5_ways : GoodIn wsL_law (wsV RL 68 RX5 yX5_ways wsX5_ways) := goodIn_app (goodIn_of _ (by decide +kernel)) ggL_law_X5_ways
set_option maxRecDepth 20000 in
theorem ggL_law_X4_way : GoodIn wsL_law wsX4_way := goodIn_r _ [602, 19, 24, 276, 277, 278, 18, 279, 241, 513, 285, 286, 23, 287, 288, 289, 290, 48, 291, 292, 293, 294, 295, 39, 296, 297, 298, 299, 300, 301, 302, 303, 304, 305, 306, 307, 308, 37, 40, 309, 310, 311, 312, 38, 313, 314, 148, 315, 316, 317, 318, 319, 49, 320, 321, 322, 323, 324, 325, 326, 327, 328, 329, 330, 331, 332, 333, 334, 335, 336, 337, 514, 372, 373, 374, 603, 604, 605, 606, 823, 824, 825, 826, 827, 828, 829, 830, 864, 865, 866, 867, 868, 869, 870, 871, 872, 873, 874, 875, 876, 877, 878, 879, 880, 881] (by decide +kernel) (by decide +kernel)
set_option maxRecDepth 20000 in
theorem gL_law_X4_way : GoodIn wsL_law (wsV RL 69 RX4 yX4_way wsX4_way) := goodIn_app (goodIn_of _ (by decide +kernel)) ggL_law_X4_way
set_option maxRecDepth 20000 in
theorem ggL_law_X5_way : GoodIn wsL_law wsX5_way := goodIn_r _ [610, 434, 70, 561, 562, 563, 5, 564, 268, 403, 404, 405, 406, 95, 96, 97, 435, 436, 437, 438, 439, 69, 68, 440, 441, 442, 443, 444, 64, 66, 67, 445, 446, 447, 448, 449, 450, 451, 452, 453, 454, 455, 456, 415, 416, 417, 418, 65, 62, 419, 420, 421, 422, 63, 423, 424, 425, 457, 458, 459, 460, 461, 462, 463, 464, 465, 466, 467, 468, 469, 470, 471, 472, 473, 474, 475, 831, 832, 833, 834, 835, 836, 837, 838, 839, 840, 841, 842, 843, 844, 845, 846, 847, 848, 849, 850, 851, 852, 853, 854, 855, 856, 857, 858, 859, 860, 861] (by decide +kernel) (by decide +kernel)
set_option maxRecDepth 20000 in
theorem gL_law_X5_way : GoodIn wsL_law (wsV RL 72 RX5 yX5_way wsX5_way) := goodIn_app (goodIn_of _ (by decide +kernel)) ggL_law_X5_way
set_option maxRecDepth 20000 in
theorem ggL_law_X4_hint : GoodIn wsL_law wsX4_hint := goodIn_r _ [614, 19, 230, 615, 24, 280, 281, 282, 23, 283, 284, 285, 286, 287, 288, 289, 290, 48, 291, 292, 293, 294, 18, 295, 241, 39, 296, 297, 298, 299, 300, 301, 302, 303, 304, 305, 306, 307, 308, 37, 40, 309, 310, 311, 312, 38, 313, 314, 148, 315, 316, 317, 318, 319, 49, 320, 321, 322, 323, 324, 325, 326, 327, 328, 329, 330, 331, 332, 333, 334, 335, 336, 337, 338, 339, 340, 341, 50, 342, 257, 258, 259, 343, 344, 345, 346, 52, 347, 348, 349, 514, 372, 373, 374, 616, 617, 618, 619, 371, 823, 824, 825, 826, 827, 828, 829, 830, 864, 865, 866, 867, 868, 869, 870, 871, 872, 873, 874, 875, 876, 877, 878, 879, 880, 881] (by decide +kernel) (by decide +kernel)
set_option maxRecDepth 20000 in
theorem gL_law_X4_hint : GoodIn wsL_law (wsV RL 73 RX4 yX4_hint wsX4_hint) := goodIn_app (goodIn_of _ (by decide +kernel)) ggL_law_X4_hint
set_option maxRecDepth 20000 in
theorem ggL_law_X5_hint : GoodIn wsL_law wsX5_hint := goodIn_r _ [623, 624, 561, 562, 563, 5, 564, 268, 625, 626, 627, 628, 434, 64, 69, 435, 436, 437, 438, 439, 68, 70, 440, 441, 442, 443, 444, 66, 67, 445, 446, 447, 448, 449, 450, 451, 452, 453, 454, 455, 456, 415, 416, 417, 418, 65, 62, 419, 420, 421, 422, 63, 423, 424, 425, 457, 458, 459, 460, 461, 462, 463, 464, 465, 466, 467, 468, 469, 470, 471, 472, 473, 474, 475, 831, 832, 833, 834, 835, 836, 837, 838, 839, 840, 841, 842, 843, 844, 845, 846, 847, 848, 849, 850, 851, 852, 853, 854, 855, 856, 857, 858, 859, 860, 861] (by decide +kernel) (by decide +kernel)
set_option maxRecDepth 20000 in
theorem gL_law_X5_hint : GoodIn wsL_law (wsV RL 76 RX5 yX5_hint wsX5_hint) := goodIn_app (goodIn_of _ (by decide +kernel)) ggL_law_X5_hint
set_option maxRecDepth 20000 in
theorem ggL_law_X4_likely : GoodIn wsL_law wsX4_likely := goodIn_r _ [632, 19, 230, 24, 513, 285, 286, 23, 287, 288, 289, 290, 48, 291, 292, 293, 294, 18, 295, 241, 39, 296, 297, 298, 299, 300, 301, 302, 303, 304, 305, 306, 307, 308, 37, 40, 309, 310, 311, 312, 38, 313, 314, 148, 315, 316, 317, 318, 319, 49, 320, 321, 322, 323, 324, 325, 326, 327, 328, 329, 330, 331, 332, 333, 334, 335, 336, 337, 633, 634, 635, 636, 51, 637, 823, 824, 825, 826, 827, 828, 829, 830, 864, 865, 866, 867, 868, 869, 870, 871, 872, 873, 874, 875, 876, 877, 878, 879, 880, 881] (by decide +kernel) (by decide +kernel)
set_option maxRecDepth 20000 in
theorem gL_law_X4_likely : GoodIn wsL_law (wsV RL 77 RX4 yX4_likely wsX4_likely) := goodIn_app (goodIn_of _ (by decide +kernel)) ggL_law_X4_likely
set_option maxRecDepth 20000 in
theorem ggL_law_X5_likely : GoodIn wsL_law wsX5_likely := goodIn_r _ [641, 561, 562, 563, 5, 564, 268, 642, 643, 644, 645, 66, 444, 71, 646, 440, 441, 442, 443, 64, 67, 445, 446, 447, 448, 449, 450, 451, 452, 488, 489, 490, 415, 416, 417, 418, 65, 62, 419, 420, 421, 422, 63, 423, 424, 425, 831, 832, 833, 834, 835, 836, 837, 838, 839, 840, 841, 842, 843, 844, 845, 846, 847, 848, 849, 850, 851, 852, 853, 854, 855, 856, 857, 858, 859, 860, 861] (by decide +kernel) (by decide +kernel)
set_option maxRecDepth 20000 in
theorem gL_law_X5_likely : GoodIn wsL_law (wsV RL 80 RX5 yX5_likely wsX5_likely) := goodIn_app (goodIn_of _ (by decide +kernel)) ggL_law_X5_likely
set_option maxRecDepth 20000 in
theorem ggL_law_X4_rings : GoodIn wsL_law wsX4_rings := goodIn_r _ [650, 19, 230, 535, 536, 537, 18, 538, 241, 539, 395, 396, 397, 39, 651, 652, 653, 654, 392, 147, 148, 149, 393, 325, 326, 327, 328, 329, 330, 823, 824, 825, 826, 827, 828, 829, 830, 864, 865, 866, 867, 868, 869, 870, 871, 872, 873] (by decide +kernel) (by decide +kernel)
set_option maxRecDepth 20000 in
theorem gL_law_X4_rings : GoodIn wsL_law (wsV RL 81 RX4 yX4_rings wsX4_rings) := goodIn_app (goodIn_of _ (by decide +kernel)) ggL_law_X4_rings
set_option maxRecDepth 20000 in
theorem ggL_law_X5_rings : GoodIn wsL_law wsX5_rings := goodIn_r _ [658, 95, 96, 5, 97, 561, 562, 563, 564, 268, 544, 545, 546, 547, 64, 464, 465, 466, 467, 659, 660, 661, 662, 831, 832, 833, 834, 835, 836, 837, 838, 839, 840, 841, 842, 843, 844, 845, 846, 847, 848, 849, 850, 851, 852, 853, 854, 855, 856, 857, 858, 859, 860, 861] (by decide +kernel) (by decide +kernel)
set_option maxRecDepth 20000 in
theorem gL_law_X5_rings : GoodIn wsL_law (wsV RL 84 RX5 yX5_rings wsX5_rings) := goodIn_app (goodIn_of _ (by decide +kernel)) ggL_law_X5_rings
set_option maxRecDepth 20000 in
theorem ggL_law_X4_see : GoodIn wsL_law wsX4_see := goodIn_r _ [666, 19, 667, 276, 277, 278, 18, 279, 241, 668, 669, 670, 671, 242, 41, 42, 44, 823, 824, 825, 826, 827, 828, 829, 830, 864, 865, 866, 867, 868, 869, 870, 871, 872, 873] (by decide +kernel) (by decide +kernel)
set_option maxRecDepth 20000 in
theorem gL_law_X4_see : GoodIn wsL_law (wsV RL 85 RX4 yX4_see wsX4_see) := goodIn_app (goodIn_of _ (by decide +kernel)) ggL_law_X4_see
set_option maxRecDepth 20000 in
theorem ggL_law_X5_see : GoodIn wsL_law wsX5_see := goodIn_r _ [675, 270, 72, 403, 404, 405, 5, 406, 268, 95, 96, 97, 831, 832, 833, 834, 835, 836, 837, 838, 839, 840, 841, 842, 843, 844, 845, 846, 847, 848, 849, 850, 851, 852, 853, 854, 855, 856, 857, 858, 859, 860, 861] (by decide +kernel) (by decide +kernel)
set_option maxRecDepth 20000 in
theorem gL_law_X5_see : GoodIn wsL_law (wsV RL 89 RX5 yX5_see wsX5_see) := goodIn_app (goodIn_of _ (by decide +kernel)) ggL_law_X5_see
set_option maxRecDepth 20000 in
theorem ggL_law_X4_forget : GoodIn wsL_law wsX4_forget := goodIn_r _ [679, 19, 667, 823, 824, 825, 826, 827, 828, 829, 830, 864, 865, 866, 867, 868, 869, 870, 871, 872, 873] (by decide +kernel) (by decide +kernel)
set_option maxRecDepth 20000 in
theorem gL_law_X4_forget : GoodIn wsL_law (wsV RL 90 RX4 yX4_forget wsX4_forget) := goodIn_app (goodIn_of _ (by decide +kernel)) ggL_law_X4_forget
set_option maxRecDepth 20000 in
theorem ggL_law_X5_forget : GoodIn wsL_law wsX5_forget := goodIn_r _ [683, 270, 831, 832, 833, 834, 835, 836, 837, 838, 839, 840, 841, 842, 843, 844, 845, 846, 847, 848, 849, 850, 851, 852, 853, 854, 855, 856, 857, 858, 859, 860, 861] (by decide +kernel) (by decide +kernel)
set_option maxRecDepth 20000 in
theorem gL_law_X5_forget : GoodIn wsL_law (wsV RL 93 RX5 yX5_forget wsX5_forget) := goodIn_app (goodIn_of _ (by decide +kernel)) ggL_law_X5_forget
set_option maxRecDepth 20000 in
theorem ggL_law_X4_drawn : GoodIn wsL_law wsX4_drawn := goodIn_r _ [687, 19, 230, 24, 28, 688, 689, 690, 513, 285, 286, 23, 287, 288, 289, 290, 48, 291, 292, 293, 294, 18, 295, 241, 39, 296, 297, 298, 299, 300, 301, 302, 303, 304, 305, 306, 307, 308, 37, 40, 309, 310, 311, 312, 38, 313, 314, 148, 315, 316, 317, 318, 319, 49, 320, 321, 322, 323, 324, 325, 326, 327, 328, 329, 330, 331, 332, 333, 334, 335, 336, 337, 691, 692, 693, 27, 694, 695, 696, 697, 698, 699, 700, 701, 702, 703, 704, 705, 706, 707, 708, 709, 710, 711, 712, 713, 714, 715, 716, 717, 823, 824, 825, 826, 827, 828, 829, 830, 864, 865, 866, 867, 868, 869, 870, 871, 872, 873, 882, 883, 884, 874, 875, 876, 877, 878, 879, 880, 881] (by decide +kernel) (by decide +kernel)
set_option maxRecDepth 20000 in
theorem gL_law_X4_drawn : GoodIn wsL_law (wsV RL 94 RX4 yX4_drawn wsX4_drawn) := goodIn_app (goodIn_of _ (by decide +kernel)) ggL_law_X4_drawn
set_option maxRecDepth 20000 in
theorem ggL_law_X5_drawn : GoodIn wsL_law wsX5_drawn := goodIn_r _ [721, 722, 723, 724, 444, 66, 95, 96, 5, 97, 561, 562, 563, 564, 268, 440, 441, 442, 443, 64, 67, 445, 446, 447, 448, 449, 450, 451, 452, 411, 412, 413, 414, 415, 416, 417, 418, 65, 62, 419, 420, 421, 422, 63, 423, 424, 425, 488, 489, 490, 725, 726, 727, 728, 729, 730, 731, 732, 733, 734, 735, 831, 832, 833, 834, 835, 836, 837, 838, 839, 840, 841, 842, 843, 844, 845, 846, 847, 848, 849, 850, 851, 852, 853, 854, 855, 856, 857, 858, 859, 860, 861] (by decide +kernel) (by decide +kernel)
set_option maxRecDepth 20000 in
theorem gL_law_X5_drawn : GoodIn wsL_law (wsV RL 97 RX5 yX5_drawn wsX5_drawn) := goodIn_app (goodIn_of _ (by decide +kernel)) ggL_law_X5_drawn
set_option maxRecDepth 20000 in
theorem ggL_law_X4_image : GoodIn wsL_law wsX4_image := goodIn_r _ [739, 19, 230, 20, 228, 511, 740, 741, 742, 18, 743, 241, 243, 242, 37, 744, 745, 746, 747, 38, 39, 40, 41, 42, 44, 823, 824, 825, 826, 827, 828, 829, 830, 864, 865, 866, 867, 868, 869, 870, 871, 872, 873] (by decide +kernel) (by decide +kernel)
set_option maxRecDepth 20000 in
theorem gL_law_X4_image : GoodIn wsL_law (wsV RL 98 RX4 yX4_image wsX4_image) := goodIn_app (goodIn_of _ (by decide +kernel)) ggL_law_X4_image
set_option maxRecDepth 20000 in
theorem ggL_law_X5_image : GoodIn wsL_law wsX5_image := goodIn_r _ [751, 62, 73, 63, 74, 64, 75, 65, 76, 72, 77, 269, 752, 270, 753, 271, 78, 561, 562, 563, 5, 564, 268, 461, 462, 463, 831, 832, 833, 834, 835, 836, 837, 838, 839, 840, 841, 842, 843, 844, 845, 846, 847, 848, 849, 850, 851, 852, 853, 854, 855, 856, 857, 858, 859, 860, 861] (by decide +kernel) (by decide +kernel)
set_option maxRecDepth 20000 in
theorem gL_law_X5_image : GoodIn wsL_law (wsV RL 101 RX5 yX5_image wsX5_image) := goodIn_app (goodIn_of _ (by decide +kernel)) ggL_law_X5_image
set_option maxRecDepth 20000 in
theorem ggL_law_X4_restore : GoodIn wsL_law wsX4_restore := goodIn_r _ [757, 228, 19, 20, 511, 740, 741, 742, 18, 743, 241, 243, 242, 37, 744, 745, 746, 747, 38, 39, 40, 41, 42, 44, 823, 824, 825, 826, 827, 828, 829, 830, 864, 865, 866, 867, 868, 869, 870, 871, 872, 873] (by decide +kernel) (by decide +kernel)
set_option maxRecDepth 20000 in
theorem gL_law_X4_restore : GoodIn wsL_law (wsV RL 102 RX4 yX4_restore wsX4_restore) := goodIn_app (goodIn_of _ (by decide +kernel)) ggL_law_X4_restore
set_option maxRecDepth 20000 in
theorem ggL_law_X5_restore : GoodIn wsL_law wsX5_restore := goodIn_r _ [761, 78, 271, 73, 62, 74, 63, 75, 64, 76, 65, 77, 72, 752, 269, 753, 270, 461, 462, 5, 463, 831, 832, 833, 834, 835, 836, 837, 838, 839, 840, 841, 842, 843, 844, 845, 846, 847, 848, 849, 850, 851, 852, 853, 854, 855, 856, 857, 858, 859, 860, 861] (by decide +kernel) (by decide +kernel)
set_option maxRecDepth 20000 in
theorem gL_law_X5_restore : GoodIn wsL_law (wsV RL 105 RX5 yX5_restore wsX5_restore) := goodIn_app (goodIn_of _ (by decide +kernel)) ggL_law_X5_restore
set_option maxRecDepth 20000 in
theorem ggL_law_X4_count : GoodIn wsL_law wsX4_count := goodIn_r _ [765, 24, 19, 280, 281, 282, 23, 283, 284, 285, 286, 287, 288, 289, 290, 48, 291, 292, 293, 294, 18, 295, 241, 39, 296, 297, 298, 299, 300, 301, 302, 303, 304, 305, 306, 307, 308, 37, 40, 309, 310, 311, 312, 38, 313, 314, 148, 315, 316, 317, 318, 319, 49, 320, 321, 322, 323, 324, 325, 326, 327, 328, 329, 330, 331, 332, 333, 334, 335, 336, 337, 338, 339, 340, 341, 50, 342, 257, 258, 259, 343, 344, 345, 346, 52, 347, 348, 349, 766, 767, 768, 2, 769, 230, 511, 667, 15, 83, 229, 615, 552, 553, 554, 555, 770, 771, 772, 773, 393, 774, 775, 776, 777, 778, 779, 780, 781, 362, 363, 364, 365, 356, 366, 367, 368, 369, 370, 371, 372, 373, 374, 823, 824, 825, 826, 827, 828, 829, 830, 864, 865, 866, 867, 868, 869, 870, 871, 872, 873, 874, 875, 876, 877, 878, 879, 880, 881, 862, 863] (by decide +kernel) (by decide +kernel)
set_option maxRecDepth 20000 in
theorem gL_law_X4_count : GoodIn wsL_law (wsV RL 106 RX4 yX4_count wsX4_count) := goodIn_app (goodIn_of _ (by decide +kernel)) ggL_law_X4_count
set_option maxRecDepth 20000 in
theorem ggL_law_X5_count : GoodIn wsL_law wsX5_count := goodIn_r _ [785, 786, 787, 788, 5, 789, 268, 269, 270, 94, 271, 624, 449, 450, 451, 452, 64, 488, 489, 490, 790, 791, 792, 793, 65, 794, 795, 796, 797, 415, 416, 417, 418, 62, 419, 420, 421, 422, 63, 423, 424, 425, 798, 799, 800, 801, 430, 431, 432, 433, 434, 69, 435, 436, 437, 438, 439, 68, 70, 440, 441, 442, 443, 444, 66, 67, 445, 446, 447, 448, 453, 454, 455, 456, 457, 458, 459, 460, 461, 462, 463, 464, 465, 466, 467, 468, 469, 470, 471, 472, 473, 474, 475, 831, 832, 833, 834, 835, 836, 837, 838, 839, 840, 841, 842, 843, 844, 845, 846, 847, 848, 849, 850, 851, 852, 853, 854, 855, 856, 857, 858, 859, 860, 861] (by decide +kernel) (by decide +kernel)
set_option maxRecDepth 20000 in
theorem gL_law_X5_count : GoodIn wsL_law (wsV RL 109 RX5 yX5_count wsX5_count) := goodIn_app (goodIn_of _ (by decide +kernel)) ggL_law_X5_count
set_option maxRecDepth 20000 in
theorem ggL_law_X4_digest : GoodIn wsL_law wsX4_digest := goodIn_r _ [805, 24, 19, 806, 230, 15, 83, 807, 280, 281, 282, 23, 283, 284, 285, 286, 287, 288, 289, 290, 48, 291, 292, 293, 294, 18, 295, 241, 39, 296, 297, 298, 299, 300, 301, 302, 303, 304, 305, 306, 307, 308, 37, 40, 309, 310, 311, 312, 38, 313, 314, 148, 315, 316, 317, 318, 319, 49, 320, 321, 322, 323, 324, 325, 326, 327, 328, 329, 330, 331, 332, 333, 334, 335, 336, 337, 338, 339, 340, 341, 50, 342, 257, 258, 259, 343, 344, 345, 346, 52, 347, 348, 349, 350, 351, 352, 2, 353, 354, 355, 356, 357, 358, 359, 360, 361, 362, 363, 364, 365, 366, 367, 368, 369, 370, 371, 372, 373, 374, 375, 376, 377, 378, 379, 380, 381, 382, 242, 41, 42, 44, 383, 384, 385, 386, 387, 388, 389, 390, 391, 392, 147, 149, 393, 394, 395, 396, 397, 398, 808, 809, 810, 811, 514, 587, 588, 589, 590, 53, 591, 592, 593, 594, 633, 634, 635, 636, 51, 637, 535, 536, 537, 538, 539, 651, 652, 653, 654, 766, 767, 768, 769, 511, 667, 229, 615, 552, 553, 554, 555, 770, 771, 772, 773, 774, 775, 776, 777, 778, 779, 780, 781, 823, 824, 825, 826, 827, 828, 829, 830, 864, 865, 866, 867, 868, 869, 870, 871, 872, 873, 862, 863, 874, 875, 876, 877, 878, 879, 880, 881] (by decide +kernel) (by decide +kernel)
set_option maxRecDepth 20000 in
theorem gL_law_X4_digest : GoodIn wsL_law (wsV RL 110 RX4 yX4_digest wsX4_digest) := goodIn_app (goodIn_of _ (by decide +kernel)) ggL_law_X4_digest
set_option maxRecDepth 20000 in
theorem ggL_law_X5_digest : GoodIn wsL_law wsX5_digest := goodIn_r _ [815, 816, 817, 268, 94, 61, 407, 408, 409, 5, 410, 62, 63, 64, 411, 412, 413, 414, 415, 416, 417, 418, 65, 419, 420, 421, 422, 423, 424, 425, 426, 427, 428, 429, 430, 431, 432, 433, 434, 69, 435, 436, 437, 438, 439, 68, 70, 440, 441, 442, 443, 444, 66, 67, 445, 446, 447, 448, 449, 450, 451, 452, 453, 454, 455, 456, 457, 458, 459, 460, 461, 462, 463, 464, 465, 466, 467, 468, 469, 470, 471, 472, 473, 474, 475, 476, 477, 478, 479, 270, 72, 480, 481, 482, 483, 484, 485, 486, 487, 488, 489, 490, 818, 819, 820, 821, 822, 561, 562, 563, 564, 519, 520, 521, 522, 642, 643, 644, 645, 71, 646, 544, 545, 546, 547, 659, 660, 661, 662, 786, 787, 788, 789, 269, 271, 624, 790, 791, 792, 793, 794, 795, 796, 797, 798, 799, 800, 801, 831, 832, 833, 834, 835, 836, 837, 838, 839, 840, 841, 842, 843, 844, 845, 846, 847, 848, 849, 850, 851, 852, 853, 854, 855, 856, 857, 858, 859, 860, 861] (by decide +kernel) (by decide +kernel)
set_option maxRecDepth 20000 in
theorem gL_law_X5_digest : GoodIn wsL_law (wsV RL 114 RX5 yX5_digest wsX5_digest) := goodIn_app (goodIn_of _ (by decide +kernel)) ggL_law_X5_digest
theorem dL_law_0 : decode cL_law 0 = .ok (.new 7, 3) := by decide +kernel
theorem dL_law_3 : decode cL_law 3 = .ok (.dup, 1) := by decide +kernel
theorem dL_law_4 : decode cL_law 4 = .ok (.invokespecial 9, 3) := by decide +kernel
theorem dL_law_7 : decode cL_law 7 = .ok (.astore_n 1, 1) := by decide +kernel
theorem dL_law_8 : decode cL_law 8 = .ok (.new 10, 3) := by decide +kernel
theorem dL_law_11 : decode cL_law 11 = .ok (.dup, 1) := by decide +kernel
theorem dL_law_12 : decode cL_law 12 = .ok (.invokespecial 12, 3) := by decide +kernel
theorem dL_law_15 : decode cL_law 15 = .ok (.astore_n 2, 1) := by decide +kernel
theorem dL_law_16 : decode cL_law 16 = .ok (.iconst 0, 1) := by decide +kernel
theorem dL_law_17 : decode cL_law 17 = .ok (.istore_n 3, 1) := by decide +kernel
theorem dL_law_18 : decode cL_law 18 = .ok (.iload_n 3, 1) := by decide +kernel
theorem dL_law_19 : decode cL_law 19 = .ok (.aload_n 0, 1) := by decide +kernel
theorem dL_law_20 : decode cL_law 20 = .ok (.arraylength, 1) := by decide +kernel
theorem dL_law_21 : decode cL_law 21 = .ok (.iconst 4, 1) := by decide +kernel
theorem dL_law_22 : decode cL_law 22 = .ok (.isub, 1) := by decide +kernel
theorem dL_law_23 : decode cL_law 23 = .ok (.if_icmp .gt 716, 3) := by decide +kernel
theorem dL_law_26 : decode cL_law 26 = .ok (.aload_n 0, 1) := by decide +kernel
theorem dL_law_27 : decode cL_law 27 = .ok (.iload_n 3, 1) := by decide +kernel
theorem dL_law_28 : decode cL_law 28 = .ok (.iaload, 1) := by decide +kernel
theorem dL_law_29 : decode cL_law 29 = .ok (.bipush 31, 2) := by decide +kernel
theorem dL_law_31 : decode cL_law 31 = .ok (.iand, 1) := by decide +kernel
theorem dL_law_32 : decode cL_law 32 = .ok (.tableswitch 701 0 23 #[112, 135, 148, 161, 174, 207, 240, 273, 296, 329, 342, 375, 418, 441, 474, 487, 500, 523, 582, 595, 638, 651, 664, 687], 112) := by decide +kernel
theorem dL_law_144 : decode cL_law 144 = .ok (.aload_n 1, 1) := by decide +kernel
theorem dL_law_145 : decode cL_law 145 = .ok (.aload_n 0, 1) := by decide +kernel
theorem dL_law_146 : decode cL_law 146 = .ok (.iload_n 3, 1) := by decide +kernel
theorem dL_law_147 : decode cL_law 147 = .ok (.iconst 1, 1) := by decide +kernel
theorem dL_law_148 : decode cL_law 148 = .ok (.iadd, 1) := by decide +kernel
theorem dL_law_149 : decode cL_law 149 = .ok (.iaload, 1) := by decide +kernel
theorem dL_law_150 : decode cL_law 150 = .ok (.invokevirtual 13, 3) := by decide +kernel
theorem dL_law_153 : decode cL_law 153 = .ok (.aload_n 2, 1) := by decide +kernel
theorem dL_law_154 : decode cL_law 154 = .ok (.aload_n 0, 1) := by decide +kernel
theorem dL_law_155 : decode cL_law 155 = .ok (.iload_n 3, 1) := by decide +kernel
theorem dL_law_156 : decode cL_law 156 = .ok (.iconst 1, 1) := by decide +kernel
theorem dL_law_157 : decode cL_law 157 = .ok (.iadd, 1) := by decide +kernel
theorem dL_law_158 : decode cL_law 158 = .ok (.iaload, 1) := by decide +kernel
theorem dL_law_159 : decode cL_law 159 = .ok (.invokevirtual 17, 3) := by decide +kernel
theorem dL_law_162 : decode cL_law 162 = .ok (.if_icmp .eq 571, 3) := by decide +kernel
theorem dL_law_165 : decode cL_law 165 = .ok (.iconst 0, 1) := by decide +kernel
theorem dL_law_166 : decode cL_law 166 = .ok (.ireturn, 1) := by decide +kernel
theorem dL_law_167 : decode cL_law 167 = .ok (.aload_n 1, 1) := by decide +kernel
theorem dL_law_168 : decode cL_law 168 = .ok (.invokevirtual 18, 3) := by decide +kernel
theorem dL_law_171 : decode cL_law 171 = .ok (.aload_n 2, 1) := by decide +kernel
theorem dL_law_172 : decode cL_law 172 = .ok (.invokevirtual 22, 3) := by decide +kernel
theorem dL_law_175 : decode cL_law 175 = .ok (.if_icmp .eq 558, 3) := by decide +kernel
theorem dL_law_178 : decode cL_law 178 = .ok (.iconst 0, 1) := by decide +kernel
theorem dL_law_179 : decode cL_law 179 = .ok (.ireturn, 1) := by decide +kernel
theorem dL_law_180 : decode cL_law 180 = .ok (.aload_n 1, 1) := by decide +kernel
theorem dL_law_181 : decode cL_law 181 = .ok (.invokevirtual 23, 3) := by decide +kernel
theorem dL_law_184 : decode cL_law 184 = .ok (.aload_n 2, 1) := by decide +kernel
theorem dL_law_185 : decode cL_law 185 = .ok (.invokevirtual 26, 3) := by decide +kernel
theorem dL_law_188 : decode cL_law 188 = .ok (.if_icmp .eq 545, 3) := by decide +kernel
theorem dL_law_191 : decode cL_law 191 = .ok (.iconst 0, 1) := by decide +kernel
theorem dL_law_192 : decode cL_law 192 = .ok (.ireturn, 1) := by decide +kernel
theorem dL_law_193 : decode cL_law 193 = .ok (.aload_n 1, 1) := by decide +kernel
theorem dL_law_194 : decode cL_law 194 = .ok (.invokevirtual 27, 3) := by decide +kernel
theorem dL_law_197 : decode cL_law 197 = .ok (.aload_n 2, 1) := by decide +kernel
theorem dL_law_198 : decode cL_law 198 = .ok (.invokevirtual 30, 3) := by decide +kernel
theorem dL_law_201 : decode cL_law 201 = .ok (.if_icmp .eq 532, 3) := by decide +kernel
theorem dL_law_204 : decode cL_law 204 = .ok (.iconst 0, 1) := by decide +kernel
theorem dL_law_205 : decode cL_law 205 = .ok (.ireturn, 1) := by decide +kernel
theorem dL_law_206 : decode cL_law 206 = .ok (.aload_n 1, 1) := by decide +kernel
theorem dL_law_207 : decode cL_law 207 = .ok (.aload_n 0, 1) := by decide +kernel
theorem dL_law_208 : decode cL_law 208 = .ok (.iload_n 3, 1) := by decide +kernel
theorem dL_law_209 : decode cL_law 209 = .ok (.iconst 1, 1) := by decide +kernel
theorem dL_law_210 : decode cL_law 210 = .ok (.iadd, 1) := by decide +kernel
theorem dL_law_211 : decode cL_law 211 = .ok (.iaload, 1) := by decide +kernel
theorem dL_law_212 : decode cL_law 212 = .ok (.aload_n 0, 1) := by decide +kernel
theorem dL_law_213 : decode cL_law 213 = .ok (.iload_n 3, 1) := by decide +kernel
theorem dL_law_214 : decode cL_law 214 = .ok (.iconst 2, 1) := by decide +kernel
theorem dL_law_215 : decode cL_law 215 = .ok (.iadd, 1) := by decide +kernel
theorem dL_law_216 : decode cL_law 216 = .ok (.iaload, 1) := by decide +kernel
theorem dL_law_217 : decode cL_law 217 = .ok (.invokevirtual 31, 3) := by decide +kernel
theorem dL_law_220 : decode cL_law 220 = .ok (.aload_n 2, 1) := by decide +kernel
theorem dL_law_221 : decode cL_law 221 = .ok (.aload_n 0, 1) := by decide +kernel
theorem dL_law_222 : decode cL_law 222 = .ok (.iload_n 3, 1) := by decide +kernel
theorem dL_law_223 : decode cL_law 223 = .ok (.iconst 1, 1) := by decide +kernel
theorem dL_law_224 : decode cL_law 224 = .ok (.iadd, 1) := by decide +kernel
theorem dL_law_225 : decode cL_law 225 = .ok (.iaload, 1) := by decide +kernel
theorem dL_law_226 : decode cL_law 226 = .ok (.aload_n 0, 1) := by decide +kernel
theorem dL_law_227 : decode cL_law 227 = .ok (.iload_n 3, 1) := by decide +kernel
theorem dL_law_228 : decode cL_law 228 = .ok (.iconst 2, 1) := by decide +kernel
theorem dL_law_229 : decode cL_law 229 = .ok (.iadd, 1) := by decide +kernel
theorem dL_law_230 : decode cL_law 230 = .ok (.iaload, 1) := by decide +kernel
theorem dL_law_231 : decode cL_law 231 = .ok (.invokevirtual 35, 3) := by decide +kernel
theorem dL_law_234 : decode cL_law 234 = .ok (.if_icmp .eq 499, 3) := by decide +kernel
theorem dL_law_237 : decode cL_law 237 = .ok (.iconst 0, 1) := by decide +kernel
theorem dL_law_238 : decode cL_law 238 = .ok (.ireturn, 1) := by decide +kernel
theorem dL_law_239 : decode cL_law 239 = .ok (.aload_n 1, 1) := by decide +kernel
theorem dL_law_240 : decode cL_law 240 = .ok (.aload_n 0, 1) := by decide +kernel
theorem dL_law_241 : decode cL_law 241 = .ok (.iload_n 3, 1) := by decide +kernel
theorem dL_law_242 : decode cL_law 242 = .ok (.iconst 1, 1) := by decide +kernel
theorem dL_law_243 : decode cL_law 243 = .ok (.iadd, 1) := by decide +kernel
theorem dL_law_244 : decode cL_law 244 = .ok (.iaload, 1) := by decide +kernel
theorem dL_law_245 : decode cL_law 245 = .ok (.aload_n 0, 1) := by decide +kernel
theorem dL_law_246 : decode cL_law 246 = .ok (.iload_n 3, 1) := by decide +kernel
theorem dL_law_247 : decode cL_law 247 = .ok (.iconst 2, 1) := by decide +kernel
theorem dL_law_248 : decode cL_law 248 = .ok (.iadd, 1) := by decide +kernel
theorem dL_law_249 : decode cL_law 249 = .ok (.iaload, 1) := by decide +kernel
theorem dL_law_250 : decode cL_law 250 = .ok (.invokevirtual 36, 3) := by decide +kernel
theorem dL_law_253 : decode cL_law 253 = .ok (.aload_n 2, 1) := by decide +kernel
theorem dL_law_254 : decode cL_law 254 = .ok (.aload_n 0, 1) := by decide +kernel
theorem dL_law_255 : decode cL_law 255 = .ok (.iload_n 3, 1) := by decide +kernel
theorem dL_law_256 : decode cL_law 256 = .ok (.iconst 1, 1) := by decide +kernel
theorem dL_law_257 : decode cL_law 257 = .ok (.iadd, 1) := by decide +kernel
theorem dL_law_258 : decode cL_law 258 = .ok (.iaload, 1) := by decide +kernel
theorem dL_law_259 : decode cL_law 259 = .ok (.aload_n 0, 1) := by decide +kernel
theorem dL_law_260 : decode cL_law 260 = .ok (.iload_n 3, 1) := by decide +kernel
theorem dL_law_261 : decode cL_law 261 = .ok (.iconst 2, 1) := by decide +kernel
theorem dL_law_262 : decode cL_law 262 = .ok (.iadd, 1) := by decide +kernel
theorem dL_law_263 : decode cL_law 263 = .ok (.iaload, 1) := by decide +kernel
theorem dL_law_264 : decode cL_law 264 = .ok (.invokevirtual 39, 3) := by decide +kernel
theorem dL_law_267 : decode cL_law 267 = .ok (.if_icmp .eq 466, 3) := by decide +kernel
theorem dL_law_270 : decode cL_law 270 = .ok (.iconst 0, 1) := by decide +kernel
theorem dL_law_271 : decode cL_law 271 = .ok (.ireturn, 1) := by decide +kernel
theorem dL_law_272 : decode cL_law 272 = .ok (.aload_n 1, 1) := by decide +kernel
theorem dL_law_273 : decode cL_law 273 = .ok (.aload_n 0, 1) := by decide +kernel
theorem dL_law_274 : decode cL_law 274 = .ok (.iload_n 3, 1) := by decide +kernel
theorem dL_law_275 : decode cL_law 275 = .ok (.iconst 1, 1) := by decide +kernel
theorem dL_law_276 : decode cL_law 276 = .ok (.iadd, 1) := by decide +kernel
theorem dL_law_277 : decode cL_law 277 = .ok (.iaload, 1) := by decide +kernel
theorem dL_law_278 : decode cL_law 278 = .ok (.aload_n 0, 1) := by decide +kernel
theorem dL_law_279 : decode cL_law 279 = .ok (.iload_n 3, 1) := by decide +kernel
theorem dL_law_280 : decode cL_law 280 = .ok (.iconst 2, 1) := by decide +kernel
theorem dL_law_281 : decode cL_law 281 = .ok (.iadd, 1) := by decide +kernel
theorem dL_law_282 : decode cL_law 282 = .ok (.iaload, 1) := by decide +kernel
theorem dL_law_283 : decode cL_law 283 = .ok (.invokevirtual 40, 3) := by decide +kernel
theorem dL_law_286 : decode cL_law 286 = .ok (.aload_n 2, 1) := by decide +kernel
theorem dL_law_287 : decode cL_law 287 = .ok (.aload_n 0, 1) := by decide +kernel
theorem dL_law_288 : decode cL_law 288 = .ok (.iload_n 3, 1) := by decide +kernel
theorem dL_law_289 : decode cL_law 289 = .ok (.iconst 1, 1) := by decide +kernel
theorem dL_law_290 : decode cL_law 290 = .ok (.iadd, 1) := by decide +kernel
theorem dL_law_291 : decode cL_law 291 = .ok (.iaload, 1) := by decide +kernel
theorem dL_law_292 : decode cL_law 292 = .ok (.aload_n 0, 1) := by decide +kernel
theorem dL_law_293 : decode cL_law 293 = .ok (.iload_n 3, 1) := by decide +kernel
theorem dL_law_294 : decode cL_law 294 = .ok (.iconst 2, 1) := by decide +kernel
theorem dL_law_295 : decode cL_law 295 = .ok (.iadd, 1) := by decide +kernel
theorem dL_law_296 : decode cL_law 296 = .ok (.iaload, 1) := by decide +kernel
theorem dL_law_297 : decode cL_law 297 = .ok (.invokevirtual 43, 3) := by decide +kernel
theorem dL_law_300 : decode cL_law 300 = .ok (.if_icmp .eq 433, 3) := by decide +kernel
theorem dL_law_303 : decode cL_law 303 = .ok (.iconst 0, 1) := by decide +kernel
theorem dL_law_304 : decode cL_law 304 = .ok (.ireturn, 1) := by decide +kernel
theorem dL_law_305 : decode cL_law 305 = .ok (.aload_n 1, 1) := by decide +kernel
theorem dL_law_306 : decode cL_law 306 = .ok (.aload_n 0, 1) := by decide +kernel
theorem dL_law_307 : decode cL_law 307 = .ok (.iload_n 3, 1) := by decide +kernel
theorem dL_law_308 : decode cL_law 308 = .ok (.iconst 1, 1) := by decide +kernel
theorem dL_law_309 : decode cL_law 309 = .ok (.iadd, 1) := by decide +kernel
theorem dL_law_310 : decode cL_law 310 = .ok (.iaload, 1) := by decide +kernel
theorem dL_law_311 : decode cL_law 311 = .ok (.invokevirtual 44, 3) := by decide +kernel
theorem dL_law_314 : decode cL_law 314 = .ok (.aload_n 2, 1) := by decide +kernel
theorem dL_law_315 : decode cL_law 315 = .ok (.aload_n 0, 1) := by decide +kernel
