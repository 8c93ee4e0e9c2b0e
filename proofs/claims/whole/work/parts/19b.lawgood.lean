set_option maxRecDepth 20000 in
theorem ggL_law_L_cell : GoodIn wsL_law wsL_cell := goodIn_r _ [10] (by decide +kernel) (by decide +kernel)
set_option maxRecDepth 20000 in
theorem gL_law_L_cell : GoodIn wsL_law (va_wsS RL 9 yL_cell wsL_cell) := goodIn_app (goodIn_of _ (by decide +kernel)) ggL_law_L_cell
set_option maxRecDepth 20000 in
theorem ggL_law_X11_init : GoodIn wsL_law wsX11_init := goodIn_r _ [13, 14, 15, 16, 17, 18, 19, 20, 21, 22, 23, 24, 25, 26, 27, 28, 29, 30, 31, 32, 33, 34, 35, 36, 37, 38, 39, 40, 41, 42, 43, 44, 45, 46, 47, 48, 49, 50, 51, 52, 53, 54, 55, 56, 57, 58, 59, 60, 61, 62, 63, 64, 65, 66, 67, 68, 69, 70, 71, 72, 73, 74, 75, 76, 77, 78, 79, 80, 81, 82, 83, 84, 85, 86, 87, 88, 89, 90, 91, 92, 93, 94, 95, 96, 97, 98, 99, 100, 101, 102, 103, 104, 105, 106, 107, 108, 109, 110, 111, 112, 113, 114, 115, 116, 117, 118, 119, 120, 121, 816, 817, 818, 819, 820, 821, 822, 823, 859, 860, 861, 862, 863, 864, 865, 866, 867, 868, 869, 870, 871, 872, 873, 874, 875, 876, 877, 878, 879, 880, 881, 882, 883, 884, 885, 886, 887, 888, 889, 890, 891, 892, 893, 894, 895, 896, 897, 898, 899, 900] (by decide +kernel) (by decide +kernel)
set_option maxRecDepth 20000 in
theorem gL_law_X11_init : GoodIn wsL_law (wsX11_init) := ggL_law_X11_init
set_option maxRecDepth 20000 in
theorem ggL_law_X12_init : GoodIn wsL_law wsX12_init := goodIn_r _ [124, 125, 15, 16, 66, 126, 127, 128, 129, 130, 131, 132, 77, 133, 134, 135, 136, 137, 138, 139, 140, 141, 142, 143, 144, 145, 146, 824, 825, 826, 827, 828, 829, 830, 831, 832, 833, 834, 835, 836, 837, 838, 839, 840, 841, 842, 843, 844, 845, 846, 847, 848, 849, 850, 851, 852, 853, 854, 855, 856, 857, 858] (by decide +kernel) (by decide +kernel)
set_option maxRecDepth 20000 in
theorem gL_law_X12_init : GoodIn wsL_law (wsX12_init) := ggL_law_X12_init
set_option maxRecDepth 20000 in
theorem ggL_law_X11_note : GoodIn wsL_law wsX11_note := goodIn_r _ [150, 21, 151, 152, 2, 153, 154, 155, 156, 157, 158, 159, 51, 160, 161, 67, 68, 69, 70, 71, 816, 817, 818, 819, 820, 821, 822, 823, 859, 860, 861, 862, 863, 887, 888, 889, 890, 891, 892] (by decide +kernel) (by decide +kernel)
set_option maxRecDepth 20000 in
theorem gL_law_X11_note : GoodIn wsL_law (wsV RL 21 RX11 yX11_note wsX11_note) := goodIn_app (goodIn_of _ (by decide +kernel)) ggL_law_X11_note
set_option maxRecDepth 20000 in
theorem ggL_law_X12_note : GoodIn wsL_law wsX12_note := goodIn_r _ [165, 166, 167, 168, 169, 170, 171, 172, 126, 127, 128, 129, 130, 173, 174, 5, 175, 824, 825, 826, 827, 828, 829, 830, 831, 832, 833, 834, 835, 836, 837, 838, 839, 840, 841, 842, 843, 844, 845, 846, 847, 848, 849, 850, 851, 852, 853, 854, 855, 856, 857, 858] (by decide +kernel) (by decide +kernel)
set_option maxRecDepth 20000 in
theorem gL_law_X12_note : GoodIn wsL_law (wsV RL 25 RX12 yX12_note wsX12_note) := goodIn_app (goodIn_of _ (by decide +kernel)) ggL_law_X12_note
set_option maxRecDepth 20000 in
theorem ggL_law_X11_mark : GoodIn wsL_law wsX11_mark := goodIn_r _ [179, 21, 180, 181, 182, 51, 183, 161, 155, 2, 156, 154, 184, 185, 186, 187, 71, 816, 817, 818, 819, 820, 821, 822, 823, 859, 860, 861, 862, 863, 887, 888, 889, 890, 891, 892] (by decide +kernel) (by decide +kernel)
set_option maxRecDepth 20000 in
theorem gL_law_X11_mark : GoodIn wsL_law (wsV RL 26 RX11 yX11_mark wsX11_mark) := goodIn_app (goodIn_of _ (by decide +kernel)) ggL_law_X11_mark
set_option maxRecDepth 20000 in
theorem ggL_law_X12_mark : GoodIn wsL_law wsX12_mark := goodIn_r _ [191, 171, 130, 192, 193, 194, 5, 195, 172, 173, 174, 175, 824, 825, 826, 827, 828, 829, 830, 831, 832, 833, 834, 835, 836, 837, 838, 839, 840, 841, 842, 843, 844, 845, 846, 847, 848, 849, 850, 851, 852, 853, 854, 855, 856, 857, 858] (by decide +kernel) (by decide +kernel)
set_option maxRecDepth 20000 in
theorem gL_law_X12_mark : GoodIn wsL_law (wsV RL 30 RX12 yX12_mark wsX12_mark) := goodIn_app (goodIn_of _ (by decide +kernel)) ggL_law_X12_mark
set_option maxRecDepth 20000 in
theorem ggL_law_X11_level : GoodIn wsL_law wsX11_level := goodIn_r _ [199, 21, 200, 201, 2, 202, 154, 155, 156, 203, 204, 205, 55, 206, 207, 75, 76, 78, 208, 209, 210, 211, 816, 817, 818, 819, 820, 821, 822, 823, 859, 860, 861, 862, 863, 893, 894, 895, 896] (by decide +kernel) (by decide +kernel)
set_option maxRecDepth 20000 in
theorem gL_law_X11_level : GoodIn wsL_law (wsV RL 31 RX11 yX11_level wsX11_level) := goodIn_app (goodIn_of _ (by decide +kernel)) ggL_law_X11_level
set_option maxRecDepth 20000 in
theorem ggL_law_X12_level : GoodIn wsL_law wsX12_level := goodIn_r _ [215, 216, 171, 217, 131, 132, 133, 173, 174, 5, 175, 824, 825, 826, 827, 828, 829, 830, 831, 832, 833, 834, 835, 836, 837, 838, 839, 840, 841, 842, 843, 844, 845, 846, 847, 848, 849, 850, 851, 852, 853, 854, 855, 856, 857, 858] (by decide +kernel) (by decide +kernel)
set_option maxRecDepth 20000 in
theorem gL_law_X12_level : GoodIn wsL_law (wsV RL 35 RX12 yX12_level wsX12_level) := goodIn_app (goodIn_of _ (by decide +kernel)) ggL_law_X12_level
set_option maxRecDepth 20000 in
theorem ggL_law_X11_meter : GoodIn wsL_law wsX11_meter := goodIn_r _ [221, 21, 154, 155, 2, 156, 222, 223, 224, 20, 225, 61, 62, 816, 817, 818, 819, 820, 821, 822, 823, 859, 860, 861, 862, 863] (by decide +kernel) (by decide +kernel)
set_option maxRecDepth 20000 in
theorem gL_law_X11_meter : GoodIn wsL_law (wsV RL 36 RX11 yX11_meter wsX11_meter) := goodIn_app (goodIn_of _ (by decide +kernel)) ggL_law_X11_meter
set_option maxRecDepth 20000 in
theorem ggL_law_X12_meter : GoodIn wsL_law wsX12_meter := goodIn_r _ [229, 169, 168, 134, 135, 173, 174, 5, 175, 824, 825, 826, 827, 828, 829, 830, 831, 832, 833, 834, 835, 836, 837, 838, 839, 840, 841, 842, 843, 844, 845, 846, 847, 848, 849, 850, 851, 852, 853, 854, 855, 856, 857, 858] (by decide +kernel) (by decide +kernel)
set_option maxRecDepth 20000 in
theorem gL_law_X12_meter : GoodIn wsL_law (wsV RL 39 RX12 yX12_meter wsX12_meter) := goodIn_app (goodIn_of _ (by decide +kernel)) ggL_law_X12_meter
set_option maxRecDepth 20000 in
theorem ggL_law_X11_arc : GoodIn wsL_law wsX11_arc := goodIn_r _ [233, 21, 200, 201, 2, 202, 154, 155, 156, 234, 235, 236, 59, 237, 238, 82, 239, 240, 241, 242, 83, 243, 244, 245, 246, 247, 248, 249, 84, 816, 817, 818, 819, 820, 821, 822, 823, 859, 860, 861, 862, 863, 897, 898, 899, 900] (by decide +kernel) (by decide +kernel)
set_option maxRecDepth 20000 in
theorem gL_law_X11_arc : GoodIn wsL_law (wsV RL 40 RX11 yX11_arc wsX11_arc) := goodIn_app (goodIn_of _ (by decide +kernel)) ggL_law_X11_arc
set_option maxRecDepth 20000 in
theorem ggL_law_X12_arc : GoodIn wsL_law wsX12_arc := goodIn_r _ [253, 254, 255, 256, 137, 136, 138, 173, 174, 5, 175, 824, 825, 826, 827, 828, 829, 830, 831, 832, 833, 834, 835, 836, 837, 838, 839, 840, 841, 842, 843, 844, 845, 846, 847, 848, 849, 850, 851, 852, 853, 854, 855, 856, 857, 858] (by decide +kernel) (by decide +kernel)
set_option maxRecDepth 20000 in
theorem gL_law_X12_arc : GoodIn wsL_law (wsV RL 44 RX12 yX12_arc wsX12_arc) := goodIn_app (goodIn_of _ (by decide +kernel)) ggL_law_X12_arc
set_option maxRecDepth 20000 in
theorem ggL_law_X11_levelAt : GoodIn wsL_law wsX11_levelAt := goodIn_r _ [260, 21, 200, 201, 2, 202, 154, 155, 156, 261, 262, 263, 55, 264, 207, 75, 78, 76, 265, 266, 267, 268, 269, 270, 816, 817, 818, 819, 820, 821, 822, 823, 859, 860, 861, 862, 863, 893, 894, 895, 896] (by decide +kernel) (by decide +kernel)
set_option maxRecDepth 20000 in
theorem gL_law_X11_levelAt : GoodIn wsL_law (wsV RL 45 RX11 yX11_levelAt wsX11_levelAt) := goodIn_app (goodIn_of _ (by decide +kernel)) ggL_law_X11_levelAt
set_option maxRecDepth 20000 in
theorem ggL_law_X12_levelAt : GoodIn wsL_law wsX12_levelAt := goodIn_r _ [274, 216, 173, 174, 5, 175, 275, 276, 277, 278, 133, 132, 131, 279, 280, 281, 282, 217, 283, 284, 285, 824, 825, 826, 827, 828, 829, 830, 831, 832, 833, 834, 835, 836, 837, 838, 839, 840, 841, 842, 843, 844, 845, 846, 847, 848, 849, 850, 851, 852, 853, 854, 855, 856, 857, 858] (by decide +kernel) (by decide +kernel)
set_option maxRecDepth 20000 in
theorem gL_law_X12_levelAt : GoodIn wsL_law (wsV RL 49 RX12 yX12_levelAt wsX12_levelAt) := goodIn_app (goodIn_of _ (by decide +kernel)) ggL_law_X12_levelAt
set_option maxRecDepth 20000 in
theorem ggL_law_X11_timeOf : GoodIn wsL_law wsX11_timeOf := goodIn_r _ [289, 21, 200, 201, 2, 202, 154, 155, 156, 290, 291, 292, 59, 293, 238, 82, 83, 294, 84, 265, 266, 267, 268, 269, 270, 816, 817, 818, 819, 820, 821, 822, 823, 859, 860, 861, 862, 863, 897, 898, 899, 900] (by decide +kernel) (by decide +kernel)
set_option maxRecDepth 20000 in
theorem gL_law_X11_timeOf : GoodIn wsL_law (wsV RL 50 RX11 yX11_timeOf wsX11_timeOf) := goodIn_app (goodIn_of _ (by decide +kernel)) ggL_law_X11_timeOf
set_option maxRecDepth 20000 in
theorem ggL_law_X12_timeOf : GoodIn wsL_law wsX12_timeOf := goodIn_r _ [298, 216, 173, 174, 5, 175, 299, 300, 301, 302, 256, 136, 137, 303, 138, 283, 284, 285, 824, 825, 826, 827, 828, 829, 830, 831, 832, 833, 834, 835, 836, 837, 838, 839, 840, 841, 842, 843, 844, 845, 846, 847, 848, 849, 850, 851, 852, 853, 854, 855, 856, 857, 858] (by decide +kernel) (by decide +kernel)
set_option maxRecDepth 20000 in
theorem gL_law_X12_timeOf : GoodIn wsL_law (wsV RL 53 RX12 yX12_timeOf wsX12_timeOf) := goodIn_app (goodIn_of _ (by decide +kernel)) ggL_law_X12_timeOf
set_option maxRecDepth 20000 in
theorem ggL_law_X11_feed : GoodIn wsL_law wsX11_feed := goodIn_r _ [307, 25, 154, 155, 2, 156, 308, 309, 310, 24, 311, 312, 89, 816, 817, 818, 819, 820, 821, 822, 823, 864, 865] (by decide +kernel) (by decide +kernel)
set_option maxRecDepth 20000 in
theorem gL_law_X11_feed : GoodIn wsL_law (wsV RL 56 RX11 yX11_feed wsX11_feed) := goodIn_app (goodIn_of _ (by decide +kernel)) ggL_law_X11_feed
set_option maxRecDepth 20000 in
theorem ggL_law_X12_feed : GoodIn wsL_law wsX12_feed := goodIn_r _ [316, 317, 318, 143, 319, 173, 174, 5, 175, 824, 825, 826, 827, 828, 829, 830, 831, 832, 833, 834, 835, 836, 837, 838, 839, 840, 841, 842, 843, 844, 845, 846, 847, 848, 849, 850, 851, 852, 853, 854, 855, 856, 857, 858] (by decide +kernel) (by decide +kernel)
set_option maxRecDepth 20000 in
theorem gL_law_X12_feed : GoodIn wsL_law (wsV RL 60 RX12 yX12_feed wsX12_feed) := goodIn_app (goodIn_of _ (by decide +kernel)) ggL_law_X12_feed
set_option maxRecDepth 20000 in
theorem ggL_law_X11_read : GoodIn wsL_law wsX11_read := goodIn_r _ [323, 33, 25, 29, 324, 325, 326, 32, 327, 328, 329, 330, 331, 332, 333, 28, 334, 101, 102, 335, 336, 337, 338, 339, 340, 341, 342, 343, 344, 24, 345, 312, 89, 155, 2, 156, 346, 347, 348, 349, 350, 351, 352, 353, 354, 355, 356, 357, 358, 359, 360, 361, 362, 363, 364, 365, 366, 367, 368, 369, 370, 371, 372, 373, 374, 375, 376, 377, 378, 379, 380, 381, 382, 383, 384, 385, 386, 387, 388, 389, 390, 391, 392, 393, 394, 395, 396, 397, 398, 399, 400, 401, 402, 403, 404, 405, 406, 407, 408, 409, 410, 411, 412, 413, 244, 241, 245, 414, 415, 416, 417, 418, 419, 420, 421, 422, 423, 424, 425, 95, 426, 427, 428, 429, 430, 431, 432, 433, 434, 435, 436, 437, 438, 96, 439, 440, 441, 442, 816, 817, 818, 819, 820, 821, 822, 823, 870, 871, 872, 873, 866, 867, 868, 869, 864, 865] (by decide +kernel) (by decide +kernel)
