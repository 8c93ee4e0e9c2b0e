set_option maxRecDepth 20000 in
theorem gL_law_X11_read : GoodIn wsL_law (wsV RL 61 RX11 yX11_read wsX11_read) := goodIn_app (goodIn_of _ (by decide +kernel)) ggL_law_X11_read
set_option maxRecDepth 20000 in
theorem ggL_law_X12_read : GoodIn wsL_law wsX12_read := goodIn_r _ [446, 447, 448, 449, 450, 318, 451, 452, 453, 5, 454, 455, 456, 457, 458, 459, 460, 461, 462, 463, 464, 465, 466, 467, 468, 143, 173, 174, 175, 469, 470, 471, 472, 139, 142, 140, 141, 473, 474, 475, 476, 477, 478, 479, 480, 481, 482, 483, 484, 485, 486, 487, 488, 489, 490, 491, 492, 824, 825, 826, 827, 828, 829, 830, 831, 832, 833, 834, 835, 836, 837, 838, 839, 840, 841, 842, 843, 844, 845, 846, 847, 848, 849, 850, 851, 852, 853, 854, 855, 856, 857, 858] (by decide +kernel) (by decide +kernel)
set_option maxRecDepth 20000 in
theorem gL_law_X12_read : GoodIn wsL_law (wsV RL 65 RX12 yX12_read wsX12_read) := goodIn_app (goodIn_of _ (by decide +kernel)) ggL_law_X12_read
set_option maxRecDepth 20000 in
theorem ggL_law_X11_plain : GoodIn wsL_law wsX11_plain := goodIn_r _ [496, 29, 497, 98, 99, 28, 100, 101, 102, 96, 816, 817, 818, 819, 820, 821, 822, 823, 866, 867, 868, 869] (by decide +kernel) (by decide +kernel)
set_option maxRecDepth 20000 in
theorem gL_law_X11_plain : GoodIn wsL_law (wsV RL 66 RX11 yX11_plain wsX11_plain) := goodIn_app (goodIn_of _ (by decide +kernel)) ggL_law_X11_plain
set_option maxRecDepth 20000 in
theorem ggL_law_X12_plain : GoodIn wsL_law wsX12_plain := goodIn_r _ [501, 447, 824, 825, 826, 827, 828, 829, 830, 831, 832, 833, 834, 835, 836, 837, 838, 839, 840, 841, 842, 843, 844, 845, 846, 847, 848, 849, 850, 851, 852, 853, 854, 855, 856, 857, 858] (by decide +kernel) (by decide +kernel)
set_option maxRecDepth 20000 in
theorem gL_law_X12_plain : GoodIn wsL_law (wsV RL 69 RX12 yX12_plain wsX12_plain) := goodIn_app (goodIn_of _ (by decide +kernel)) ggL_law_X12_plain
set_option maxRecDepth 20000 in
theorem ggL_law_X11_rule : GoodIn wsL_law wsX11_rule := goodIn_r _ [505, 29, 506, 507, 508, 28, 509, 101, 155, 2, 156, 154, 816, 817, 818, 819, 820, 821, 822, 823, 866, 867, 868, 869] (by decide +kernel) (by decide +kernel)
set_option maxRecDepth 20000 in
theorem gL_law_X11_rule : GoodIn wsL_law (wsV RL 70 RX11 yX11_rule wsX11_rule) := goodIn_app (goodIn_of _ (by decide +kernel)) ggL_law_X11_rule
set_option maxRecDepth 20000 in
theorem ggL_law_X12_rule : GoodIn wsL_law wsX12_rule := goodIn_r _ [513, 447, 139, 140, 141, 142, 173, 174, 5, 175, 824, 825, 826, 827, 828, 829, 830, 831, 832, 833, 834, 835, 836, 837, 838, 839, 840, 841, 842, 843, 844, 845, 846, 847, 848, 849, 850, 851, 852, 853, 854, 855, 856, 857, 858] (by decide +kernel) (by decide +kernel)
set_option maxRecDepth 20000 in
theorem gL_law_X12_rule : GoodIn wsL_law (wsV RL 73 RX12 yX12_rule wsX12_rule) := goodIn_app (goodIn_of _ (by decide +kernel)) ggL_law_X12_rule
set_option maxRecDepth 20000 in
theorem ggL_law_X11_value : GoodIn wsL_law wsX11_value := goodIn_r _ [517, 29, 151, 152, 2, 153, 154, 155, 156, 518, 519, 420, 520, 521, 522, 523, 28, 524, 95, 525, 526, 527, 528, 96, 816, 817, 818, 819, 820, 821, 822, 823, 866, 867, 868, 869] (by decide +kernel) (by decide +kernel)
set_option maxRecDepth 20000 in
theorem gL_law_X11_value : GoodIn wsL_law (wsV RL 74 RX11 yX11_value wsX11_value) := goodIn_app (goodIn_of _ (by decide +kernel)) ggL_law_X11_value
set_option maxRecDepth 20000 in
theorem ggL_law_X12_value : GoodIn wsL_law wsX12_value := goodIn_r _ [532, 166, 169, 173, 174, 5, 175, 533, 534, 535, 536, 141, 537, 538, 539, 540, 447, 140, 139, 142, 541, 542, 543, 824, 825, 826, 827, 828, 829, 830, 831, 832, 833, 834, 835, 836, 837, 838, 839, 840, 841, 842, 843, 844, 845, 846, 847, 848, 849, 850, 851, 852, 853, 854, 855, 856, 857, 858] (by decide +kernel) (by decide +kernel)
set_option maxRecDepth 20000 in
theorem gL_law_X12_value : GoodIn wsL_law (wsV RL 77 RX12 yX12_value wsX12_value) := goodIn_app (goodIn_of _ (by decide +kernel)) ggL_law_X12_value
set_option maxRecDepth 20000 in
theorem ggL_law_X11_why : GoodIn wsL_law wsX11_why := goodIn_r _ [547, 29, 151, 152, 2, 153, 154, 155, 156, 518, 519, 420, 520, 548, 526, 527, 28, 528, 96, 816, 817, 818, 819, 820, 821, 822, 823, 866, 867, 868, 869] (by decide +kernel) (by decide +kernel)
set_option maxRecDepth 20000 in
theorem gL_law_X11_why : GoodIn wsL_law (wsV RL 78 RX11 yX11_why wsX11_why) := goodIn_app (goodIn_of _ (by decide +kernel)) ggL_law_X11_why
set_option maxRecDepth 20000 in
theorem ggL_law_X12_why : GoodIn wsL_law wsX12_why := goodIn_r _ [552, 166, 169, 173, 174, 5, 175, 537, 538, 539, 540, 447, 140, 139, 142, 824, 825, 826, 827, 828, 829, 830, 831, 832, 833, 834, 835, 836, 837, 838, 839, 840, 841, 842, 843, 844, 845, 846, 847, 848, 849, 850, 851, 852, 853, 854, 855, 856, 857, 858] (by decide +kernel) (by decide +kernel)
set_option maxRecDepth 20000 in
theorem gL_law_X12_why : GoodIn wsL_law (wsV RL 81 RX12 yX12_why wsX12_why) := goodIn_app (goodIn_of _ (by decide +kernel)) ggL_law_X12_why
set_option maxRecDepth 20000 in
theorem gp_X11_perform_0 : GoodIn wsL_law [.code yX11_perform cX11_perform 2 (some .int)] := goodIn_r _ [556] (by decide +kernel) (by decide +kernel)
set_option maxRecDepth 20000 in
theorem gp_X11_perform_wsX11_perform_r1 : GoodIn wsL_law wsX11_perform_r1 := goodIn_r _ [37, 21, 29, 17, 41, 45, 557, 558, 559, 36, 560, 110, 561, 562, 563, 564, 565, 566, 44, 567, 568, 569, 570, 571] (by decide +kernel) (by decide +kernel)
set_option maxRecDepth 20000 in
theorem gp_X11_perform_wsX11_perform_r2 : GoodIn wsL_law wsX11_perform_r2 := goodIn_r _ [572, 573, 574, 575, 576, 577, 578, 579, 580, 581, 582, 244, 241, 245, 583, 240, 242, 584, 585, 586, 587, 588, 522, 523] (by decide +kernel) (by decide +kernel)
set_option maxRecDepth 20000 in
theorem gp_X11_perform_wsX11_perform_r3 : GoodIn wsL_law wsX11_perform_r3 := goodIn_r _ [28, 524, 95, 525, 526, 527, 528, 96, 589, 590, 591, 592, 593, 262, 263, 55, 264, 207, 75, 78, 76, 265, 2, 266] (by decide +kernel) (by decide +kernel)
set_option maxRecDepth 20000 in
theorem gp_X11_perform_wsX11_perform_r4 : GoodIn wsL_law wsX11_perform_r4 := goodIn_r _ [267, 268, 269, 270, 594, 595, 596, 20, 597, 61, 62, 598, 599, 600, 601, 602, 603, 604, 605, 606, 607, 608, 609, 610] (by decide +kernel) (by decide +kernel)
set_option maxRecDepth 20000 in
theorem gp_X11_perform_wsX11_perform_r5 : GoodIn wsL_law wsX11_perform_r5 := goodIn_r _ [611, 612, 613, 614, 615, 616, 617, 618, 619, 620, 621, 622, 623, 624, 625, 626, 627, 628, 629, 51, 630, 161, 631, 632] (by decide +kernel) (by decide +kernel)
set_option maxRecDepth 20000 in
theorem gp_X11_perform_wsX11_perform_r6 : GoodIn wsL_law wsX11_perform_r6 := goodIn_r _ [633, 634, 71, 67, 68, 635, 636, 637, 638, 70, 639, 640, 641, 642, 643, 644, 645, 646, 647, 648, 649, 650, 115, 651] (by decide +kernel) (by decide +kernel)
set_option maxRecDepth 20000 in
theorem gp_X11_perform_wsX11_perform_r7 : GoodIn wsL_law wsX11_perform_r7 := goodIn_r _ [652, 653, 654, 655, 656, 657, 658, 659, 660, 661, 662, 663, 664, 291, 292, 59, 293, 238, 82, 83, 294, 84, 155, 156] (by decide +kernel) (by decide +kernel)
set_option maxRecDepth 20000 in
theorem gp_X11_perform_wsX11_perform_r8 : GoodIn wsL_law wsX11_perform_r8 := goodIn_r _ [665, 666, 667, 40, 668, 120, 669, 121, 670, 671, 672, 673, 674, 675, 676, 677, 678, 679, 680, 681, 682, 683, 684, 685] (by decide +kernel) (by decide +kernel)
set_option maxRecDepth 20000 in
theorem gp_X11_perform_wsX11_perform_r9 : GoodIn wsL_law wsX11_perform_r9 := goodIn_r _ [686, 687, 688, 689, 690, 691, 692, 693, 694, 695, 696, 697, 698, 699, 700, 701, 702, 703, 704, 705, 706, 707] (by decide +kernel) (by decide +kernel)
set_option maxRecDepth 20000 in
theorem gp_X11_perform_wsX110 : GoodIn wsL_law wsX110 := goodIn_r _ [816, 817, 818, 819, 820, 821, 822, 823] (by decide +kernel) (by decide +kernel)
set_option maxRecDepth 20000 in
theorem gp_X11_perform_wsX60 : GoodIn wsL_law wsX60 := goodIn_r _ [874, 875, 876, 877, 878, 879, 880, 881] (by decide +kernel) (by decide +kernel)
set_option maxRecDepth 20000 in
theorem gp_X11_perform_wsX90 : GoodIn wsL_law wsX90 := goodIn_r _ [859, 860, 861, 862, 863] (by decide +kernel) (by decide +kernel)
set_option maxRecDepth 20000 in
theorem gp_X11_perform_wsX10 : GoodIn wsL_law wsX10 := goodIn_r _ [884, 885, 886] (by decide +kernel) (by decide +kernel)
set_option maxRecDepth 20000 in
theorem gp_X11_perform_wsX40 : GoodIn wsL_law wsX40 := goodIn_r _ [887, 888, 889, 890, 891, 892] (by decide +kernel) (by decide +kernel)
set_option maxRecDepth 20000 in
theorem gp_X11_perform_wsX80 : GoodIn wsL_law wsX80 := goodIn_r _ [866, 867, 868, 869] (by decide +kernel) (by decide +kernel)
set_option maxRecDepth 20000 in
theorem gp_X11_perform_wsX20 : GoodIn wsL_law wsX20 := goodIn_r _ [893, 894, 895, 896] (by decide +kernel) (by decide +kernel)
set_option maxRecDepth 20000 in
theorem gp_X11_perform_wsX00 : GoodIn wsL_law wsX00 := goodIn_r _ [897, 898, 899, 900] (by decide +kernel) (by decide +kernel)
set_option maxRecDepth 20000 in
theorem gp_X11_perform_wsX50 : GoodIn wsL_law wsX50 := goodIn_r _ [882, 883] (by decide +kernel) (by decide +kernel)
theorem goodIn_c1_X11_perform {big a : List Cond} {c : Cond} (h : GoodIn big [c]) (g : GoodIn big a) : GoodIn big (c :: a) := fun w hw => (List.mem_cons.mp hw).elim (fun e => h w (List.mem_singleton.mpr e)) (g w)
theorem ggL_law_X11_perform : GoodIn wsL_law wsX11_perform := goodIn_c1_X11_perform gp_X11_perform_0 (goodIn_app (goodIn_app (goodIn_app (goodIn_app (goodIn_app (goodIn_app (goodIn_app (goodIn_app (goodIn_app (goodIn_app gp_X11_perform_wsX11_perform_r1 (goodIn_app gp_X11_perform_wsX11_perform_r2 (goodIn_app gp_X11_perform_wsX11_perform_r3 (goodIn_app gp_X11_perform_wsX11_perform_r4 (goodIn_app gp_X11_perform_wsX11_perform_r5 (goodIn_app gp_X11_perform_wsX11_perform_r6 (goodIn_app gp_X11_perform_wsX11_perform_r7 (goodIn_app gp_X11_perform_wsX11_perform_r8 gp_X11_perform_wsX11_perform_r9)))))))) gp_X11_perform_wsX110) gp_X11_perform_wsX60) gp_X11_perform_wsX90) gp_X11_perform_wsX10) gp_X11_perform_wsX40) gp_X11_perform_wsX80) gp_X11_perform_wsX20) gp_X11_perform_wsX00) gp_X11_perform_wsX50)
set_option maxRecDepth 20000 in
theorem gL_law_X11_perform : GoodIn wsL_law (wsV RL 82 RX11 yX11_perform wsX11_perform) := goodIn_app (goodIn_of _ (by decide +kernel)) ggL_law_X11_perform
set_option maxRecDepth 20000 in
theorem gp_X12_perform_0 : GoodIn wsL_law [.code yX12_perform cX12_perform 4 (some .int)] := goodIn_r _ [711] (by decide +kernel) (by decide +kernel)
set_option maxRecDepth 20000 in
theorem gp_X12_perform_wsX12_perform_r1 : GoodIn wsL_law wsX12_perform_r1 := goodIn_r _ [712, 172, 713, 145, 144, 714, 715, 716, 5, 717, 718, 719, 720, 126, 721, 722, 723, 724, 127, 146, 725, 726, 727, 533] (by decide +kernel) (by decide +kernel)
set_option maxRecDepth 20000 in
theorem gp_X12_perform_wsX12_perform_r2 : GoodIn wsL_law wsX12_perform_r2 := goodIn_r _ [534, 535, 536, 141, 537, 538, 539, 540, 447, 140, 139, 142, 541, 542, 543, 728, 729, 730, 731, 128, 732, 733, 734, 735] (by decide +kernel) (by decide +kernel)
set_option maxRecDepth 20000 in
theorem gp_X12_perform_wsX12_perform_r3 : GoodIn wsL_law wsX12_perform_r3 := goodIn_r _ [130, 736, 737, 738, 739, 740, 741, 742, 134, 135, 275, 276, 277, 278, 133, 132, 131, 279, 280, 281, 282, 217, 283, 284] (by decide +kernel) (by decide +kernel)
set_option maxRecDepth 20000 in
theorem gp_X12_perform_wsX12_perform_r4 : GoodIn wsL_law wsX12_perform_r4 := goodIn_r _ [285, 743, 744, 745, 746, 129, 747, 748, 749, 750, 299, 300, 301, 302, 256, 136, 137, 303, 138, 751, 752, 753, 754, 755] (by decide +kernel) (by decide +kernel)
set_option maxRecDepth 20000 in
theorem gp_X12_perform_wsX12_perform_r5 : GoodIn wsL_law wsX12_perform_r5 := goodIn_r _ [756, 757, 758, 759, 760, 761, 762] (by decide +kernel) (by decide +kernel)
set_option maxRecDepth 20000 in
theorem gp_X12_perform_wsX120 : GoodIn wsL_law wsX120 := goodIn_r _ [824, 825, 826, 827, 828, 829, 830, 831, 832, 833, 834, 835, 836, 837, 838, 839, 840, 841, 842, 843, 844, 845, 846, 847, 848, 849, 850, 851, 852, 853, 854, 855, 856, 857, 858] (by decide +kernel) (by decide +kernel)
theorem goodIn_c1_X12_perform {big a : List Cond} {c : Cond} (h : GoodIn big [c]) (g : GoodIn big a) : GoodIn big (c :: a) := fun w hw => (List.mem_cons.mp hw).elim (fun e => h w (List.mem_singleton.mpr e)) (g w)
theorem ggL_law_X12_perform : GoodIn wsL_law wsX12_perform := goodIn_c1_X12_perform gp_X12_perform_0 (goodIn_app (goodIn_app gp_X12_perform_wsX12_perform_r1 (goodIn_app gp_X12_perform_wsX12_perform_r2 (goodIn_app gp_X12_perform_wsX12_perform_r3 (goodIn_app gp_X12_perform_wsX12_perform_r4 gp_X12_perform_wsX12_perform_r5)))) gp_X12_perform_wsX120)
set_option maxRecDepth 20000 in
theorem gL_law_X12_perform : GoodIn wsL_law (wsV RL 85 RX12 yX12_perform wsX12_perform) := goodIn_app (goodIn_of _ (by decide +kernel)) ggL_law_X12_perform
set_option maxRecDepth 20000 in
theorem ggL_law_X11_event : GoodIn wsL_law wsX11_event := goodIn_r _ [766, 45, 767, 768, 769, 44, 770, 568, 155, 2, 156, 154, 816, 817, 818, 819, 820, 821, 822, 823, 884, 885, 886] (by decide +kernel) (by decide +kernel)
set_option maxRecDepth 20000 in
theorem gL_law_X11_event : GoodIn wsL_law (wsV RL 86 RX11 yX11_event wsX11_event) := goodIn_app (goodIn_of _ (by decide +kernel)) ggL_law_X11_event
set_option maxRecDepth 20000 in
theorem ggL_law_X12_event : GoodIn wsL_law wsX12_event := goodIn_r _ [774, 713, 775, 126, 145, 173, 174, 5, 175, 824, 825, 826, 827, 828, 829, 830, 831, 832, 833, 834, 835, 836, 837, 838, 839, 840, 841, 842, 843, 844, 845, 846, 847, 848, 849, 850, 851, 852, 853, 854, 855, 856, 857, 858] (by decide +kernel) (by decide +kernel)
set_option maxRecDepth 20000 in
theorem gL_law_X12_event : GoodIn wsL_law (wsV RL 89 RX12 yX12_event wsX12_event) := goodIn_app (goodIn_of _ (by decide +kernel)) ggL_law_X12_event
set_option maxRecDepth 20000 in
theorem ggL_law_X11_sounding : GoodIn wsL_law wsX11_sounding := goodIn_r _ [779, 45, 780, 781, 782, 44, 783, 568, 115, 700, 701, 702, 703, 816, 817, 818, 819, 820, 821, 822, 823, 884, 885, 886] (by decide +kernel) (by decide +kernel)
set_option maxRecDepth 20000 in
theorem gL_law_X11_sounding : GoodIn wsL_law (wsV RL 90 RX11 yX11_sounding wsX11_sounding) := goodIn_app (goodIn_of _ (by decide +kernel)) ggL_law_X11_sounding
set_option maxRecDepth 20000 in
theorem ggL_law_X12_sounding : GoodIn wsL_law wsX12_sounding := goodIn_r _ [787, 713, 145, 824, 825, 826, 827, 828, 829, 830, 831, 832, 833, 834, 835, 836, 837, 838, 839, 840, 841, 842, 843, 844, 845, 846, 847, 848, 849, 850, 851, 852, 853, 854, 855, 856, 857, 858] (by decide +kernel) (by decide +kernel)
set_option maxRecDepth 20000 in
theorem gL_law_X12_sounding : GoodIn wsL_law (wsV RL 93 RX12 yX12_sounding wsX12_sounding) := goodIn_app (goodIn_of _ (by decide +kernel)) ggL_law_X12_sounding
set_option maxRecDepth 20000 in
theorem ggL_law_X11_span : GoodIn wsL_law wsX11_span := goodIn_r _ [791, 21, 45, 180, 181, 182, 51, 183, 161, 155, 2, 156, 792, 793, 794, 44, 795, 568, 115, 796, 797, 798, 799, 800, 801, 802, 803, 700, 701, 702, 703, 816, 817, 818, 819, 820, 821, 822, 823, 859, 860, 861, 862, 863, 887, 888, 889, 890, 891, 892, 884, 885, 886] (by decide +kernel) (by decide +kernel)
set_option maxRecDepth 20000 in
theorem gL_law_X11_span : GoodIn wsL_law (wsV RL 94 RX11 yX11_span wsX11_span) := goodIn_app (goodIn_of _ (by decide +kernel)) ggL_law_X11_span
set_option maxRecDepth 20000 in
theorem ggL_law_X12_span : GoodIn wsL_law wsX12_span := goodIn_r _ [807, 727, 713, 145, 192, 193, 194, 5, 195, 172, 173, 174, 175, 824, 825, 826, 827, 828, 829, 830, 831, 832, 833, 834, 835, 836, 837, 838, 839, 840, 841, 842, 843, 844, 845, 846, 847, 848, 849, 850, 851, 852, 853, 854, 855, 856, 857, 858] (by decide +kernel) (by decide +kernel)
set_option maxRecDepth 20000 in
theorem gL_law_X12_span : GoodIn wsL_law (wsV RL 97 RX12 yX12_span wsX12_span) := goodIn_app (goodIn_of _ (by decide +kernel)) ggL_law_X12_span
set_option maxRecDepth 20000 in
theorem ggL_law_X11_count : GoodIn wsL_law wsX11_count := goodIn_r _ [811, 21, 29, 45, 25, 816, 817, 818, 819, 820, 821, 822, 823, 859, 860, 861, 862, 863, 887, 888, 889, 890, 891, 892, 893, 894, 895, 896, 897, 898, 899, 900, 866, 867, 868, 869, 884, 885, 886, 864, 865] (by decide +kernel) (by decide +kernel)
set_option maxRecDepth 20000 in
theorem gL_law_X11_count : GoodIn wsL_law (wsV RL 98 RX11 yX11_count wsX11_count) := goodIn_app (goodIn_of _ (by decide +kernel)) ggL_law_X11_count
set_option maxRecDepth 20000 in
theorem ggL_law_X12_count : GoodIn wsL_law wsX12_count := goodIn_r _ [815, 172, 217, 256, 447, 713, 318, 824, 825, 826, 827, 828, 829, 830, 831, 832, 833, 834, 835, 836, 837, 838, 839, 840, 841, 842, 843, 844, 845, 846, 847, 848, 849, 850, 851, 852, 853, 854, 855, 856, 857, 858] (by decide +kernel) (by decide +kernel)
set_option maxRecDepth 20000 in
theorem gL_law_X12_count : GoodIn wsL_law (wsV RL 101 RX12 yX12_count wsX12_count) := goodIn_app (goodIn_of _ (by decide +kernel)) ggL_law_X12_count
