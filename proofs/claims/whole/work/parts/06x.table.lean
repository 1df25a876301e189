theorem nh_mem_r {big : List Cond} (ws : List Cond) (ps : List Nat) (hp : ws = ps.filterMap (fun i => big[i]?)) : ∀ w ∈ ws, w ∈ big := by
  intro w hw
  rw [hp] at hw
  obtain ⟨i, -, hi⟩ := List.mem_filterMap.mp hw
  exact List.mem_of_getElem? hi
theorem nh_mem_a {big a b : List Cond} (ha : ∀ w ∈ a, w ∈ big) (hb : ∀ w ∈ b, w ∈ big) : ∀ w ∈ a ++ b, w ∈ big := List.forall_mem_append.mpr ⟨ha, hb⟩
set_option maxRecDepth 20000 in
theorem nh_l0 : ∀ w ∈ nh_c0, w ∈ lw_tbl := nh_mem_r (big := lw_tbl) _ [223, 70, 680, 48, 71, 109, 123, 142, 171, 192, 206, 224, 56, 428, 425, 55, 553, 432, 419, 442, 113, 450, 350, 675, 546, 311, 406, 338, 291, 500] (by decide +kernel)
set_option maxRecDepth 20000 in
theorem nh_l1 : ∀ w ∈ nh_c1, w ∈ lw_tbl := nh_mem_r (big := lw_tbl) _ [626, 463, 585, 384, 379, 52, 666, 308, 459, 663, 654, 642, 468, 398, 528, 524, 581, 560, 492, 437, 488, 630, 422, 595, 446, 638, 393, 496, 287, 388] (by decide +kernel)
set_option maxRecDepth 20000 in
theorem nh_l2 : ∀ w ∈ nh_c2, w ∈ lw_tbl := nh_mem_r (big := lw_tbl) _ [279, 825, 1029, 940, 952, 874, 821, 798, 928, 932, 936, 960, 1001, 1017, 976, 882, 907, 985, 849, 817, 837, 841, 790, 684, 829, 894, 1025, 899, 1021, 1013] (by decide +kernel)
set_option maxRecDepth 20000 in
theorem nh_l3 : ∀ w ∈ nh_c3, w ∈ lw_tbl := nh_mem_r (big := lw_tbl) _ [903, 866, 870, 948, 964, 968, 912, 989, 845, 856, 878, 997, 944, 802, 806, 972, 956, 920, 886, 916, 1005, 810, 993, 980, 890, 1009, 861, 924, 794, 853] (by decide +kernel)
set_option maxRecDepth 20000 in
theorem nh_l4 : ∀ w ∈ nh_c4, w ∈ lw_tbl := nh_mem_r (big := lw_tbl) _ [833, 786, 302, 342, 402, 590, 414, 358, 323, 354, 75, 362, 331, 334, 319, 410, 454, 371, 375, 549, 539, 531, 534, 564, 571, 567, 175, 575, 127, 482] (by decide +kernel)
set_option maxRecDepth 20000 in
theorem nh_l5 : ∀ w ∈ nh_c5, w ∈ lw_tbl := nh_mem_r (big := lw_tbl) _ [475, 472, 634, 650, 646, 658, 210, 229, 679, 670, 283, 60, 295, 298, 327, 305, 315, 609, 605, 602, 622, 196, 599, 618, 615, 151, 367, 146, 511, 507] (by decide +kernel)
set_option maxRecDepth 20000 in
theorem nh_l6 : ∀ w ∈ nh_c6, w ∈ lw_tbl := nh_mem_r (big := lw_tbl) _ [504, 515, 554, 555, 556, 908, 1030, 813, 814, 862, 895, 981, 857, 787, 811, 812, 115, 92, 117, 94, 99, 77, 85, 232, 84, 213, 242, 93, 98, 130] (by decide +kernel)
set_option maxRecDepth 20000 in
theorem nh_l7 : ∀ w ∈ nh_c7, w ∈ lw_tbl := nh_mem_r (big := lw_tbl) _ [132, 134, 153, 155, 157, 243, 178, 180, 199, 244, 245, 246, 247, 248, 249, 250, 251, 252, 63, 116, 695, 700, 691, 703, 692, 707, 708, 709, 710, 714] (by decide +kernel)
set_option maxRecDepth 20000 in
theorem nh_l8 : ∀ w ∈ nh_c8, w ∈ lw_tbl := nh_mem_r (big := lw_tbl) _ [693, 694, 696, 697, 698, 699, 701, 702, 704, 705, 706, 711, 712, 713, 715, 716, 717, 687, 686, 690, 688, 689, 87, 82, 96, 182, 177, 181, 79, 88] (by decide +kernel)
set_option maxRecDepth 20000 in
theorem nh_l9 : ∀ w ∈ nh_c9, w ∈ lw_tbl := nh_mem_r (big := lw_tbl) _ [179, 131, 133, 81, 129, 215, 212, 214, 234, 86, 95, 231, 233, 64, 62, 78, 91, 97, 200, 83, 90, 198, 156, 158, 80, 89, 154, 159, 152, 45] (by decide +kernel)
set_option maxRecDepth 20000 in
theorem nh_l10 : ∀ w ∈ nh_c10, w ∈ lw_tbl := nh_mem_r (big := lw_tbl) _ [44, 47, 36, 35, 33, 43, 46, 39, 37, 41, 42, 34, 40, 38, 54, 431, 417, 440, 112, 448, 348, 673, 544, 404, 336, 289, 498, 624, 462, 583] (by decide +kernel)
set_option maxRecDepth 20000 in
theorem nh_l11 : ∀ w ∈ nh_c11, w ∈ lw_tbl := nh_mem_r (big := lw_tbl) _ [382, 377, 51, 457, 661, 652, 640, 466, 396, 526, 522, 579, 558, 490, 435, 486, 628, 593, 444, 636, 391, 494, 285, 386, 277, 823, 1027, 939, 950, 872] (by decide +kernel)
set_option maxRecDepth 20000 in
theorem nh_l12 : ∀ w ∈ nh_c12, w ∈ lw_tbl := nh_mem_r (big := lw_tbl) _ [819, 796, 926, 931, 935, 959, 999, 1016, 974, 881, 906, 984, 847, 836, 839, 683, 828, 892, 1023, 898, 1019, 1011, 901, 864, 869, 946, 963, 967, 911, 988] (by decide +kernel)
set_option maxRecDepth 20000 in
theorem nh_l13 : ∀ w ∈ nh_c13, w ∈ lw_tbl := nh_mem_r (big := lw_tbl) _ [844, 877, 996, 942, 801, 805, 970, 954, 918, 884, 914, 1003, 809, 992, 978, 888, 1007, 859, 922, 792, 851, 832, 784, 300, 340, 400, 588, 413, 356, 321] (by decide +kernel)
set_option maxRecDepth 20000 in
theorem nh_l14 : ∀ w ∈ nh_c14, w ∈ lw_tbl := nh_mem_r (big := lw_tbl) _ [352, 74, 360, 329, 317, 408, 452, 369, 373, 562, 570, 174, 126, 481, 470, 632, 649, 644, 656, 209, 228, 677, 668, 281, 59, 293, 620, 195, 597, 149] (by decide +kernel)
set_option maxRecDepth 20000 in
theorem nh_l15 : ∀ w ∈ nh_c15, w ∈ lw_tbl := nh_mem_r (big := lw_tbl) _ [365, 145, 510, 502, 514, 110, 72, 49, 681, 172, 124, 207, 226, 57, 193, 143, 525, 945, 543, 949, 557, 953, 578, 969, 582, 973, 682, 592, 977, 623] (by decide +kernel)
set_option maxRecDepth 20000 in
theorem nh_l16 : ∀ w ∈ nh_c16, w ∈ lw_tbl := nh_mem_r (big := lw_tbl) _ [998, 627, 1002, 635, 1006, 639, 1010, 651, 1018, 660, 1022, 672, 276, 1026, 783, 284, 791, 288, 795, 335, 818, 347, 822, 376, 838, 381, 846, 385, 850, 390] (by decide +kernel)
set_option maxRecDepth 20000 in
theorem nh_l17 : ∀ w ∈ nh_c17, w ∈ lw_tbl := nh_mem_r (big := lw_tbl) _ [858, 395, 863, 403, 871, 434, 883, 443, 887, 456, 891, 465, 900, 485, 913, 489, 917, 493, 50, 921, 497, 925, 521, 941, 429, 433, 114, 451, 455, 343] (by decide +kernel)
set_option maxRecDepth 20000 in
theorem nh_l18 : ∀ w ∈ nh_c18, w ∈ lw_tbl := nh_mem_r (big := lw_tbl) _ [76, 320, 332, 591, 411, 363, 359, 372, 351, 355, 364, 368, 380, 312, 389, 394, 399, 407, 416, 438, 439, 447, 460, 464, 469, 501, 529, 547, 561, 586] (by decide +kernel)
set_option maxRecDepth 20000 in
theorem nh_l19 : ∀ w ∈ nh_c19, w ∈ lw_tbl := nh_mem_r (big := lw_tbl) _ [587, 596, 619, 631, 643, 655, 664, 667, 676, 423, 426, 53, 144, 280, 292, 339, 346, 685, 815, 803, 799, 826, 830, 834, 842, 854, 867, 875, 879, 896] (by decide +kernel)
set_option maxRecDepth 20000 in
theorem nh_l20 : ∀ w ∈ nh_c20, w ∈ lw_tbl := nh_mem_r (big := lw_tbl) _ [909, 904, 937, 933, 929, 961, 965, 957, 990, 986, 994, 982, 1014, 788, 807, 537, 536, 540, 541, 542, 550, 551, 532, 565, 176, 568, 573, 577, 576, 572] (by decide +kernel)
set_option maxRecDepth 20000 in
theorem nh_l21 : ∀ w ∈ nh_c21, w ∈ lw_tbl := nh_mem_r (big := lw_tbl) _ [473, 128, 476, 477, 478, 479, 483, 484, 647, 659, 211, 671, 230, 296, 299, 303, 313, 325, 61, 316, 328, 600, 616, 197, 603, 606, 607, 611, 612, 613] (by decide +kernel)
set_option maxRecDepth 20000 in
theorem nh_l22 : ∀ w ∈ nh_c22, w ∈ lw_tbl := nh_mem_r (big := lw_tbl) _ [610, 148, 147, 505, 508, 512, 517, 519, 520, 516, 345, 1, 418, 441, 449, 301, 341, 401, 589, 0, 357, 322, 353, 361, 330, 318, 409, 453, 370, 374] (by decide +kernel)
set_option maxRecDepth 20000 in
theorem nh_l23 : ∀ w ∈ nh_c23, w ∈ lw_tbl := nh_mem_r (big := lw_tbl) _ [349, 674, 545, 405, 337, 290, 499, 625, 2, 584, 383, 378, 458, 662, 653, 641, 467, 397, 527, 523, 580, 559, 491, 436, 487, 629, 594, 445, 637, 392] (by decide +kernel)
set_option maxRecDepth 20000 in
theorem nh_l24 : ∀ w ∈ nh_c24, w ∈ lw_tbl := nh_mem_r (big := lw_tbl) _ [495, 286, 387, 278, 824, 1028, 23, 951, 873, 820, 797, 927, 21, 22, 24, 1000, 31, 975, 17, 19, 27, 848, 13, 840, 11, 893, 1024, 18, 1020, 1012] (by decide +kernel)
set_option maxRecDepth 20000 in
theorem nh_l25 : ∀ w ∈ nh_c25, w ∈ lw_tbl := nh_mem_r (big := lw_tbl) _ [902, 865, 15, 947, 25, 26, 20, 28, 14, 16, 30, 943, 8, 9, 971, 955, 919, 885, 915, 1004, 10, 29, 979, 889, 1008, 860, 923, 793, 852, 12] (by decide +kernel)
set_option maxRecDepth 20000 in
theorem nh_l26 : ∀ w ∈ nh_c26, w ∈ lw_tbl := nh_mem_r (big := lw_tbl) _ [785, 563, 6, 3, 471, 633, 7, 645, 657, 678, 669, 282, 294, 621, 598, 150, 366, 4, 503, 5, 427, 424, 344, 552, 310, 665, 307, 421, 816, 789] (by decide +kernel)
set_option maxRecDepth 20000 in
theorem nh_l27 : ∀ w ∈ nh_c27, w ∈ lw_tbl := nh_mem_r (big := lw_tbl) _ [855, 333, 548, 538, 530, 533, 566, 574, 474, 297, 326, 304, 314, 608, 604, 601, 617, 614, 506] (by decide +kernel)
set_option maxRecDepth 20000 in
theorem nh_lX0 : ∀ w ∈ u_ws RX0 TX0 2, w ∈ lw_tbl := nh_mem_r (big := lw_tbl) _ [118, 120] (by decide +kernel)
set_option maxRecDepth 20000 in
theorem nh_lX1 : ∀ w ∈ u_ws RX1 TX1 4, w ∈ lw_tbl := nh_mem_r (big := lw_tbl) _ [100, 102, 104, 106] (by decide +kernel)
set_option maxRecDepth 20000 in
theorem nh_lX3 : ∀ w ∈ u_ws RX3 TX3 4, w ∈ lw_tbl := nh_mem_r (big := lw_tbl) _ [183, 185, 187, 189] (by decide +kernel)
set_option maxRecDepth 20000 in
theorem nh_lX4 : ∀ w ∈ u_ws RX4 TX4 3, w ∈ lw_tbl := nh_mem_r (big := lw_tbl) _ [135, 137, 139] (by decide +kernel)
set_option maxRecDepth 20000 in
theorem nh_lX5 : ∀ w ∈ u_ws RX5 TX5 3, w ∈ lw_tbl := nh_mem_r (big := lw_tbl) _ [216, 218, 220] (by decide +kernel)
set_option maxRecDepth 20000 in
theorem nh_lX6 : ∀ w ∈ u_ws RX6 TX6 3, w ∈ lw_tbl := nh_mem_r (big := lw_tbl) _ [235, 237, 239] (by decide +kernel)
set_option maxRecDepth 20000 in
theorem nh_lX7 : ∀ w ∈ u_ws RX7 TX7 2, w ∈ lw_tbl := nh_mem_r (big := lw_tbl) _ [65, 67] (by decide +kernel)
set_option maxRecDepth 20000 in
theorem nh_lX8 : ∀ w ∈ u_ws RX8 TX8 2, w ∈ lw_tbl := nh_mem_r (big := lw_tbl) _ [201, 203] (by decide +kernel)
set_option maxRecDepth 20000 in
theorem nh_lX9 : ∀ w ∈ u_ws RX9 TX9 5, w ∈ lw_tbl := nh_mem_r (big := lw_tbl) _ [160, 162, 164, 166, 168] (by decide +kernel)
set_option maxRecDepth 20000 in
theorem nh_lX10 : ∀ w ∈ u_ws RX10 TX10 11, w ∈ lw_tbl := nh_mem_r (big := lw_tbl) _ [253, 255, 257, 259, 261, 263, 265, 267, 269, 271, 273] (by decide +kernel)
set_option maxRecDepth 20000 in
theorem nh_lX11 : ∀ w ∈ u_ws RX11 TX11 32, w ∈ lw_tbl := nh_mem_r (big := lw_tbl) _ [718, 720, 722, 724, 726, 728, 730, 732, 734, 736, 738, 740, 742, 744, 746, 748, 750, 752, 754, 756, 758, 760, 762, 764, 766, 768, 770, 772, 774, 776, 778, 780] (by decide +kernel)
theorem nh_words_in : ∀ w ∈ nh_words, w ∈ lw_tbl := (nh_mem_a nh_l0 (nh_mem_a nh_l1 (nh_mem_a nh_l2 (nh_mem_a nh_l3 (nh_mem_a nh_l4 (nh_mem_a nh_l5 (nh_mem_a nh_l6 (nh_mem_a nh_l7 (nh_mem_a nh_l8 (nh_mem_a nh_l9 (nh_mem_a nh_l10 (nh_mem_a nh_l11 (nh_mem_a nh_l12 (nh_mem_a nh_l13 (nh_mem_a nh_l14 (nh_mem_a nh_l15 (nh_mem_a nh_l16 (nh_mem_a nh_l17 (nh_mem_a nh_l18 (nh_mem_a nh_l19 (nh_mem_a nh_l20 (nh_mem_a nh_l21 (nh_mem_a nh_l22 (nh_mem_a nh_l23 (nh_mem_a nh_l24 (nh_mem_a nh_l25 (nh_mem_a nh_l26 (nh_mem_a nh_l27 (nh_mem_a nh_lX0 (nh_mem_a nh_lX1 (nh_mem_a nh_lX3 (nh_mem_a nh_lX4 (nh_mem_a nh_lX5 (nh_mem_a nh_lX6 (nh_mem_a nh_lX7 (nh_mem_a nh_lX8 (nh_mem_a nh_lX9 (nh_mem_a nh_lX10 (nh_mem_a nh_lX11 (fun _ h => absurd h List.not_mem_nil))))))))))))))))))))))))))))))))))))))))
