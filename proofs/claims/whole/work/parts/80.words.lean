theorem pos_in {big ws : List Cond} (ps : List Nat) (hp : ws = ps.filterMap (fun i => big[i]?)) : ∀ w ∈ ws, w ∈ big := by
  intro w hw
  rw [hp] at hw
  obtain ⟨i, -, hi⟩ := List.mem_filterMap.mp hw
  exact List.mem_of_getElem? hi
set_option maxRecDepth 20000 in
theorem wl_r1 : ∀ w ∈ wsL_law_r1, w ∈ lw_tbl := pos_in [70, 71, 60, 673, 674, 67, 72, 73, 74, 75, 76, 77, 78, 79, 61, 141, 142, 63, 265, 211, 212, 65, 266, 267] (by decide +kernel)
set_option maxRecDepth 20000 in
theorem wl_r2 : ∀ w ∈ wsL_law_r2, w ∈ lw_tbl := pos_in [231, 232, 66, 268, 80, 81, 82, 83, 140, 118, 119, 120, 121, 122, 110, 113, 116, 84, 86, 0, 87, 88, 90, 1] (by decide +kernel)
set_option maxRecDepth 20000 in
theorem wl_r3 : ∀ w ∈ wsL_law_r3, w ∈ lw_tbl := pos_in [91, 92, 94, 2, 95, 96, 97, 98, 99, 104, 105, 62, 106, 107, 108, 109, 100, 101, 102, 103, 143, 144, 145, 146] (by decide +kernel)
set_option maxRecDepth 20000 in
theorem wl_r4 : ∀ w ∈ wsL_law_r4, w ∈ lw_tbl := pos_in [160, 176, 177, 178, 179, 147, 148, 149, 150, 154, 162, 164, 166, 168, 170, 172, 174, 151, 152, 64, 153, 213, 214, 215] (by decide +kernel)
set_option maxRecDepth 20000 in
theorem wl_r5 : ∀ w ∈ wsL_law_r5, w ∈ lw_tbl := pos_in [216, 217, 223, 219, 234, 235, 236, 243, 245, 247, 249, 675, 676, 677, 678, 679, 680, 682, 713, 683, 714, 684, 687, 278] (by decide +kernel)
set_option maxRecDepth 20000 in
theorem wl_r6 : ∀ w ∈ wsL_law_r6, w ∈ lw_tbl := pos_in [279, 280, 281, 155, 114, 282, 283, 284, 285, 286, 287, 288, 222, 220, 301, 302, 303, 289, 291, 3, 292, 294, 295, 296] (by decide +kernel)
set_option maxRecDepth 20000 in
theorem wl_r7 : ∀ w ∈ wsL_law_r7, w ∈ lw_tbl := pos_in [297, 156, 158, 298, 300, 299, 68, 304, 857, 858, 859, 860, 723, 724, 725, 769, 771, 32, 772, 681, 785, 787, 36, 788] (by decide +kernel)
set_option maxRecDepth 20000 in
theorem wl_r8 : ∀ w ∈ wsL_law_r8, w ∈ lw_tbl := pos_in [789, 791, 37, 792, 305, 306, 307, 308, 157, 861, 862, 863, 864, 865, 867, 52, 868, 309, 310, 311, 312, 159, 869, 870] (by decide +kernel)
set_option maxRecDepth 20000 in
theorem wl_r9 : ∀ w ∈ wsL_law_r9, w ∈ lw_tbl := pos_in [871, 872, 313, 314, 315, 316, 161, 317, 318, 319, 320, 321, 323, 4, 324, 325, 326, 327, 328, 329, 330, 331, 332, 333] (by decide +kernel)
set_option maxRecDepth 20000 in
theorem wl_r10 : ∀ w ∈ wsL_law_r10, w ∈ lw_tbl := pos_in [334, 335, 336, 337, 338, 339, 340, 341, 342, 343, 344, 345, 346, 347, 348, 350, 351, 352, 353, 354, 355, 356, 357, 358] (by decide +kernel)
set_option maxRecDepth 20000 in
theorem wl_r11 : ∀ w ∈ wsL_law_r11, w ∈ lw_tbl := pos_in [359, 115, 360, 361, 362, 363, 364, 365, 366, 367, 368, 369, 370, 371, 372, 374, 376, 5, 377, 378, 380, 6, 381, 382] (by decide +kernel)
set_option maxRecDepth 20000 in
theorem wl_r12 : ∀ w ∈ wsL_law_r12, w ∈ lw_tbl := pos_in [383, 385, 7, 386, 873, 874, 875, 876, 841, 843, 50, 844, 825, 827, 46, 828, 793, 795, 38, 796, 797, 799, 39, 800] (by decide +kernel)
set_option maxRecDepth 20000 in
theorem wl_r13 : ∀ w ∈ wsL_law_r13, w ∈ lw_tbl := pos_in [781, 783, 35, 784, 801, 803, 40, 804, 805, 807, 41, 808, 809, 811, 42, 812, 746, 748, 27, 749, 754, 756, 29, 757] (by decide +kernel)
set_option maxRecDepth 20000 in
theorem wl_r14 : ∀ w ∈ wsL_law_r14, w ∈ lw_tbl := pos_in [758, 759, 760, 817, 819, 44, 820, 388, 389, 390, 391, 111, 877, 878, 879, 880, 392, 393, 394, 395, 881, 882, 883, 884] (by decide +kernel)
set_option maxRecDepth 20000 in
theorem wl_r15 : ∀ w ∈ wsL_law_r15, w ∈ lw_tbl := pos_in [396, 397, 398, 399, 400, 402, 8, 403, 404, 405, 406, 407, 408, 885, 886, 887, 888, 742, 744, 26, 745, 409, 410, 411] (by decide +kernel)
set_option maxRecDepth 20000 in
theorem wl_r16 : ∀ w ∈ wsL_law_r16, w ∈ lw_tbl := pos_in [412, 413, 889, 890, 891, 892, 414, 415, 416, 417, 418, 419, 420, 421, 422, 424, 9, 425, 426, 427, 428, 429, 430, 431] (by decide +kernel)
set_option maxRecDepth 20000 in
theorem wl_r17 : ∀ w ∈ wsL_law_r17, w ∈ lw_tbl := pos_in [432, 433, 434, 436, 10, 437, 112, 438, 439, 440, 69, 441, 442, 443, 444, 445, 447, 11, 448, 449, 450, 452, 12, 453] (by decide +kernel)
set_option maxRecDepth 20000 in
theorem wl_r18 : ∀ w ∈ wsL_law_r18, w ∈ lw_tbl := pos_in [454, 456, 13, 457, 117, 459, 460, 461, 463, 14, 464, 734, 735, 736, 737, 738, 740, 25, 741, 726, 728, 24, 729, 750] (by decide +kernel)
set_option maxRecDepth 20000 in
theorem wl_r19 : ∀ w ∈ wsL_law_r19, w ∈ lw_tbl := pos_in [752, 28, 753, 761, 763, 30, 764, 765, 767, 31, 768, 773, 775, 33, 776, 777, 779, 34, 780, 686, 813, 815, 43, 816] (by decide +kernel)
set_option maxRecDepth 20000 in
theorem wl_r20 : ∀ w ∈ wsL_law_r20, w ∈ lw_tbl := pos_in [821, 823, 45, 824, 829, 831, 47, 832, 833, 835, 48, 836, 837, 839, 49, 840, 845, 847, 51, 848, 465, 466, 467, 468] (by decide +kernel)
set_option maxRecDepth 20000 in
theorem wl_r21 : ∀ w ∈ wsL_law_r21, w ∈ lw_tbl := pos_in [469, 470, 471, 472, 473, 474, 849, 850, 851, 852, 475, 476, 477, 478, 479, 480, 481, 482, 483, 484, 485, 486, 853, 854] (by decide +kernel)
set_option maxRecDepth 20000 in
theorem wl_r22 : ∀ w ∈ wsL_law_r22, w ∈ lw_tbl := pos_in [855, 856, 487, 488, 489, 490, 491, 893, 894, 895, 896, 492, 493, 494, 495, 496, 897, 898, 899, 900, 497, 498, 499, 500] (by decide +kernel)
set_option maxRecDepth 20000 in
theorem wl_r23 : ∀ w ∈ wsL_law_r23, w ∈ lw_tbl := pos_in [501, 502, 901, 902, 903, 904, 503, 504, 505, 506, 507, 508, 509, 510, 905, 906, 907, 908, 511, 512, 513, 514, 515, 517] (by decide +kernel)
set_option maxRecDepth 20000 in
theorem wl_r24 : ∀ w ∈ wsL_law_r24, w ∈ lw_tbl := pos_in [15, 518, 519, 520, 909, 910, 911, 912, 913, 915, 53, 916, 521, 522, 523, 524, 525, 526, 527, 528, 917, 918, 919, 920] (by decide +kernel)
set_option maxRecDepth 20000 in
theorem wl_r25 : ∀ w ∈ wsL_law_r25, w ∈ lw_tbl := pos_in [529, 530, 531, 532, 533, 921, 922, 923, 924, 534, 535, 536, 537, 538, 539, 925, 926, 927, 928, 540, 541, 542, 543, 544] (by decide +kernel)
set_option maxRecDepth 20000 in
theorem wl_r26 : ∀ w ∈ wsL_law_r26, w ∈ lw_tbl := pos_in [929, 930, 931, 932, 545, 546, 547, 548, 549, 933, 934, 935, 936, 550, 551, 552, 553, 554, 937, 938, 939, 940, 555, 556] (by decide +kernel)
set_option maxRecDepth 20000 in
theorem wl_r27 : ∀ w ∈ wsL_law_r27, w ∈ lw_tbl := pos_in [557, 558, 559, 560, 561, 562, 941, 942, 943, 944, 563, 564, 565, 566, 945, 946, 947, 948, 567, 568, 569, 570, 571, 572] (by decide +kernel)
set_option maxRecDepth 20000 in
theorem wl_r28 : ∀ w ∈ wsL_law_r28, w ∈ lw_tbl := pos_in [573, 574, 949, 950, 951, 952, 575, 576, 577, 578, 163, 953, 954, 955, 956, 579, 580, 581, 582, 165, 957, 958, 959, 960] (by decide +kernel)
set_option maxRecDepth 20000 in
theorem wl_r29 : ∀ w ∈ wsL_law_r29, w ∈ lw_tbl := pos_in [583, 584, 585, 586, 167, 961, 962, 963, 964, 587, 588, 589, 590, 169, 965, 966, 967, 968, 591, 592, 593, 594, 171, 969] (by decide +kernel)
set_option maxRecDepth 20000 in
theorem wl_r30 : ∀ w ∈ wsL_law_r30, w ∈ lw_tbl := pos_in [970, 971, 972, 595, 596, 597, 598, 173, 973, 974, 975, 976, 599, 600, 601, 602, 175, 977, 978, 979, 980, 603, 604, 605] (by decide +kernel)
set_option maxRecDepth 20000 in
theorem wl_r31 : ∀ w ∈ wsL_law_r31, w ∈ lw_tbl := pos_in [606, 238, 607, 608, 609, 610, 237, 981, 982, 983, 984, 685, 612, 613, 614, 615, 985, 986, 987, 988, 616, 617, 618, 619] (by decide +kernel)
set_option maxRecDepth 20000 in
theorem wl_r32 : ∀ w ∈ wsL_law_r32, w ∈ lw_tbl := pos_in [240, 242, 244, 246, 248, 620, 621, 622, 623, 239, 241, 624, 626, 16, 627, 628, 630, 17, 631, 632, 634, 18, 635, 636] (by decide +kernel)
set_option maxRecDepth 20000 in
theorem wl_r33 : ∀ w ∈ wsL_law_r33, w ∈ lw_tbl := pos_in [638, 19, 639, 640, 642, 20, 643, 644, 646, 21, 647, 648, 650, 22, 651, 652, 654, 23, 655, 989, 990, 991, 992, 689] (by decide +kernel)
set_option maxRecDepth 20000 in
theorem wl_r34 : ∀ w ∈ wsL_law_r34, w ∈ lw_tbl := pos_in [688, 993, 995, 54, 996, 997, 999, 55, 1000, 1001, 1003, 56, 1004, 1005, 1007, 57, 1008, 1009, 1011, 58, 1012, 656, 657, 658] (by decide +kernel)
set_option maxRecDepth 20000 in
theorem wl_r35 : ∀ w ∈ wsL_law_r35, w ∈ lw_tbl := pos_in [659, 221, 660, 661, 662, 663, 715, 716, 717, 718, 664, 665, 666, 667, 668, 719, 720, 721, 722, 669, 670, 671, 672, 730] (by decide +kernel)
set_option maxRecDepth 20000 in
theorem wl_r36 : ∀ w ∈ wsL_law_r36, w ∈ lw_tbl := pos_in [731, 732, 733] (by decide +kernel)
set_option maxRecDepth 20000 in
theorem wl_X4 : ∀ w ∈ wsX40, w ∈ lw_tbl := pos_in [269, 271, 273, 275] (by decide +kernel)
set_option maxRecDepth 20000 in
theorem wl_X5 : ∀ w ∈ wsX50, w ∈ lw_tbl := pos_in [690, 692, 694, 696, 698, 700, 702, 704, 706, 708, 710] (by decide +kernel)
set_option maxRecDepth 20000 in
theorem wl_X1 : ∀ w ∈ wsX10, w ∈ lw_tbl := pos_in [123, 125, 127, 129, 131, 133, 135, 137] (by decide +kernel)
set_option maxRecDepth 20000 in
theorem wl_X2 : ∀ w ∈ wsX20, w ∈ lw_tbl := pos_in [180, 182, 184, 186, 188, 190, 192, 194, 196, 198, 200, 202, 204, 206, 208] (by decide +kernel)
set_option maxRecDepth 20000 in
theorem wl_X0 : ∀ w ∈ wsX00, w ∈ lw_tbl := pos_in [224, 226, 228] (by decide +kernel)
set_option maxRecDepth 20000 in
theorem wl_X3 : ∀ w ∈ wsX30, w ∈ lw_tbl := pos_in [250, 252, 254, 256, 258, 260, 262] (by decide +kernel)
set_option maxRecDepth 20000 in
theorem wl_nw : ∀ w ∈ nw_l, w ∈ lw_tbl := pos_in [233, 293, 349, 373, 387, 458, 611] (by decide +kernel)
theorem wl_ao : Cond.arrayOver (.object "ChannelBorrower$Network") ∈ lw_tbl := List.mem_of_getElem? (i := 218) (by decide +kernel)
theorem wsL_law_in : ∀ w ∈ wsL_law, w ∈ lw_tbl := by
  unfold wsL_law
  exact List.forall_mem_append.mpr ⟨List.forall_mem_append.mpr ⟨List.forall_mem_append.mpr ⟨List.forall_mem_append.mpr ⟨List.forall_mem_append.mpr ⟨List.forall_mem_append.mpr ⟨List.forall_mem_append.mpr ⟨List.forall_mem_append.mpr ⟨wl_r1, List.forall_mem_append.mpr ⟨wl_r2, List.forall_mem_append.mpr ⟨wl_r3, List.forall_mem_append.mpr ⟨wl_r4, List.forall_mem_append.mpr ⟨wl_r5, List.forall_mem_append.mpr ⟨wl_r6, List.forall_mem_append.mpr ⟨wl_r7, List.forall_mem_append.mpr ⟨wl_r8, List.forall_mem_append.mpr ⟨wl_r9, List.forall_mem_append.mpr ⟨wl_r10, List.forall_mem_append.mpr ⟨wl_r11, List.forall_mem_append.mpr ⟨wl_r12, List.forall_mem_append.mpr ⟨wl_r13, List.forall_mem_append.mpr ⟨wl_r14, List.forall_mem_append.mpr ⟨wl_r15, List.forall_mem_append.mpr ⟨wl_r16, List.forall_mem_append.mpr ⟨wl_r17, List.forall_mem_append.mpr ⟨wl_r18, List.forall_mem_append.mpr ⟨wl_r19, List.forall_mem_append.mpr ⟨wl_r20, List.forall_mem_append.mpr ⟨wl_r21, List.forall_mem_append.mpr ⟨wl_r22, List.forall_mem_append.mpr ⟨wl_r23, List.forall_mem_append.mpr ⟨wl_r24, List.forall_mem_append.mpr ⟨wl_r25, List.forall_mem_append.mpr ⟨wl_r26, List.forall_mem_append.mpr ⟨wl_r27, List.forall_mem_append.mpr ⟨wl_r28, List.forall_mem_append.mpr ⟨wl_r29, List.forall_mem_append.mpr ⟨wl_r30, List.forall_mem_append.mpr ⟨wl_r31, List.forall_mem_append.mpr ⟨wl_r32, List.forall_mem_append.mpr ⟨wl_r33, List.forall_mem_append.mpr ⟨wl_r34, List.forall_mem_append.mpr ⟨wl_r35, wl_r36⟩⟩⟩⟩⟩⟩⟩⟩⟩⟩⟩⟩⟩⟩⟩⟩⟩⟩⟩⟩⟩⟩⟩⟩⟩⟩⟩⟩⟩⟩⟩⟩⟩⟩⟩, wl_X4⟩, wl_X5⟩, wl_X1⟩, wl_X2⟩, wl_X0⟩, wl_X3⟩, fun _ h => absurd h List.not_mem_nil⟩
theorem inX0 : ∀ w ∈ wsX00, w ∈ lw_tbl := fun w h => wsL_law_in w (inlX0 w h)
theorem inX1 : ∀ w ∈ wsX10, w ∈ lw_tbl := fun w h => wsL_law_in w (inlX1 w h)
theorem inX2 : ∀ w ∈ wsX20, w ∈ lw_tbl := fun w h => wsL_law_in w (inlX2 w h)
theorem inX3 : ∀ w ∈ wsX30, w ∈ lw_tbl := fun w h => wsL_law_in w (inlX3 w h)
theorem inX4 : ∀ w ∈ wsX40, w ∈ lw_tbl := fun w h => wsL_law_in w (inlX4 w h)
theorem inX5 : ∀ w ∈ wsX50, w ∈ lw_tbl := fun w h => wsL_law_in w (inlX5 w h)
