theorem pos_in {big ws : List Cond} (ps : List Nat) (hp : ws = ps.filterMap (fun i => big[i]?)) : ∀ w ∈ ws, w ∈ big := by
  intro w hw
  rw [hp] at hw
  obtain ⟨i, -, hi⟩ := List.mem_filterMap.mp hw
  exact List.mem_of_getElem? hi
set_option maxRecDepth 20000 in
theorem wl_r1 : ∀ w ∈ wsL_law_r1, w ∈ lw_tbl := pos_in [26, 27, 17, 28, 29, 30, 31, 32, 33, 34, 35, 18, 97, 98, 20, 212, 167, 168, 22, 213, 214, 187, 188, 23] (by decide +kernel)
set_option maxRecDepth 20000 in
theorem wl_r2 : ∀ w ∈ wsL_law_r2, w ∈ lw_tbl := pos_in [215, 36, 37, 38, 39, 96, 74, 75, 76, 77, 78, 66, 69, 72, 40, 42, 0, 43, 44, 46, 1, 47, 48, 50] (by decide +kernel)
set_option maxRecDepth 20000 in
theorem wl_r3 : ∀ w ∈ wsL_law_r3, w ∈ lw_tbl := pos_in [2, 51, 52, 53, 54, 55, 60, 61, 19, 62, 63, 64, 65, 56, 57, 58, 59, 99, 100, 101, 102, 116, 132, 133] (by decide +kernel)
set_option maxRecDepth 20000 in
theorem wl_r4 : ∀ w ∈ wsL_law_r4, w ∈ lw_tbl := pos_in [134, 135, 103, 104, 105, 106, 110, 118, 120, 122, 124, 126, 128, 130, 107, 108, 21, 109, 169, 170, 171, 172, 173, 179] (by decide +kernel)
set_option maxRecDepth 20000 in
theorem wl_r5 : ∀ w ∈ wsL_law_r5, w ∈ lw_tbl := pos_in [175, 190, 191, 192, 193, 194, 195, 196, 340, 341, 342, 343, 177, 344, 345, 346, 347, 176, 178, 236, 238, 3, 239, 230] (by decide +kernel)
set_option maxRecDepth 20000 in
theorem wl_r6 : ∀ w ∈ wsL_law_r6, w ∈ lw_tbl := pos_in [231, 241, 242, 243, 244, 112, 114, 245, 247, 246, 24, 353, 354, 355, 356, 229, 352, 336, 337, 338, 339, 268, 257, 258] (by decide +kernel)
set_option maxRecDepth 20000 in
theorem wl_r7 : ∀ w ∈ wsL_law_r7, w ∈ lw_tbl := pos_in [259, 252, 253, 254, 255, 256, 232, 233, 234, 235, 248, 249, 250, 260, 261, 262, 263, 264, 265, 266, 267, 269, 271, 4] (by decide +kernel)
set_option maxRecDepth 20000 in
theorem wl_r8 : ∀ w ∈ wsL_law_r8, w ∈ lw_tbl := pos_in [272, 273, 274, 275, 276, 277, 278, 280, 5, 281, 282, 283, 284, 285, 286, 287, 288, 289, 290, 291, 292, 293, 294, 295] (by decide +kernel)
set_option maxRecDepth 20000 in
theorem wl_r9 : ∀ w ∈ wsL_law_r9, w ∈ lw_tbl := pos_in [296, 297, 299, 300, 301, 302, 303, 304, 305, 306, 307, 308, 71, 309, 310, 311, 312, 313, 314, 315, 316, 317, 318, 319] (by decide +kernel)
set_option maxRecDepth 20000 in
theorem wl_r10 : ∀ w ∈ wsL_law_r10, w ∈ lw_tbl := pos_in [320, 321, 323, 325, 6, 326, 327, 329, 7, 330, 357, 358, 16, 359, 360, 361, 362, 367, 372, 377, 382, 387, 404, 410] (by decide +kernel)
set_option maxRecDepth 20000 in
theorem wl_r11 : ∀ w ∈ wsL_law_r11, w ∈ lw_tbl := pos_in [427, 489, 363, 364, 365, 366, 111, 67, 368, 369, 370, 371, 70, 332, 333, 334, 335, 373, 374, 375, 376, 119, 378, 379] (by decide +kernel)
set_option maxRecDepth 20000 in
theorem wl_r12 : ∀ w ∈ wsL_law_r12, w ∈ lw_tbl := pos_in [380, 381, 121, 383, 384, 385, 386, 123, 388, 389, 390, 391, 125, 392, 393, 394, 395, 127, 396, 397, 398, 399, 129, 400] (by decide +kernel)
set_option maxRecDepth 20000 in
theorem wl_r13 : ∀ w ∈ wsL_law_r13, w ∈ lw_tbl := pos_in [401, 402, 403, 131, 405, 406, 407, 408, 409, 411, 412, 413, 414, 415, 416, 417, 418, 419, 420, 421, 422, 423, 424, 425] (by decide +kernel)
set_option maxRecDepth 20000 in
theorem wl_r14 : ∀ w ∈ wsL_law_r14, w ∈ lw_tbl := pos_in [426, 428, 429, 430, 431, 432, 434, 8, 435, 436, 437, 438, 439, 440, 441, 443, 9, 444, 68, 445, 446, 447, 25, 448] (by decide +kernel)
set_option maxRecDepth 20000 in
theorem wl_r15 : ∀ w ∈ wsL_law_r15, w ∈ lw_tbl := pos_in [449, 450, 451, 452, 454, 10, 455, 456, 457, 458, 459, 460, 462, 11, 463, 464, 465, 466, 467, 468, 469, 470, 471, 472] (by decide +kernel)
set_option maxRecDepth 20000 in
theorem wl_r16 : ∀ w ∈ wsL_law_r16, w ∈ lw_tbl := pos_in [473, 474, 475, 476, 477, 478, 479, 480, 481, 482, 483, 484, 485, 486, 487, 488, 490, 491, 492, 493, 494, 495, 496, 225] (by decide +kernel)
set_option maxRecDepth 20000 in
theorem wl_r17 : ∀ w ∈ wsL_law_r17, w ∈ lw_tbl := pos_in [226, 227, 228, 251, 497, 498, 499, 500, 113, 501, 502, 503, 504, 115, 505, 506, 507, 508, 117, 509, 510, 511, 512, 513] (by decide +kernel)
set_option maxRecDepth 20000 in
theorem wl_r18 : ∀ w ∈ wsL_law_r18, w ∈ lw_tbl := pos_in [514, 515, 516, 517, 518, 519, 520, 521, 522, 524, 12, 525, 73, 526, 527, 529, 13, 530, 531, 532, 533, 534, 535, 536] (by decide +kernel)
set_option maxRecDepth 20000 in
theorem wl_r19 : ∀ w ∈ wsL_law_r19, w ∈ lw_tbl := pos_in [537, 538, 539, 541, 14, 542, 543, 544, 545, 546, 548, 549, 550, 551, 552, 553, 554, 555, 556, 557, 558, 559, 560, 561] (by decide +kernel)
set_option maxRecDepth 20000 in
theorem wl_r20 : ∀ w ∈ wsL_law_r20, w ∈ lw_tbl := pos_in [562, 563, 564, 565, 567, 15, 568, 569, 570, 571, 572, 573, 348, 349, 350, 351] (by decide +kernel)
set_option maxRecDepth 20000 in
theorem wl_X4 : ∀ w ∈ wsX40, w ∈ lw_tbl := pos_in [216, 218, 220, 222] (by decide +kernel)
set_option maxRecDepth 20000 in
theorem wl_X1 : ∀ w ∈ wsX10, w ∈ lw_tbl := pos_in [79, 81, 83, 85, 87, 89, 91, 93] (by decide +kernel)
set_option maxRecDepth 20000 in
theorem wl_X2 : ∀ w ∈ wsX20, w ∈ lw_tbl := pos_in [136, 138, 140, 142, 144, 146, 148, 150, 152, 154, 156, 158, 160, 162, 164] (by decide +kernel)
set_option maxRecDepth 20000 in
theorem wl_X0 : ∀ w ∈ wsX00, w ∈ lw_tbl := pos_in [180, 182, 184] (by decide +kernel)
set_option maxRecDepth 20000 in
theorem wl_X3 : ∀ w ∈ wsX30, w ∈ lw_tbl := pos_in [197, 199, 201, 203, 205, 207, 209] (by decide +kernel)
set_option maxRecDepth 20000 in
theorem wl_nw : ∀ w ∈ nw_l, w ∈ lw_tbl := pos_in [189, 240, 298, 322, 331, 547] (by decide +kernel)
theorem wl_ao : Cond.arrayOver (.object "ChannelBorrower$Network") ∈ lw_tbl := List.mem_of_getElem? (i := 174) (by decide +kernel)
theorem wsL_law_in : ∀ w ∈ wsL_law, w ∈ lw_tbl := by
  unfold wsL_law
  exact List.forall_mem_append.mpr ⟨List.forall_mem_append.mpr ⟨List.forall_mem_append.mpr ⟨List.forall_mem_append.mpr ⟨List.forall_mem_append.mpr ⟨List.forall_mem_append.mpr ⟨List.forall_mem_append.mpr ⟨wl_r1, List.forall_mem_append.mpr ⟨wl_r2, List.forall_mem_append.mpr ⟨wl_r3, List.forall_mem_append.mpr ⟨wl_r4, List.forall_mem_append.mpr ⟨wl_r5, List.forall_mem_append.mpr ⟨wl_r6, List.forall_mem_append.mpr ⟨wl_r7, List.forall_mem_append.mpr ⟨wl_r8, List.forall_mem_append.mpr ⟨wl_r9, List.forall_mem_append.mpr ⟨wl_r10, List.forall_mem_append.mpr ⟨wl_r11, List.forall_mem_append.mpr ⟨wl_r12, List.forall_mem_append.mpr ⟨wl_r13, List.forall_mem_append.mpr ⟨wl_r14, List.forall_mem_append.mpr ⟨wl_r15, List.forall_mem_append.mpr ⟨wl_r16, List.forall_mem_append.mpr ⟨wl_r17, List.forall_mem_append.mpr ⟨wl_r18, List.forall_mem_append.mpr ⟨wl_r19, wl_r20⟩⟩⟩⟩⟩⟩⟩⟩⟩⟩⟩⟩⟩⟩⟩⟩⟩⟩⟩, wl_X4⟩, wl_X1⟩, wl_X2⟩, wl_X0⟩, wl_X3⟩, fun _ h => absurd h List.not_mem_nil⟩
theorem inX0 : ∀ w ∈ wsX00, w ∈ lw_tbl := fun w h => wsL_law_in w (inlX0 w h)
theorem inX1 : ∀ w ∈ wsX10, w ∈ lw_tbl := fun w h => wsL_law_in w (inlX1 w h)
theorem inX2 : ∀ w ∈ wsX20, w ∈ lw_tbl := fun w h => wsL_law_in w (inlX2 w h)
theorem inX3 : ∀ w ∈ wsX30, w ∈ lw_tbl := fun w h => wsL_law_in w (inlX3 w h)
theorem inX4 : ∀ w ∈ wsX40, w ∈ lw_tbl := fun w h => wsL_law_in w (inlX4 w h)
theorem inX5 : ∀ w ∈ wsX50, w ∈ lw_tbl := by decide +kernel
