set_option maxRecDepth 20000 in
theorem wl_w0_r1 : ∀ w ∈ wsL_law0_r1, w ∈ lw_tbl := fun w h => (goodIn_r wsL_law0_r1 [64, 65, 51, 564, 565, 56, 791, 66, 67, 68, 69, 70, 71, 72, 73, 52, 171, 123, 124, 53, 172, 138, 139, 54] (by decide +kernel) (by decide +kernel) w h).1
set_option maxRecDepth 20000 in
theorem wl_w0_r2 : ∀ w ∈ wsL_law0_r2, w ∈ lw_tbl := fun w h => (goodIn_r wsL_law0_r2 [173, 75, 76, 77, 122, 78, 79, 80, 81, 82, 126, 127, 128, 129, 141, 142, 143, 144, 146, 147, 148, 156, 157, 158] (by decide +kernel) (by decide +kernel) w h).1
set_option maxRecDepth 20000 in
theorem wl_w0_r3 : ∀ w ∈ wsL_law0_r3, w ∈ lw_tbl := fun w h => (goodIn_r wsL_law0_r3 [159, 83, 85, 86, 87, 88, 89, 91, 94, 160, 161, 55, 162, 163, 165, 0, 166, 167, 169, 566, 567, 568, 569, 575] (by decide +kernel) (by decide +kernel) w h).1
set_option maxRecDepth 20000 in
theorem wl_w0_r4 : ∀ w ∈ wsL_law0_r4, w ∈ lw_tbl := fun w h => (goodIn_r wsL_law0_r4 [576, 577, 578, 579, 580, 581, 623, 582, 584, 585, 587, 588, 570, 572, 24, 573, 583, 586, 201, 202, 50, 203, 204, 205] (by decide +kernel) (by decide +kernel) w h).1
set_option maxRecDepth 20000 in
theorem wl_w0_r5 : ∀ w ∈ wsL_law0_r5, w ∈ lw_tbl := fun w h => (goodIn_r wsL_law0_r5 [206, 207, 208, 212, 60, 209, 210, 211, 628, 629, 630, 631, 632, 633, 634, 635, 637, 25, 638, 574, 639, 641, 26, 642] (by decide +kernel) (by decide +kernel) w h).1
set_option maxRecDepth 20000 in
theorem wl_w0_r6 : ∀ w ∈ wsL_law0_r6, w ∈ lw_tbl := fun w h => (goodIn_r wsL_law0_r6 [624, 625, 626, 627, 282, 283, 284, 285, 286, 287, 288, 289, 290, 316, 62, 291, 293, 2, 294, 295, 61, 311, 190, 191] (by decide +kernel) (by decide +kernel) w h).1
set_option maxRecDepth 20000 in
theorem wl_w0_r7 : ∀ w ∈ wsL_law0_r7, w ∈ lw_tbl := fun w h => (goodIn_r wsL_law0_r7 [192, 312, 313, 314, 315, 332, 333, 334, 335, 336, 338, 3, 339, 189, 340, 342, 4, 343, 344, 346, 5, 347, 348, 350] (by decide +kernel) (by decide +kernel) w h).1
set_option maxRecDepth 20000 in
theorem wl_w0_r8 : ∀ w ∈ wsL_law0_r8, w ∈ lw_tbl := fun w h => (goodIn_r wsL_law0_r8 [6, 351, 352, 354, 7, 355, 356, 357, 358, 359, 360, 362, 8, 363, 364, 365, 366, 367, 368, 369, 371, 9, 372, 373] (by decide +kernel) (by decide +kernel) w h).1
set_option maxRecDepth 20000 in
theorem wl_w0_r9 : ∀ w ∈ wsL_law0_r9, w ∈ lw_tbl := fun w h => (goodIn_r wsL_law0_r9 [375, 10, 376, 377, 379, 11, 380, 381, 383, 12, 384, 185, 186, 187, 188, 643, 644, 645, 646, 647, 649, 27, 650, 651] (by decide +kernel) (by decide +kernel) w h).1
set_option maxRecDepth 20000 in
theorem wl_w0_r10 : ∀ w ∈ wsL_law0_r10, w ∈ lw_tbl := fun w h => (goodIn_r wsL_law0_r10 [653, 28, 654, 655, 657, 29, 658, 659, 661, 30, 662, 663, 665, 31, 666, 667, 669, 32, 670, 671, 673, 33, 674, 675] (by decide +kernel) (by decide +kernel) w h).1
set_option maxRecDepth 20000 in
theorem wl_w0_r11 : ∀ w ∈ wsL_law0_r11, w ∈ lw_tbl := fun w h => (goodIn_r wsL_law0_r11 [677, 34, 678, 679, 681, 35, 682, 683, 685, 36, 686, 687, 689, 37, 690, 691, 693, 38, 694, 695, 697, 39, 698, 699] (by decide +kernel) (by decide +kernel) w h).1
set_option maxRecDepth 20000 in
theorem wl_w0_r12 : ∀ w ∈ wsL_law0_r12, w ∈ lw_tbl := fun w h => (goodIn_r wsL_law0_r12 [701, 40, 702, 703, 705, 41, 706, 385, 386, 387, 388, 389, 390, 391, 393, 395, 396, 397, 398, 399, 707, 708, 709, 710] (by decide +kernel) (by decide +kernel) w h).1
set_option maxRecDepth 20000 in
theorem wl_w0_r13 : ∀ w ∈ wsL_law0_r13, w ∈ lw_tbl := fun w h => (goodIn_r wsL_law0_r13 [181, 182, 183, 184, 711, 712, 713, 714, 193, 194, 195, 196, 715, 716, 717, 718, 400, 401, 402, 403, 404, 405, 406, 719] (by decide +kernel) (by decide +kernel) w h).1
set_option maxRecDepth 20000 in
theorem wl_w0_r14 : ∀ w ∈ wsL_law0_r14, w ∈ lw_tbl := fun w h => (goodIn_r wsL_law0_r14 [720, 721, 722, 407, 408, 409, 410, 411, 412, 413, 723, 724, 725, 726, 197, 198, 199, 200, 727, 728, 729, 730, 414, 415] (by decide +kernel) (by decide +kernel) w h).1
set_option maxRecDepth 20000 in
theorem wl_w0_r15 : ∀ w ∈ wsL_law0_r15, w ∈ lw_tbl := fun w h => (goodIn_r wsL_law0_r15 [416, 417, 418, 419, 420, 421, 423, 13, 424, 426, 427, 428, 429, 430, 431, 432, 433, 130, 434, 436, 14, 437, 438, 440] (by decide +kernel) (by decide +kernel) w h).1
set_option maxRecDepth 20000 in
theorem wl_w0_r16 : ∀ w ∈ wsL_law0_r16, w ∈ lw_tbl := fun w h => (goodIn_r wsL_law0_r16 [15, 441, 442, 443, 444, 445, 731, 732, 733, 734, 735, 737, 42, 738, 446, 447, 448, 449, 450, 451, 452, 454, 455, 456] (by decide +kernel) (by decide +kernel) w h).1
set_option maxRecDepth 20000 in
theorem wl_w0_r17 : ∀ w ∈ wsL_law0_r17, w ∈ lw_tbl := fun w h => (goodIn_r wsL_law0_r17 [457, 739, 740, 741, 742, 458, 459, 460, 461, 462, 463, 464, 465, 466, 467, 468, 469, 471, 472, 473, 474, 475, 476, 477] (by decide +kernel) (by decide +kernel) w h).1
set_option maxRecDepth 20000 in
theorem wl_w0_r18 : ∀ w ∈ wsL_law0_r18, w ∈ lw_tbl := fun w h => (goodIn_r wsL_law0_r18 [478, 480, 16, 481, 482, 483, 484, 485, 487, 17, 488, 489, 491, 18, 492, 493, 743, 744, 745, 746, 747, 749, 43, 750] (by decide +kernel) (by decide +kernel) w h).1
set_option maxRecDepth 20000 in
theorem wl_w0_r19 : ∀ w ∈ wsL_law0_r19, w ∈ lw_tbl := fun w h => (goodIn_r wsL_law0_r19 [751, 753, 44, 754, 494, 495, 496, 497, 498, 499, 500, 502, 503, 504, 505, 506, 508, 19, 509, 755, 756, 757, 758, 510] (by decide +kernel) (by decide +kernel) w h).1
set_option maxRecDepth 20000 in
theorem wl_w0_r20 : ∀ w ∈ wsL_law0_r20, w ∈ lw_tbl := fun w h => (goodIn_r wsL_law0_r20 [511, 512, 513, 514, 515, 516, 517, 519, 20, 520, 526, 21, 527, 541, 542, 63, 543, 528, 530, 22, 531, 532, 533, 534] (by decide +kernel) (by decide +kernel) w h).1
set_option maxRecDepth 20000 in
theorem wl_w0_r21 : ∀ w ∈ wsL_law0_r21, w ∈ lw_tbl := fun w h => (goodIn_r wsL_law0_r21 [536, 23, 537, 538, 539, 540, 759, 760, 761, 762, 763, 765, 45, 766, 767, 769, 46, 770, 771, 773, 47, 774, 775, 777] (by decide +kernel) (by decide +kernel) w h).1
set_option maxRecDepth 20000 in
theorem wl_w0_r22 : ∀ w ∈ wsL_law0_r22, w ∈ lw_tbl := fun w h => (goodIn_r wsL_law0_r22 [48, 778, 589, 779, 781, 49, 782, 544, 545, 546, 547, 548, 549, 550, 783, 784, 785, 786, 552, 553, 554, 555, 556, 557] (by decide +kernel) (by decide +kernel) w h).1
set_option maxRecDepth 20000 in
theorem wl_w0_r23 : ∀ w ∈ wsL_law0_r23, w ∈ lw_tbl := fun w h => (goodIn_r wsL_law0_r23 [558, 560, 561, 562, 563, 787, 788, 789, 790] (by decide +kernel) (by decide +kernel) w h).1
set_option maxRecDepth 20000 in
theorem inX0 : ∀ w ∈ wsX00, w ∈ lw_tbl := fun w h => (goodIn_r wsX00 [95, 97, 99, 101, 103, 105, 107, 109, 111, 113, 115, 117, 119] (by decide +kernel) (by decide +kernel) w h).1
set_option maxRecDepth 20000 in
theorem inX1 : ∀ w ∈ wsX10, w ∈ lw_tbl := fun w h => (goodIn_r wsX10 [149, 151, 153] (by decide +kernel) (by decide +kernel) w h).1
set_option maxRecDepth 20000 in
theorem inX2 : ∀ w ∈ wsX20, w ∈ lw_tbl := fun w h => (goodIn_r wsX20 [133, 135] (by decide +kernel) (by decide +kernel) w h).1
set_option maxRecDepth 20000 in
theorem inX3 : ∀ w ∈ wsX30, w ∈ lw_tbl := fun w h => (goodIn_r wsX30 [174, 176, 178] (by decide +kernel) (by decide +kernel) w h).1
set_option maxRecDepth 20000 in
theorem inX4 : ∀ w ∈ wsX40, w ∈ lw_tbl := fun w h => (goodIn_r wsX40 [590, 592, 594, 596, 598, 600, 602, 604, 606, 608, 610, 612, 614, 616, 618, 620] (by decide +kernel) (by decide +kernel) w h).1
theorem wsL_law_in0 : ∀ w ∈ wsL_law0, w ∈ lw_tbl := (List.forall_mem_append.mpr ⟨(List.forall_mem_append.mpr ⟨(List.forall_mem_append.mpr ⟨(List.forall_mem_append.mpr ⟨(List.forall_mem_append.mpr ⟨(List.forall_mem_append.mpr ⟨(List.forall_mem_append.mpr ⟨wl_w0_r1, (List.forall_mem_append.mpr ⟨wl_w0_r2, (List.forall_mem_append.mpr ⟨wl_w0_r3, (List.forall_mem_append.mpr ⟨wl_w0_r4, (List.forall_mem_append.mpr ⟨wl_w0_r5, (List.forall_mem_append.mpr ⟨wl_w0_r6, (List.forall_mem_append.mpr ⟨wl_w0_r7, (List.forall_mem_append.mpr ⟨wl_w0_r8, (List.forall_mem_append.mpr ⟨wl_w0_r9, (List.forall_mem_append.mpr ⟨wl_w0_r10, (List.forall_mem_append.mpr ⟨wl_w0_r11, (List.forall_mem_append.mpr ⟨wl_w0_r12, (List.forall_mem_append.mpr ⟨wl_w0_r13, (List.forall_mem_append.mpr ⟨wl_w0_r14, (List.forall_mem_append.mpr ⟨wl_w0_r15, (List.forall_mem_append.mpr ⟨wl_w0_r16, (List.forall_mem_append.mpr ⟨wl_w0_r17, (List.forall_mem_append.mpr ⟨wl_w0_r18, (List.forall_mem_append.mpr ⟨wl_w0_r19, (List.forall_mem_append.mpr ⟨wl_w0_r20, (List.forall_mem_append.mpr ⟨wl_w0_r21, (List.forall_mem_append.mpr ⟨wl_w0_r22, wl_w0_r23⟩)⟩)⟩)⟩)⟩)⟩)⟩)⟩)⟩)⟩)⟩)⟩)⟩)⟩)⟩)⟩)⟩)⟩)⟩)⟩)⟩)⟩), inX3⟩), inX4⟩), inX0⟩), inX2⟩), inX1⟩), fun _ h => absurd h List.not_mem_nil⟩)
theorem wsL_law_x0 : ∀ w ∈ (vx_atS RX3 42 "java/lang/IllegalArgumentException" ["java/lang/RuntimeException", "java/lang/Exception"]).filter goodWord, w ∈ lw_tbl := by decide +kernel
theorem wsL_law_x1 : ∀ w ∈ (vx_atS RX3 69 "java/lang/IllegalStateException" ["java/lang/RuntimeException", "java/lang/Exception"]).filter goodWord, w ∈ lw_tbl := by decide +kernel
theorem wsL_law_x2 : ∀ w ∈ (vx_atS RX3 112 "java/lang/IndexOutOfBoundsException" ["java/lang/RuntimeException", "java/lang/Exception"]).filter goodWord, w ∈ lw_tbl := by decide +kernel
theorem wsL_law_in : ∀ w ∈ wsL_law, w ∈ lw_tbl := fun w h => (List.mem_append.mp h).elim (fun h => (List.mem_append.mp h).elim (fun h => (List.mem_append.mp h).elim (fun h => wsL_law_in0 w h) (fun h => wsL_law_x0 w h)) (fun h => wsL_law_x1 w h)) (fun h => wsL_law_x2 w h)
theorem inlX0 : ∀ w ∈ wsX00, w ∈ wsL_law := fun _ h => List.mem_append_left _ (List.mem_append_left _ (List.mem_append_left _ (List.mem_append_left _ (List.mem_append_left _ (List.mem_append_left _ (List.mem_append_right _ h))))))
theorem inlX1 : ∀ w ∈ wsX10, w ∈ wsL_law := fun _ h => List.mem_append_left _ (List.mem_append_left _ (List.mem_append_left _ (List.mem_append_left _ (List.mem_append_right _ h))))
theorem inlX2 : ∀ w ∈ wsX20, w ∈ wsL_law := fun _ h => List.mem_append_left _ (List.mem_append_left _ (List.mem_append_left _ (List.mem_append_left _ (List.mem_append_left _ (List.mem_append_right _ h)))))
theorem inlX3 : ∀ w ∈ wsX30, w ∈ wsL_law := fun _ h => List.mem_append_left _ (List.mem_append_left _ (List.mem_append_left _ (List.mem_append_left _ (List.mem_append_left _ (List.mem_append_left _ (List.mem_append_left _ (List.mem_append_left _ (List.mem_append_right _ h))))))))
theorem inlX4 : ∀ w ∈ wsX40, w ∈ wsL_law := fun _ h => List.mem_append_left _ (List.mem_append_left _ (List.mem_append_left _ (List.mem_append_left _ (List.mem_append_left _ (List.mem_append_left _ (List.mem_append_left _ (List.mem_append_right _ h)))))))
theorem inJx145de : ∀ w ∈ wsJx145de0, w ∈ lw_tbl := by decide +kernel
theorem inJ9 : ∀ w ∈ wsJ90, w ∈ lw_tbl := by decide +kernel
theorem inJ0 : ∀ w ∈ wsJ00, w ∈ lw_tbl := by decide +kernel
theorem inJ7 : ∀ w ∈ wsJ70, w ∈ lw_tbl := by decide +kernel
