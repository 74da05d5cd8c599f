/-! every word of the law's own list is among the tables' -/
theorem q_places {big ws : List Cond} (ps : List Nat) (h : ws = ps.filterMap (fun i => big[i]?)) : ∀ w ∈ ws, w ∈ big := fun w hw => by
  rw [h] at hw
  obtain ⟨i, -, hi⟩ := List.mem_filterMap.mp hw
  exact List.mem_of_getElem? hi
set_option maxRecDepth 100000 in
theorem wsL_law_p1 : ∀ w ∈ wsL_law0_r1, w ∈ lw_tbl := q_places [67, 68, 47, 724, 725, 55, 952, 69, 70, 71, 72, 73, 74, 75, 76, 48, 208, 99, 100, 50, 209, 210, 151, 152] rfl
set_option maxRecDepth 100000 in
theorem wsL_law_p2 : ∀ w ∈ wsL_law0_r2, w ∈ lw_tbl := q_places [54, 211, 77, 78, 79, 80, 84, 98, 87, 89, 81, 82, 49, 83, 101, 102, 103, 104, 105, 106, 53, 131, 107, 108] rfl
set_option maxRecDepth 100000 in
theorem wsL_law_p3 : ∀ w ∈ wsL_law0_r3, w ∈ lw_tbl := q_places [109, 117, 119, 110, 111, 52, 112, 121, 113, 114, 51, 115, 116, 153, 154, 155, 156, 157, 159, 173, 726, 727, 728, 729] rfl
set_option maxRecDepth 100000 in
theorem wsL_law_p4 : ∀ w ∈ wsL_law0_r4, w ∈ lw_tbl := q_places [733, 734, 735, 736, 737, 506, 507, 46, 508, 509, 510, 511, 512, 513, 514, 515, 59, 85, 531, 533, 13, 534, 535, 60] rfl
set_option maxRecDepth 100000 in
theorem wsL_law_p5 : ∀ w ∈ wsL_law0_r5, w ∈ lw_tbl := q_places [138, 759, 760, 761, 762, 730, 763, 764, 765, 766, 768, 19, 769, 770, 772, 20, 773, 755, 756, 757, 758, 551, 552, 553] rfl
set_option maxRecDepth 100000 in
theorem wsL_law_p6 : ∀ w ∈ wsL_law0_r6, w ∈ lw_tbl := q_places [554, 555, 556, 557, 558, 404, 61, 560, 562, 14, 563, 565, 566, 567, 568, 301, 302, 62, 303, 774, 775, 776, 777, 569] rfl
set_option maxRecDepth 100000 in
theorem wsL_law_p7 : ∀ w ∈ wsL_law0_r7, w ∈ lw_tbl := q_places [570, 571, 572, 573, 574, 575, 132, 385, 230, 231, 232, 120, 579, 580, 581, 582, 122, 123, 583, 585, 15, 586, 587, 589] rfl
set_option maxRecDepth 100000 in
theorem wsL_law_p8 : ∀ w ∈ wsL_law0_r8, w ∈ lw_tbl := q_places [16, 590, 591, 593, 17, 594, 629, 317, 62, 318, 630, 595, 596, 63, 597, 598, 599, 600, 601, 602, 603, 604, 605, 606] rfl
set_option maxRecDepth 100000 in
theorem wsL_law_p9 : ∀ w ∈ wsL_law0_r9, w ∈ lw_tbl := q_places [966, 607, 618, 619, 620, 621, 622, 624, 625, 324, 325, 626, 628, 627, 64, 778, 779, 780, 781, 731, 782, 631, 632, 633] rfl
set_option maxRecDepth 100000 in
theorem wsL_law_p10 : ∀ w ∈ wsL_law0_r10, w ∈ lw_tbl := q_places [634, 635, 636, 637, 162, 490, 492, 11, 493, 151, 494, 496, 12, 497, 499, 234, 235, 236, 237, 238, 65, 239, 240, 241] rfl
set_option maxRecDepth 100000 in
theorem wsL_law_p11 : ∀ w ∈ wsL_law0_r11, w ∈ lw_tbl := q_places [66, 242, 243, 244, 245, 246, 783, 784, 785, 786, 787, 789, 21, 790, 791, 793, 22, 794, 795, 797, 23, 798, 639, 640] rfl
set_option maxRecDepth 100000 in
theorem wsL_law_p12 : ∀ w ∈ wsL_law0_r12, w ∈ lw_tbl := q_places [641, 642, 643, 644, 645, 90, 648, 649, 650, 651, 652, 653, 654, 655, 656, 657, 658, 659, 661, 799, 800, 801, 802, 732] rfl
set_option maxRecDepth 100000 in
theorem wsL_law_p13 : ∀ w ∈ wsL_law0_r13, w ∈ lw_tbl := q_places [662, 663, 664, 665, 666, 667, 668, 268, 269, 270, 271, 247, 229, 233, 272, 273, 274, 275, 167, 276, 277, 278, 279, 137] rfl
set_option maxRecDepth 100000 in
theorem wsL_law_p14 : ∀ w ∈ wsL_law0_r14, w ∈ lw_tbl := q_places [139, 135, 280, 281, 282, 283, 170, 176, 179, 181, 284, 477, 358, 359, 360, 182, 803, 804, 805, 806, 807, 809, 24, 810] rfl
set_option maxRecDepth 100000 in
theorem wsL_law_p15 : ∀ w ∈ wsL_law0_r15, w ∈ lw_tbl := q_places [811, 813, 25, 814, 815, 817, 26, 818, 670, 671, 672, 673, 674, 675, 676, 678, 290, 291, 292, 133, 293, 295, 0, 296] rfl
set_option maxRecDepth 100000 in
theorem wsL_law_p16 : ∀ w ∈ wsL_law0_r16, w ∈ lw_tbl := q_places [86, 297, 298, 299, 300, 304, 305, 306, 307, 184, 308, 309, 310, 311, 161, 316, 312, 314, 1, 315, 319, 321, 2, 322] rfl
set_option maxRecDepth 100000 in
theorem wsL_law_p17 : ∀ w ∈ wsL_law0_r17, w ∈ lw_tbl := q_places [323, 326, 327, 328, 329, 330, 332, 3, 333, 171, 177, 334, 335, 336, 337, 338, 339, 340, 341, 342, 343, 344, 345, 346] rfl
set_option maxRecDepth 100000 in
theorem wsL_law_p18 : ∀ w ∈ wsL_law0_r18, w ∈ lw_tbl := q_places [347, 348, 349, 351, 4, 352, 353, 354, 355, 356, 357, 361, 363, 5, 364, 166, 365, 367, 6, 368, 369, 370, 371, 372] rfl
set_option maxRecDepth 100000 in
theorem wsL_law_p19 : ∀ w ∈ wsL_law0_r19, w ∈ lw_tbl := q_places [373, 375, 7, 376, 819, 820, 821, 822, 823, 825, 27, 826, 827, 829, 28, 830, 851, 831, 833, 29, 834, 874, 835, 837] rfl
set_option maxRecDepth 100000 in
theorem wsL_law_p20 : ∀ w ∈ wsL_law0_r20, w ∈ lw_tbl := q_places [30, 838, 856, 839, 841, 31, 842, 843, 845, 32, 846, 847, 849, 33, 850, 852, 854, 34, 855, 857, 859, 35, 860, 861] rfl
set_option maxRecDepth 100000 in
theorem wsL_law_p21 : ∀ w ∈ wsL_law0_r21, w ∈ lw_tbl := q_places [862, 864, 36, 865, 866, 868, 37, 869, 870, 872, 38, 873, 679, 680, 681, 682, 487, 488, 489, 158, 160, 165, 168, 400] rfl
set_option maxRecDepth 100000 in
theorem wsL_law_p22 : ∀ w ∈ wsL_law0_r22, w ∈ lw_tbl := q_places [402, 8, 403, 472, 474, 10, 475, 134, 476, 500, 501, 875, 876, 877, 878, 879, 881, 39, 882, 683, 684, 685, 686, 503] rfl
set_option maxRecDepth 100000 in
theorem wsL_law_p23 : ∀ w ∈ wsL_law0_r23, w ∈ lw_tbl := q_places [504, 505, 136, 172, 174, 178, 180, 183, 883, 884, 885, 886, 887, 889, 40, 890, 687, 688, 689, 690, 397, 398, 399, 478] rfl
set_option maxRecDepth 100000 in
theorem wsL_law_p24 : ∀ w ∈ wsL_law0_r24, w ∈ lw_tbl := q_places [479, 480, 481, 482, 483, 484, 485, 169, 891, 892, 893, 894, 895, 897, 41, 898, 899, 901, 42, 902, 221, 222, 223, 224] rfl
set_option maxRecDepth 100000 in
theorem wsL_law_p25 : ∀ w ∈ wsL_law0_r25, w ∈ lw_tbl := q_places [225, 226, 227, 228, 903, 904, 905, 906, 248, 249, 250, 251, 252, 253, 254, 255, 907, 908, 909, 910, 691, 692, 693, 694] rfl
set_option maxRecDepth 100000 in
theorem wsL_law_p26 : ∀ w ∈ wsL_law0_r26, w ∈ lw_tbl := q_places [695, 696, 697, 911, 912, 913, 914, 698, 699, 700, 701, 702, 703, 704, 260, 261, 262, 263, 264, 265, 266, 267, 164, 285] rfl
set_option maxRecDepth 100000 in
theorem wsL_law_p27 : ∀ w ∈ wsL_law0_r27, w ∈ lw_tbl := q_places [286, 287, 288, 289, 705, 706, 707, 708, 175, 915, 916, 917, 918, 919, 921, 43, 922, 923, 925, 926, 928, 44, 929, 930] rfl
set_option maxRecDepth 100000 in
theorem wsL_law_p28 : ∀ w ∈ wsL_law0_r28, w ∈ lw_tbl := q_places [932, 45, 933, 256, 257, 258, 259, 377, 378, 379, 380, 934, 935, 936, 937, 709, 710, 711, 712, 713, 714, 715, 716, 718] rfl
set_option maxRecDepth 100000 in
theorem wsL_law_p29 : ∀ w ∈ wsL_law0_r29, w ∈ lw_tbl := q_places [18, 719, 720, 721, 722, 723, 938, 939, 940, 941, 381, 382, 383, 384, 386, 387, 388, 389, 163, 942, 943, 944, 945, 390] rfl
set_option maxRecDepth 100000 in
theorem wsL_law_p30 : ∀ w ∈ wsL_law0_r30, w ∈ lw_tbl := q_places [391, 392, 393, 394, 395, 88, 396, 486, 502, 946, 947, 948, 949, 950, 951] rfl
theorem in_wsX30 : ∀ w ∈ wsX30, w ∈ lw_tbl := by decide +kernel
theorem in_wsX40 : ∀ w ∈ wsX40, w ∈ lw_tbl := by decide +kernel
theorem in_wsX20 : ∀ w ∈ wsX20, w ∈ lw_tbl := by decide +kernel
theorem in_wsX10 : ∀ w ∈ wsX10, w ∈ lw_tbl := by decide +kernel
theorem in_wsX00 : ∀ w ∈ wsX00, w ∈ lw_tbl := by decide +kernel
theorem in_wsJx4a65c0 : ∀ w ∈ wsJx4a65c0, w ∈ lw_tbl := by decide +kernel
theorem wsL_law_in0 : ∀ w ∈ wsL_law0, w ∈ lw_tbl := fun w h => (List.mem_append.mp h).elim (fun h => (List.mem_append.mp h).elim (fun h => (List.mem_append.mp h).elim (fun h => (List.mem_append.mp h).elim (fun h => (List.mem_append.mp h).elim (fun h => (List.mem_append.mp h).elim (fun h => (List.mem_append.mp h).elim (fun h => (List.mem_append.mp h).elim (fun h => wsL_law_p1 w h) (fun h => (List.mem_append.mp h).elim (fun h => wsL_law_p2 w h) (fun h => (List.mem_append.mp h).elim (fun h => wsL_law_p3 w h) (fun h => (List.mem_append.mp h).elim (fun h => wsL_law_p4 w h) (fun h => (List.mem_append.mp h).elim (fun h => wsL_law_p5 w h) (fun h => (List.mem_append.mp h).elim (fun h => wsL_law_p6 w h) (fun h => (List.mem_append.mp h).elim (fun h => wsL_law_p7 w h) (fun h => (List.mem_append.mp h).elim (fun h => wsL_law_p8 w h) (fun h => (List.mem_append.mp h).elim (fun h => wsL_law_p9 w h) (fun h => (List.mem_append.mp h).elim (fun h => wsL_law_p10 w h) (fun h => (List.mem_append.mp h).elim (fun h => wsL_law_p11 w h) (fun h => (List.mem_append.mp h).elim (fun h => wsL_law_p12 w h) (fun h => (List.mem_append.mp h).elim (fun h => wsL_law_p13 w h) (fun h => (List.mem_append.mp h).elim (fun h => wsL_law_p14 w h) (fun h => (List.mem_append.mp h).elim (fun h => wsL_law_p15 w h) (fun h => (List.mem_append.mp h).elim (fun h => wsL_law_p16 w h) (fun h => (List.mem_append.mp h).elim (fun h => wsL_law_p17 w h) (fun h => (List.mem_append.mp h).elim (fun h => wsL_law_p18 w h) (fun h => (List.mem_append.mp h).elim (fun h => wsL_law_p19 w h) (fun h => (List.mem_append.mp h).elim (fun h => wsL_law_p20 w h) (fun h => (List.mem_append.mp h).elim (fun h => wsL_law_p21 w h) (fun h => (List.mem_append.mp h).elim (fun h => wsL_law_p22 w h) (fun h => (List.mem_append.mp h).elim (fun h => wsL_law_p23 w h) (fun h => (List.mem_append.mp h).elim (fun h => wsL_law_p24 w h) (fun h => (List.mem_append.mp h).elim (fun h => wsL_law_p25 w h) (fun h => (List.mem_append.mp h).elim (fun h => wsL_law_p26 w h) (fun h => (List.mem_append.mp h).elim (fun h => wsL_law_p27 w h) (fun h => (List.mem_append.mp h).elim (fun h => wsL_law_p28 w h) (fun h => (List.mem_append.mp h).elim (fun h => wsL_law_p29 w h) (fun h => wsL_law_p30 w h)))))))))))))))))))))))))))))) (fun h => in_wsX30 w h)) (fun h => in_wsX40 w h)) (fun h => in_wsX20 w h)) (fun h => in_wsX10 w h)) (fun h => in_wsX00 w h)) (fun h => in_wsJx4a65c0 w h)) (fun h => absurd h List.not_mem_nil)
theorem wsL_law_x0 : ∀ w ∈ (vx_atS RX3 39 "java/lang/IllegalArgumentException" ["java/lang/RuntimeException", "java/lang/Exception"]).filter goodWord, w ∈ lw_tbl := by decide +kernel
theorem wsL_law_x1 : ∀ w ∈ (vx_atS RX3 80 "java/lang/IllegalStateException" ["java/lang/RuntimeException", "java/lang/Exception"]).filter goodWord, w ∈ lw_tbl := by decide +kernel
theorem wsL_law_x2 : ∀ w ∈ (vx_atS RX3 53 "java/lang/IndexOutOfBoundsException" ["java/lang/RuntimeException", "java/lang/Exception"]).filter goodWord, w ∈ lw_tbl := by decide +kernel
theorem wsL_law_in : ∀ w ∈ wsL_law, w ∈ lw_tbl := fun w h => (List.mem_append.mp h).elim (fun h => (List.mem_append.mp h).elim (fun h => (List.mem_append.mp h).elim (fun h => wsL_law_in0 w h) (fun h => wsL_law_x0 w h)) (fun h => wsL_law_x1 w h)) (fun h => wsL_law_x2 w h)
theorem inlX0 : ∀ w ∈ wsX00, w ∈ wsL_law := fun _ h => List.mem_append_left _ (List.mem_append_left _ (List.mem_append_left _ (List.mem_append_left _ (List.mem_append_left _ (List.mem_append_right _ h)))))
theorem inX0 : ∀ w ∈ wsX00, w ∈ lw_tbl := fun w h => wsL_law_in w (inlX0 w h)
theorem inlX1 : ∀ w ∈ wsX10, w ∈ wsL_law := fun _ h => List.mem_append_left _ (List.mem_append_left _ (List.mem_append_left _ (List.mem_append_left _ (List.mem_append_left _ (List.mem_append_left _ (List.mem_append_right _ h))))))
theorem inX1 : ∀ w ∈ wsX10, w ∈ lw_tbl := fun w h => wsL_law_in w (inlX1 w h)
theorem inlX2 : ∀ w ∈ wsX20, w ∈ wsL_law := fun _ h => List.mem_append_left _ (List.mem_append_left _ (List.mem_append_left _ (List.mem_append_left _ (List.mem_append_left _ (List.mem_append_left _ (List.mem_append_left _ (List.mem_append_right _ h)))))))
theorem inX2 : ∀ w ∈ wsX20, w ∈ lw_tbl := fun w h => wsL_law_in w (inlX2 w h)
theorem inlX3 : ∀ w ∈ wsX30, w ∈ wsL_law := fun _ h => List.mem_append_left _ (List.mem_append_left _ (List.mem_append_left _ (List.mem_append_left _ (List.mem_append_left _ (List.mem_append_left _ (List.mem_append_left _ (List.mem_append_left _ (List.mem_append_left _ (List.mem_append_right _ h)))))))))
theorem inX3 : ∀ w ∈ wsX30, w ∈ lw_tbl := fun w h => wsL_law_in w (inlX3 w h)
theorem inlX4 : ∀ w ∈ wsX40, w ∈ wsL_law := fun _ h => List.mem_append_left _ (List.mem_append_left _ (List.mem_append_left _ (List.mem_append_left _ (List.mem_append_left _ (List.mem_append_left _ (List.mem_append_left _ (List.mem_append_left _ (List.mem_append_right _ h))))))))
theorem inX4 : ∀ w ∈ wsX40, w ∈ lw_tbl := fun w h => wsL_law_in w (inlX4 w h)
theorem inJx145de : ∀ w ∈ wsJx145de0, w ∈ lw_tbl := by decide +kernel
theorem inJx8e188 : ∀ w ∈ wsJx8e1880, w ∈ lw_tbl := by decide +kernel
theorem inJxab1ab : ∀ w ∈ wsJxab1ab0, w ∈ lw_tbl := by decide +kernel
theorem inJ9 : ∀ w ∈ wsJ90, w ∈ lw_tbl := by decide +kernel
theorem inJ0 : ∀ w ∈ wsJ00, w ∈ lw_tbl := by decide +kernel
theorem inJ10 : ∀ w ∈ wsJ100, w ∈ lw_tbl := by decide +kernel
theorem inJxa1e45 : ∀ w ∈ wsJxa1e450, w ∈ lw_tbl := by decide +kernel
theorem inJxc12de : ∀ w ∈ wsJxc12de0, w ∈ lw_tbl := by decide +kernel
theorem inlJx4a65c : ∀ w ∈ wsJx4a65c0, w ∈ wsL_law := fun _ h => List.mem_append_left _ (List.mem_append_left _ (List.mem_append_left _ (List.mem_append_left _ (List.mem_append_right _ h))))
theorem inJx4a65c : ∀ w ∈ wsJx4a65c0, w ∈ lw_tbl := fun w h => wsL_law_in w (inlJx4a65c w h)
theorem inJ7 : ∀ w ∈ wsJ70, w ∈ lw_tbl := by decide +kernel
theorem inJx5ef63 : ∀ w ∈ wsJx5ef630, w ∈ lw_tbl := by decide +kernel
theorem inJxbd725 : ∀ w ∈ wsJxbd7250, w ∈ lw_tbl := by decide +kernel
theorem inJ15 : ∀ w ∈ wsJ150, w ∈ lw_tbl := by decide +kernel
theorem inJxf0a74 : ∀ w ∈ wsJxf0a740, w ∈ lw_tbl := by decide +kernel
theorem inJxa66e6 : ∀ w ∈ wsJxa66e60, w ∈ lw_tbl := by decide +kernel
theorem inJ8 : ∀ w ∈ wsJ80, w ∈ lw_tbl := by decide +kernel
theorem inJ3 : ∀ w ∈ wsJ30, w ∈ lw_tbl := by decide +kernel
