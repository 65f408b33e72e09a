/-- words of one list among another's, by their places -/
theorem mem_r {big : List Cond} (ws : List Cond) (ps : List Nat) (hp : ws = ps.filterMap (fun i => big[i]?)) : ∀ w ∈ ws, w ∈ big := by
  intro w hw
  rw [hp] at hw
  obtain ⟨i, -, hi⟩ := List.mem_filterMap.mp hw
  exact List.mem_of_getElem? hi
theorem wl_0 : ∀ w ∈ Wd_0, w ∈ lw_tbl := mem_r _ [148, 149, 34, 35, 392, 150, 153, 156, 158, 161, 87, 88, 89, 91, 93, 719, 731, 732, 717, 718, 15, 747, 748, 116, 18, 117, 376, 62, 63, 64, 619, 67, 73, 752, 753, 691, 692, 372, 71, 211, 212, 213, 215, 216, 349, 217, 218, 46, 47, 48, 113, 114, 115, 118, 107, 108, 109, 110, 17, 122] (by decide +kernel)
theorem wl_1 : ∀ w ∈ Wd_1, w ∈ lw_tbl := mem_r _ [123, 125, 130, 111, 112, 41, 42, 43, 13, 174, 58, 59, 14, 176, 83, 84, 178, 103, 104, 16, 180, 144, 145, 19, 182, 184, 44, 45, 61, 86, 106, 147, 40, 364, 368, 360, 50, 361, 362, 363, 365, 366, 367, 388, 384, 385, 386, 387, 380, 128, 381, 382, 383, 186, 188, 357, 358, 359, 369, 370] (by decide +kernel)
theorem wl_2 : ∀ w ∈ Wd_2, w ∈ lw_tbl := mem_r _ [371, 373, 374, 375, 377, 378, 379, 389, 390, 391, 356, 37, 12, 39, 353, 354, 355, 578, 346, 348, 1, 20, 576, 577, 575, 352, 350, 351, 345, 689, 690, 693, 694, 685, 686, 687, 688, 533, 534, 681, 531, 532, 682, 683, 684, 680, 677, 678, 679, 761, 848, 715, 716, 741, 742, 737, 738, 739, 740, 587] (by decide +kernel)
theorem wl_3 : ∀ w ∈ Wd_3, w ∈ lw_tbl := mem_r _ [702, 703, 585, 586, 698, 699, 700, 701, 728, 729, 730, 695, 696, 697, 727, 724, 726, 6, 733, 734, 735, 736, 744, 745, 746, 749, 750, 751, 723, 919, 676, 823, 824, 825, 826, 820, 821, 822, 830, 819, 816, 817, 818, 827, 828, 829, 815, 233, 234, 235, 237, 238, 236, 794, 595, 603, 477, 865, 660, 583] (by decide +kernel)
theorem wl_4 : ∀ w ∈ Wd_4, w ∈ lw_tbl := mem_r _ [584, 659, 655, 656, 658, 4, 901, 33, 36, 256, 207, 208, 257, 229, 230, 21, 258, 254, 259, 260, 210, 232, 255, 32, 498, 495, 499, 25, 496, 497, 11, 492, 493, 494, 516, 556, 557, 27, 553, 554, 555, 490, 491, 514, 515, 551, 552, 572, 573, 574, 517, 608, 607, 592, 593, 594, 591, 600, 601, 602] (by decide +kernel)
theorem wl_5 : ∀ w ∈ Wd_5, w ∈ lw_tbl := mem_r _ [599, 643, 616, 617, 618, 615, 623, 627, 631, 635, 639, 647, 278, 279, 26, 276, 277, 580, 581, 582, 550, 529, 526, 528, 3, 652, 653, 654, 651, 474, 475, 476, 664, 485, 482, 484, 2, 668, 712, 713, 714, 711, 708, 710, 5, 720, 721, 722, 707, 758, 759, 760, 757, 673, 674, 675, 672, 342, 343, 344] (by decide +kernel)
theorem wl_6 : ∀ w ∈ Wd_6, w ∈ lw_tbl := mem_r _ [275, 396, 489, 413, 417, 421, 425, 429, 433, 768, 769, 437, 441, 445, 773, 469, 521, 538, 539, 530, 525, 543, 473, 481, 449, 453, 461, 457, 465, 778, 777, 790, 791, 792, 793, 787, 789, 8, 795, 786, 783, 785, 7, 782, 800, 799, 804, 836, 835, 834, 840, 853, 857, 852, 875, 874, 812, 813, 814, 811] (by decide +kernel)
theorem wl_7 : ∀ w ∈ Wd_7, w ∈ lw_tbl := mem_r _ [879, 916, 917, 918, 915, 897, 898, 899, 900, 896, 892, 893, 895, 9, 891, 887, 885, 886, 905, 884, 883, 845, 846, 847, 844, 866, 862, 863, 864, 861, 826, 117, 692, 399, 400, 403, 404, 408, 409, 410, 411, 412, 414, 415, 416, 418, 419, 420, 422, 423, 424, 426, 427, 428, 430, 431, 432, 434, 435, 436] (by decide +kernel)
theorem wl_8 : ∀ w ∈ Wd_8, w ∈ lw_tbl := mem_r _ [438, 439, 440, 442, 443, 444, 446, 447, 448, 450, 451, 452, 454, 455, 456, 458, 459, 460, 462, 463, 464, 466, 467, 468, 470, 471, 472, 478, 479, 480, 486, 487, 488, 518, 519, 520, 522, 523, 524, 535, 536, 537, 540, 541, 542, 407, 869, 401, 402, 10, 612, 613, 614, 620, 621, 622, 624, 625, 626, 628] (by decide +kernel)
theorem wl_9 : ∀ w ∈ Wd_9, w ∈ lw_tbl := mem_r _ [629, 630, 632, 633, 634, 636, 637, 638, 640, 641, 642, 644, 645, 646, 611, 547, 548, 549, 588, 589, 590, 596, 597, 598, 604, 605, 606, 609, 610, 648, 649, 650, 661, 662, 663, 665, 666, 667, 669, 670, 671, 704, 705, 706, 754, 755, 756, 546, 765, 766, 767, 770, 771, 772, 774, 775, 776, 779, 780, 781] (by decide +kernel)
set_option maxRecDepth 100000 in
theorem wl_10 : ∀ w ∈ Wd_10, w ∈ lw_tbl := List.forall_mem_cons.mpr ⟨List.mem_of_getElem? (i := 796) (by decide +kernel), List.forall_mem_cons.mpr ⟨List.mem_of_getElem? (i := 797) (by decide +kernel), List.forall_mem_cons.mpr ⟨List.mem_of_getElem? (i := 798) (by decide +kernel), List.forall_mem_cons.mpr ⟨List.mem_of_getElem? (i := 801) (by decide +kernel), List.forall_mem_cons.mpr ⟨List.mem_of_getElem? (i := 802) (by decide +kernel), List.forall_mem_cons.mpr ⟨List.mem_of_getElem? (i := 803) (by decide +kernel), List.forall_mem_cons.mpr ⟨List.mem_of_getElem? (i := 764) (by rfl), List.forall_mem_cons.mpr ⟨List.mem_of_getElem? (i := 870) (by decide +kernel), List.forall_mem_cons.mpr ⟨List.mem_of_getElem? (i := 808) (by decide +kernel), List.forall_mem_cons.mpr ⟨List.mem_of_getElem? (i := 809) (by decide +kernel), List.forall_mem_cons.mpr ⟨List.mem_of_getElem? (i := 810) (by decide +kernel), List.forall_mem_cons.mpr ⟨List.mem_of_getElem? (i := 831) (by decide +kernel), List.forall_mem_cons.mpr ⟨List.mem_of_getElem? (i := 832) (by decide +kernel), List.forall_mem_cons.mpr ⟨List.mem_of_getElem? (i := 833) (by decide +kernel), List.forall_mem_cons.mpr ⟨List.mem_of_getElem? (i := 837) (by decide +kernel), List.forall_mem_cons.mpr ⟨List.mem_of_getElem? (i := 838) (by decide +kernel), List.forall_mem_cons.mpr ⟨List.mem_of_getElem? (i := 839) (by decide +kernel), List.forall_mem_cons.mpr ⟨List.mem_of_getElem? (i := 841) (by decide +kernel), List.forall_mem_cons.mpr ⟨List.mem_of_getElem? (i := 842) (by decide +kernel), List.forall_mem_cons.mpr ⟨List.mem_of_getElem? (i := 843) (by decide +kernel), List.forall_mem_cons.mpr ⟨List.mem_of_getElem? (i := 849) (by decide +kernel), List.forall_mem_cons.mpr ⟨List.mem_of_getElem? (i := 850) (by decide +kernel), List.forall_mem_cons.mpr ⟨List.mem_of_getElem? (i := 851) (by decide +kernel), List.forall_mem_cons.mpr ⟨List.mem_of_getElem? (i := 854) (by decide +kernel), List.forall_mem_cons.mpr ⟨List.mem_of_getElem? (i := 855) (by decide +kernel), List.forall_mem_cons.mpr ⟨List.mem_of_getElem? (i := 856) (by decide +kernel), List.forall_mem_cons.mpr ⟨List.mem_of_getElem? (i := 858) (by decide +kernel), List.forall_mem_cons.mpr ⟨List.mem_of_getElem? (i := 859) (by decide +kernel), List.forall_mem_cons.mpr ⟨List.mem_of_getElem? (i := 860) (by decide +kernel), List.forall_mem_cons.mpr ⟨List.mem_of_getElem? (i := 867) (by decide +kernel), List.forall_mem_cons.mpr ⟨List.mem_of_getElem? (i := 868) (by decide +kernel), List.forall_mem_cons.mpr ⟨List.mem_of_getElem? (i := 871) (by decide +kernel), List.forall_mem_cons.mpr ⟨List.mem_of_getElem? (i := 872) (by decide +kernel), List.forall_mem_cons.mpr ⟨List.mem_of_getElem? (i := 873) (by decide +kernel), List.forall_mem_cons.mpr ⟨List.mem_of_getElem? (i := 876) (by decide +kernel), List.forall_mem_cons.mpr ⟨List.mem_of_getElem? (i := 877) (by decide +kernel), List.forall_mem_cons.mpr ⟨List.mem_of_getElem? (i := 878) (by decide +kernel), List.forall_mem_cons.mpr ⟨List.mem_of_getElem? (i := 880) (by decide +kernel), List.forall_mem_cons.mpr ⟨List.mem_of_getElem? (i := 881) (by decide +kernel), List.forall_mem_cons.mpr ⟨List.mem_of_getElem? (i := 882) (by decide +kernel), List.forall_mem_cons.mpr ⟨List.mem_of_getElem? (i := 888) (by decide +kernel), List.forall_mem_cons.mpr ⟨List.mem_of_getElem? (i := 889) (by decide +kernel), List.forall_mem_cons.mpr ⟨List.mem_of_getElem? (i := 890) (by decide +kernel), List.forall_mem_cons.mpr ⟨List.mem_of_getElem? (i := 902) (by decide +kernel), List.forall_mem_cons.mpr ⟨List.mem_of_getElem? (i := 903) (by decide +kernel), List.forall_mem_cons.mpr ⟨List.mem_of_getElem? (i := 904) (by decide +kernel), List.forall_mem_cons.mpr ⟨List.mem_of_getElem? (i := 807) (by rfl), List.forall_mem_cons.mpr ⟨List.mem_of_getElem? (i := 912) (by decide +kernel), List.forall_mem_cons.mpr ⟨List.mem_of_getElem? (i := 913) (by decide +kernel), List.forall_mem_cons.mpr ⟨List.mem_of_getElem? (i := 914) (by decide +kernel), List.forall_mem_cons.mpr ⟨List.mem_of_getElem? (i := 272) (by decide +kernel), List.forall_mem_cons.mpr ⟨List.mem_of_getElem? (i := 273) (by decide +kernel), List.forall_mem_cons.mpr ⟨List.mem_of_getElem? (i := 274) (by decide +kernel), List.forall_mem_cons.mpr ⟨List.mem_of_getElem? (i := 911) (by rfl), List.forall_mem_cons.mpr ⟨List.mem_of_getElem? (i := 405) (by decide +kernel), List.forall_mem_cons.mpr ⟨List.mem_of_getElem? (i := 406) (by decide +kernel), List.forall_mem_cons.mpr ⟨List.mem_of_getElem? (i := 909) (by decide +kernel), List.forall_mem_cons.mpr ⟨List.mem_of_getElem? (i := 910) (by decide +kernel), List.forall_mem_cons.mpr ⟨List.mem_of_getElem? (i := 908) (by rfl), List.forall_mem_cons.mpr ⟨List.mem_of_getElem? (i := 28) (by decide +kernel), (fun _ h => absurd h List.not_mem_nil)⟩⟩⟩⟩⟩⟩⟩⟩⟩⟩⟩⟩⟩⟩⟩⟩⟩⟩⟩⟩⟩⟩⟩⟩⟩⟩⟩⟩⟩⟩⟩⟩⟩⟩⟩⟩⟩⟩⟩⟩⟩⟩⟩⟩⟩⟩⟩⟩⟩⟩⟩⟩⟩⟩⟩⟩⟩⟩⟩⟩
theorem wl_11 : ∀ w ∈ Wd_11, w ∈ lw_tbl := mem_r _ [29, 30, 31, 762, 763, 805, 806, 397, 398, 393, 394, 395, 544, 545, 906, 907, 57] (by decide +kernel)
theorem wx_0 : ∀ w ∈ wsX00, w ∈ lw_tbl := by decide +kernel
theorem wx_1 : ∀ w ∈ wsX10, w ∈ lw_tbl := by decide +kernel
theorem wx_2 : ∀ w ∈ wsX20, w ∈ lw_tbl := by decide +kernel
theorem wx_3 : ∀ w ∈ wsX30, w ∈ lw_tbl := by decide +kernel
theorem wx_4 : ∀ w ∈ wsX40, w ∈ lw_tbl := by decide +kernel
theorem wx_5 : ∀ w ∈ wsX50, w ∈ lw_tbl := by decide +kernel
theorem wx_6 : ∀ w ∈ wsX60, w ∈ lw_tbl := by decide +kernel
theorem wx_7 : ∀ w ∈ wsX70, w ∈ lw_tbl := by decide +kernel
theorem wx_8 : ∀ w ∈ wsX80, w ∈ lw_tbl := by decide +kernel
theorem wx_9 : ∀ w ∈ wsX90, w ∈ lw_tbl := by decide +kernel
theorem wd_tbl : ∀ w ∈ Wd, w ∈ lw_tbl := by
  intro w hw
  unfold Wd at hw
  simp only [List.mem_append] at hw
  rcases hw with hw | hw | hw | hw | hw | hw | hw | hw | hw | hw | hw | hw | hw | hw | hw | hw | hw | hw | hw | hw | hw | hw
  · exact wl_0 w hw
  · exact wl_1 w hw
  · exact wl_2 w hw
  · exact wl_3 w hw
  · exact wl_4 w hw
  · exact wl_5 w hw
  · exact wl_6 w hw
  · exact wl_7 w hw
  · exact wl_8 w hw
  · exact wl_9 w hw
  · exact wl_10 w hw
  · exact wl_11 w hw
  · exact wx_0 w hw
  · exact wx_1 w hw
  · exact wx_2 w hw
  · exact wx_3 w hw
  · exact wx_4 w hw
  · exact wx_5 w hw
  · exact wx_6 w hw
  · exact wx_7 w hw
  · exact wx_8 w hw
  · exact wx_9 w hw
theorem nf_tbl : ∀ q ∈ Nf, Cond.fieldLinkNest q.1 q.2.1 q.2.2.1 q.2.2.2.1 q.2.2.2.2 "LatheCopies" ∈ lw_tbl := fun q hq => mem_r (Nf.map fun q => Cond.fieldLinkNest q.1 q.2.1 q.2.2.1 q.2.2.2.1 q.2.2.2.2 "LatheCopies") [49, 51, 65, 66, 68, 69, 70, 72, 90, 92, 94, 95, 124, 126, 127, 129, 131, 132, 151, 152, 154, 155, 157, 159, 160, 162, 175, 177, 179, 181, 183, 185, 187, 189, 219] (by decide +kernel) _ (List.mem_map_of_mem hq)
theorem nm_tbl : ∀ q ∈ Nm, Cond.methodLinkNest q.1 q.2.1 q.2.2 "LatheCopies" ∈ lw_tbl := fun q hq => mem_r (Nm.map fun q => Cond.methodLinkNest q.1 q.2.1 q.2.2 "LatheCopies") [38, 60, 85, 105, 146, 209, 231, 579] (by decide +kernel) _ (List.mem_map_of_mem hq)
