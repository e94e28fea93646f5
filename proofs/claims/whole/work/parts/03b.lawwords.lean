set_option maxRecDepth 20000 in
theorem wsL_law0_r1_in : ∀ w ∈ wsL_law0_r1, w ∈ lw_tbl := fun w h => (goodIn_r (big := lw_tbl) wsL_law0_r1 [44, 45, 33, 501, 502, 35, 774, 775, 46, 47, 48, 49, 50, 51, 52, 53, 34, 88, 89, 90, 91, 92, 54, 55] (by decide +kernel) (by decide +kernel) w h).1
set_option maxRecDepth 20000 in
theorem wsL_law0_r2_in : ∀ w ∈ wsL_law0_r2, w ∈ lw_tbl := fun w h => (goodIn_r (big := lw_tbl) wsL_law0_r2 [56, 57, 62, 80, 64, 65, 66, 81, 82, 83, 84, 58, 60, 86, 87, 503, 504, 505, 506, 514, 516, 517, 554, 518] (by decide +kernel) (by decide +kernel) w h).1
set_option maxRecDepth 20000 in
theorem wsL_law0_r3_in : ∀ w ∈ wsL_law0_r3, w ∈ lw_tbl := fun w h => (goodIn_r (big := lw_tbl) wsL_law0_r3 [519, 520, 521, 522, 523, 507, 509, 10, 510, 512, 513, 515, 250, 251, 32, 252, 253, 254, 255, 256, 257, 261, 39, 258] (by decide +kernel) (by decide +kernel) w h).1
set_option maxRecDepth 20000 in
theorem wsL_law0_r4_in : ∀ w ∈ wsL_law0_r4, w ∈ lw_tbl := fun w h => (goodIn_r (big := lw_tbl) wsL_law0_r4 [259, 260, 559, 560, 561, 562, 511, 563, 564, 565, 566, 568, 11, 569, 570, 572, 12, 573, 555, 556, 557, 558, 328, 329] (by decide +kernel) (by decide +kernel) w h).1
set_option maxRecDepth 20000 in
theorem wsL_law0_r5_in : ∀ w ∈ wsL_law0_r5, w ∈ lw_tbl := fun w h => (goodIn_r (big := lw_tbl) wsL_law0_r5 [330, 331, 332, 333, 334, 335, 346, 40, 336, 338, 5, 339, 340, 341, 342, 343, 344, 345, 229, 234, 235, 236, 237, 238] (by decide +kernel) (by decide +kernel) w h).1
set_option maxRecDepth 20000 in
theorem wsL_law0_r6_in : ∀ w ∈ wsL_law0_r6, w ∈ lw_tbl := fun w h => (goodIn_r (big := lw_tbl) wsL_law0_r6 [239, 240, 362, 363, 364, 365, 574, 575, 576, 577, 578, 580, 13, 581, 582, 583, 584, 366, 367, 368, 369, 370, 371, 372] (by decide +kernel) (by decide +kernel) w h).1
set_option maxRecDepth 20000 in
theorem wsL_law0_r7_in : ∀ w ∈ wsL_law0_r7, w ∈ lw_tbl := fun w h => (goodIn_r (big := lw_tbl) wsL_law0_r7 [61, 585, 586, 587, 588, 374, 375, 376, 377, 378, 379, 380, 63, 589, 590, 591, 592, 382, 383, 384, 385, 386, 387, 388] (by decide +kernel) (by decide +kernel) w h).1
set_option maxRecDepth 20000 in
theorem wsL_law0_r8_in : ∀ w ∈ wsL_law0_r8, w ∈ lw_tbl := fun w h => (goodIn_r (big := lw_tbl) wsL_law0_r8 [185, 186, 187, 188, 189, 159, 160, 161, 162, 164, 0, 165, 166, 167, 168, 190, 192, 1, 193, 124, 125, 41, 126, 127] (by decide +kernel) (by decide +kernel) w h).1
set_option maxRecDepth 20000 in
theorem wsL_law0_r9_in : ∀ w ∈ wsL_law0_r9, w ∈ lw_tbl := fun w h => (goodIn_r (big := lw_tbl) wsL_law0_r9 [128, 129, 593, 594, 595, 596, 597, 599, 14, 600, 609, 611, 610, 42, 601, 603, 15, 604, 605, 607, 16, 608, 390, 391] (by decide +kernel) (by decide +kernel) w h).1
set_option maxRecDepth 20000 in
theorem wsL_law0_r10_in : ∀ w ∈ wsL_law0_r10, w ∈ lw_tbl := fun w h => (goodIn_r (big := lw_tbl) wsL_law0_r10 [392, 393, 394, 395, 396, 612, 613, 614, 615, 397, 398, 399, 400, 401, 402, 403, 616, 617, 618, 619, 404, 405, 406, 407] (by decide +kernel) (by decide +kernel) w h).1
set_option maxRecDepth 20000 in
theorem wsL_law0_r11_in : ∀ w ∈ wsL_law0_r11, w ∈ lw_tbl := fun w h => (goodIn_r (big := lw_tbl) wsL_law0_r11 [408, 409, 410, 411, 220, 221, 412, 139, 140, 141, 620, 621, 622, 623, 413, 414, 415, 416, 417, 418, 419, 158, 241, 242] (by decide +kernel) (by decide +kernel) w h).1
set_option maxRecDepth 20000 in
theorem wsL_law0_r12_in : ∀ w ∈ wsL_law0_r12, w ∈ lw_tbl := fun w h => (goodIn_r (big := lw_tbl) wsL_law0_r12 [243, 244, 245, 624, 625, 626, 627, 420, 421, 422, 423, 424, 425, 426, 246, 247, 248, 249, 138, 216, 217, 218, 145, 628] (by decide +kernel) (by decide +kernel) w h).1
set_option maxRecDepth 20000 in
theorem wsL_law0_r13_in : ∀ w ∈ wsL_law0_r13, w ∈ lw_tbl := fun w h => (goodIn_r (big := lw_tbl) wsL_law0_r13 [629, 630, 631, 632, 634, 17, 635, 524, 636, 638, 18, 639, 640, 642, 19, 643, 104, 105, 106, 107, 644, 645, 646, 647] (by decide +kernel) (by decide +kernel) w h).1
set_option maxRecDepth 20000 in
theorem wsL_law0_r14_in : ∀ w ∈ wsL_law0_r14, w ∈ lw_tbl := fun w h => (goodIn_r (big := lw_tbl) wsL_law0_r14 [108, 109, 110, 111, 648, 649, 650, 651, 112, 113, 114, 115, 652, 653, 654, 655, 116, 117, 118, 119, 656, 657, 658, 659] (by decide +kernel) (by decide +kernel) w h).1
set_option maxRecDepth 20000 in
theorem wsL_law0_r15_in : ∀ w ∈ wsL_law0_r15, w ∈ lw_tbl := fun w h => (goodIn_r (big := lw_tbl) wsL_law0_r15 [120, 121, 122, 123, 660, 661, 662, 663, 664, 666, 20, 667, 427, 428, 429, 430, 431, 432, 433, 150, 151, 152, 153, 668] (by decide +kernel) (by decide +kernel) w h).1
set_option maxRecDepth 20000 in
theorem wsL_law0_r16_in : ∀ w ∈ wsL_law0_r16, w ∈ lw_tbl := fun w h => (goodIn_r (big := lw_tbl) wsL_law0_r16 [669, 670, 671, 672, 674, 21, 675, 435, 436, 437, 438, 439, 440, 441, 212, 213, 214, 215, 676, 677, 678, 679, 680, 681] (by decide +kernel) (by decide +kernel) w h).1
set_option maxRecDepth 20000 in
theorem wsL_law0_r17_in : ∀ w ∈ wsL_law0_r17, w ∈ lw_tbl := fun w h => (goodIn_r (big := lw_tbl) wsL_law0_r17 [682, 683, 685, 22, 686, 687, 227, 43, 228, 442, 443, 444, 445, 446, 447, 448, 222, 223, 224, 225, 226, 688, 689, 690] (by decide +kernel) (by decide +kernel) w h).1
set_option maxRecDepth 20000 in
theorem wsL_law0_r18_in : ∀ w ∈ wsL_law0_r18, w ∈ lw_tbl := fun w h => (goodIn_r (big := lw_tbl) wsL_law0_r18 [691, 130, 131, 132, 133, 134, 135, 136, 137, 142, 143, 144, 692, 693, 694, 695, 696, 698, 23, 699, 146, 147, 148, 149] (by decide +kernel) (by decide +kernel) w h).1
set_option maxRecDepth 20000 in
theorem wsL_law0_r19_in : ∀ w ∈ wsL_law0_r19, w ∈ lw_tbl := fun w h => (goodIn_r (big := lw_tbl) wsL_law0_r19 [700, 701, 702, 703, 704, 706, 24, 707, 154, 155, 156, 157, 708, 709, 710, 711, 712, 714, 25, 715, 169, 170, 171, 172] (by decide +kernel) (by decide +kernel) w h).1
set_option maxRecDepth 20000 in
theorem wsL_law0_r20_in : ∀ w ∈ wsL_law0_r20, w ∈ lw_tbl := fun w h => (goodIn_r (big := lw_tbl) wsL_law0_r20 [173, 174, 175, 176, 716, 717, 718, 719, 720, 722, 26, 723, 177, 178, 179, 180, 181, 182, 183, 184, 724, 725, 726, 727] (by decide +kernel) (by decide +kernel) w h).1
set_option maxRecDepth 20000 in
theorem wsL_law0_r21_in : ∀ w ∈ wsL_law0_r21, w ∈ lw_tbl := fun w h => (goodIn_r (big := lw_tbl) wsL_law0_r21 [728, 730, 27, 731, 732, 734, 28, 735, 449, 450, 451, 452, 453, 454, 455, 456, 458, 6, 459, 736, 737, 738, 739, 740] (by decide +kernel) (by decide +kernel) w h).1
set_option maxRecDepth 20000 in
theorem wsL_law0_r22_in : ∀ w ∈ wsL_law0_r22, w ∈ lw_tbl := fun w h => (goodIn_r (big := lw_tbl) wsL_law0_r22 [742, 29, 743, 460, 461, 462, 463, 464, 465, 466, 467, 469, 7, 470, 744, 745, 746, 747, 748, 750, 30, 751, 752, 754] (by decide +kernel) (by decide +kernel) w h).1
set_option maxRecDepth 20000 in
theorem wsL_law0_r23_in : ∀ w ∈ wsL_law0_r23, w ∈ lw_tbl := fun w h => (goodIn_r (big := lw_tbl) wsL_law0_r23 [31, 755, 471, 472, 473, 474, 475, 476, 477, 478, 480, 8, 481, 59, 482, 484, 9, 485, 756, 757, 758, 759, 486, 487] (by decide +kernel) (by decide +kernel) w h).1
set_option maxRecDepth 20000 in
theorem wsL_law0_r24_in : ∀ w ∈ wsL_law0_r24, w ∈ lw_tbl := fun w h => (goodIn_r (big := lw_tbl) wsL_law0_r24 [488, 489, 490, 491, 492, 760, 761, 762, 763, 494, 495, 496, 497, 498, 499, 500, 764, 765, 766, 767, 194, 195, 196, 197] (by decide +kernel) (by decide +kernel) w h).1
set_option maxRecDepth 20000 in
theorem wsL_law0_r25_in : ∀ w ∈ wsL_law0_r25, w ∈ lw_tbl := fun w h => (goodIn_r (big := lw_tbl) wsL_law0_r25 [198, 200, 2, 201, 202, 203, 204, 205, 206, 207, 208, 209, 210, 211, 230, 232, 3, 233, 768, 769, 770, 771, 772, 773] (by decide +kernel) (by decide +kernel) w h).1
theorem z_ap {big a b : List Cond} (h1 : ∀ w ∈ a, w ∈ big) (h2 : ∀ w ∈ b, w ∈ big) : ∀ w ∈ a ++ b, w ∈ big := fun w h => (List.mem_append.mp h).elim (h1 w) (h2 w)
set_option maxRecDepth 20000 in
theorem wsX10_in : ∀ w ∈ wsX10, w ∈ lw_tbl := fun w h => (goodIn_r (big := lw_tbl) wsX10 [93, 95, 97, 99, 101] (by decide +kernel) (by decide +kernel) w h).1
set_option maxRecDepth 20000 in
theorem wsX20_in : ∀ w ∈ wsX20, w ∈ lw_tbl := fun w h => (goodIn_r (big := lw_tbl) wsX20 [525, 527, 529, 531, 533, 535, 537, 539, 541, 543, 545, 547, 549, 551] (by decide +kernel) (by decide +kernel) w h).1
set_option maxRecDepth 20000 in
theorem wsX00_in : ∀ w ∈ wsX00, w ∈ lw_tbl := fun w h => (goodIn_r (big := lw_tbl) wsX00 [67, 69, 71, 73, 75, 77] (by decide +kernel) (by decide +kernel) w h).1
theorem wsL_law_in0 : ∀ w ∈ wsL_law0, w ∈ lw_tbl := z_ap (z_ap (z_ap (z_ap (z_ap wsL_law0_r1_in (z_ap wsL_law0_r2_in (z_ap wsL_law0_r3_in (z_ap wsL_law0_r4_in (z_ap wsL_law0_r5_in (z_ap wsL_law0_r6_in (z_ap wsL_law0_r7_in (z_ap wsL_law0_r8_in (z_ap wsL_law0_r9_in (z_ap wsL_law0_r10_in (z_ap wsL_law0_r11_in (z_ap wsL_law0_r12_in (z_ap wsL_law0_r13_in (z_ap wsL_law0_r14_in (z_ap wsL_law0_r15_in (z_ap wsL_law0_r16_in (z_ap wsL_law0_r17_in (z_ap wsL_law0_r18_in (z_ap wsL_law0_r19_in (z_ap wsL_law0_r20_in (z_ap wsL_law0_r21_in (z_ap wsL_law0_r22_in (z_ap wsL_law0_r23_in (z_ap wsL_law0_r24_in (wsL_law0_r25_in))))))))))))))))))))))))) wsX10_in) wsX20_in) wsX00_in) (fun w h => by cases h)
theorem wsL_law_x0 : ∀ w ∈ (vx_atS RX1 41 "java/lang/IllegalArgumentException" ["java/lang/RuntimeException", "java/lang/Exception"]).filter goodWord, w ∈ lw_tbl := by decide +kernel
theorem wsL_law_x1 : ∀ w ∈ (vx_atS RX1 55 "java/lang/IndexOutOfBoundsException" ["java/lang/RuntimeException", "java/lang/Exception"]).filter goodWord, w ∈ lw_tbl := by decide +kernel
theorem wsL_law_in : ∀ w ∈ wsL_law, w ∈ lw_tbl := fun w h => (List.mem_append.mp h).elim (fun h => (List.mem_append.mp h).elim (fun h => wsL_law_in0 w h) (fun h => wsL_law_x0 w h)) (fun h => wsL_law_x1 w h)
theorem inlX0 : ∀ w ∈ wsX00, w ∈ wsL_law := fun _ h => List.mem_append_left _ (List.mem_append_left _ (List.mem_append_left _ (List.mem_append_right _ h)))
theorem inX0 : ∀ w ∈ wsX00, w ∈ lw_tbl := fun w h => wsL_law_in w (inlX0 w h)
theorem inlX1 : ∀ w ∈ wsX10, w ∈ wsL_law := fun _ h => List.mem_append_left _ (List.mem_append_left _ (List.mem_append_left _ (List.mem_append_left _ (List.mem_append_left _ (List.mem_append_right _ h)))))
theorem inX1 : ∀ w ∈ wsX10, w ∈ lw_tbl := fun w h => wsL_law_in w (inlX1 w h)
theorem inlX2 : ∀ w ∈ wsX20, w ∈ wsL_law := fun _ h => List.mem_append_left _ (List.mem_append_left _ (List.mem_append_left _ (List.mem_append_left _ (List.mem_append_right _ h))))
theorem inX2 : ∀ w ∈ wsX20, w ∈ lw_tbl := fun w h => wsL_law_in w (inlX2 w h)
theorem inJ6 : ∀ w ∈ wsJ60, w ∈ lw_tbl := by decide +kernel
theorem inJ9 : ∀ w ∈ wsJ90, w ∈ lw_tbl := by decide +kernel
theorem inJ0 : ∀ w ∈ wsJ00, w ∈ lw_tbl := by decide +kernel
theorem inJ10 : ∀ w ∈ wsJ100, w ∈ lw_tbl := by decide +kernel
