/-! the law's code, by blocks -/
abbrev bL_0 : xCd := [(.new 7, 3, 0), (.dup, 4, 0), (.invokespecial 9, 7, 0), (.astore_n 1, 8, 0), (.new 10, 11, 0), (.dup, 12, 0), (.invokespecial 12, 15, 0), (.astore_n 2, 16, 0), (.iconst 0, 17, 0), (.istore_n 3, 18, 0)]
set_option maxRecDepth 100000 in
theorem kL_0 : xcl1 code 0 bL_0 = true := by decide +kernel
abbrev bL_18 : xCd := [(.iload_n 3, 19, 0), (.aload_n 0, 20, 0), (.arraylength, 21, 0), (.iconst 5, 22, 0), (.isub, 23, 0), (.if_icmp .gt 827, 26, 850), (.aload_n 0, 27, 0), (.iload_n 3, 28, 0), (.iaload, 29, 0), (.bipush 31, 31, 0), (.iand, 32, 0), (.tableswitch 812 0 24 #[116, 149, 182, 205, 218, 231, 254, 287, 320, 353, 376, 399, 432, 445, 458, 481, 504, 517, 570, 603, 646, 679, 722, 775, 798], 148, 0)]
set_option maxRecDepth 100000 in
theorem kL_18 : xcl1 code 18 bL_18 = true := by decide +kernel
abbrev bL_148 : xCd := [(.aload_n 1, 149, 0), (.aload_n 0, 150, 0), (.iload_n 3, 151, 0), (.iconst 1, 152, 0), (.iadd, 153, 0), (.iaload, 154, 0), (.aload_n 0, 155, 0), (.iload_n 3, 156, 0), (.iconst 2, 157, 0), (.iadd, 158, 0), (.iaload, 159, 0), (.invokevirtual 13, 162, 0), (.aload_n 2, 163, 0), (.aload_n 0, 164, 0), (.iload_n 3, 165, 0), (.iconst 1, 166, 0), (.iadd, 167, 0), (.iaload, 168, 0), (.aload_n 0, 169, 0), (.iload_n 3, 170, 0), (.iconst 2, 171, 0), (.iadd, 172, 0), (.iaload, 173, 0), (.invokevirtual 17, 176, 0), (.if_icmp .eq 668, 179, 844), (.iconst 0, 180, 0), (.ireturn, 181, 0)]
set_option maxRecDepth 100000 in
theorem kL_148 : xcl1 code 148 bL_148 = true := by decide +kernel
abbrev bL_181 : xCd := [(.aload_n 1, 182, 0), (.aload_n 0, 183, 0), (.iload_n 3, 184, 0), (.iconst 1, 185, 0), (.iadd, 186, 0), (.iaload, 187, 0), (.aload_n 0, 188, 0), (.iload_n 3, 189, 0), (.iconst 2, 190, 0), (.iadd, 191, 0), (.iaload, 192, 0), (.invokevirtual 18, 195, 0), (.aload_n 2, 196, 0), (.aload_n 0, 197, 0), (.iload_n 3, 198, 0), (.iconst 1, 199, 0), (.iadd, 200, 0), (.iaload, 201, 0), (.aload_n 0, 202, 0), (.iload_n 3, 203, 0), (.iconst 2, 204, 0), (.iadd, 205, 0), (.iaload, 206, 0), (.invokevirtual 21, 209, 0), (.if_icmp .eq 635, 212, 844), (.iconst 0, 213, 0), (.ireturn, 214, 0)]
set_option maxRecDepth 100000 in
theorem kL_181 : xcl1 code 181 bL_181 = true := by decide +kernel
abbrev bL_214 : xCd := [(.aload_n 1, 215, 0), (.aload_n 0, 216, 0), (.iload_n 3, 217, 0), (.iconst 1, 218, 0), (.iadd, 219, 0), (.iaload, 220, 0), (.invokevirtual 22, 223, 0), (.aload_n 2, 224, 0), (.aload_n 0, 225, 0), (.iload_n 3, 226, 0), (.iconst 1, 227, 0), (.iadd, 228, 0), (.iaload, 229, 0), (.invokevirtual 26, 232, 0), (.if_icmp .eq 612, 235, 844), (.iconst 0, 236, 0), (.ireturn, 237, 0)]
set_option maxRecDepth 100000 in
theorem kL_214 : xcl1 code 214 bL_214 = true := by decide +kernel
abbrev bL_237 : xCd := [(.aload_n 1, 238, 0), (.invokevirtual 27, 241, 0), (.aload_n 2, 242, 0), (.invokevirtual 31, 245, 0), (.if_icmp .eq 599, 248, 844), (.iconst 0, 249, 0), (.ireturn, 250, 0)]
set_option maxRecDepth 100000 in
theorem kL_237 : xcl1 code 237 bL_237 = true := by decide +kernel
abbrev bL_250 : xCd := [(.aload_n 1, 251, 0), (.invokevirtual 32, 254, 0), (.aload_n 2, 255, 0), (.invokevirtual 35, 258, 0), (.if_icmp .eq 586, 261, 844), (.iconst 0, 262, 0), (.ireturn, 263, 0)]
set_option maxRecDepth 100000 in
theorem kL_250 : xcl1 code 250 bL_250 = true := by decide +kernel
abbrev bL_263 : xCd := [(.aload_n 1, 264, 0), (.aload_n 0, 265, 0), (.iload_n 3, 266, 0), (.iconst 1, 267, 0), (.iadd, 268, 0), (.iaload, 269, 0), (.invokevirtual 36, 272, 0), (.aload_n 2, 273, 0), (.aload_n 0, 274, 0), (.iload_n 3, 275, 0), (.iconst 1, 276, 0), (.iadd, 277, 0), (.iaload, 278, 0), (.invokevirtual 39, 281, 0), (.if_icmp .eq 563, 284, 844), (.iconst 0, 285, 0), (.ireturn, 286, 0)]
set_option maxRecDepth 100000 in
theorem kL_263 : xcl1 code 263 bL_263 = true := by decide +kernel
abbrev bL_286 : xCd := [(.aload_n 1, 287, 0), (.aload_n 0, 288, 0), (.iload_n 3, 289, 0), (.iconst 1, 290, 0), (.iadd, 291, 0), (.iaload, 292, 0), (.aload_n 0, 293, 0), (.iload_n 3, 294, 0), (.iconst 2, 295, 0), (.iadd, 296, 0), (.iaload, 297, 0), (.invokevirtual 40, 300, 0), (.aload_n 2, 301, 0), (.aload_n 0, 302, 0), (.iload_n 3, 303, 0), (.iconst 1, 304, 0), (.iadd, 305, 0), (.iaload, 306, 0), (.aload_n 0, 307, 0), (.iload_n 3, 308, 0), (.iconst 2, 309, 0), (.iadd, 310, 0), (.iaload, 311, 0), (.invokevirtual 43, 314, 0), (.if_icmp .eq 530, 317, 844), (.iconst 0, 318, 0), (.ireturn, 319, 0)]
set_option maxRecDepth 100000 in
theorem kL_286 : xcl1 code 286 bL_286 = true := by decide +kernel
abbrev bL_319 : xCd := [(.aload_n 1, 320, 0), (.aload_n 0, 321, 0), (.iload_n 3, 322, 0), (.iconst 1, 323, 0), (.iadd, 324, 0), (.iaload, 325, 0), (.aload_n 0, 326, 0), (.iload_n 3, 327, 0), (.iconst 2, 328, 0), (.iadd, 329, 0), (.iaload, 330, 0), (.invokevirtual 44, 333, 0), (.aload_n 2, 334, 0), (.aload_n 0, 335, 0), (.iload_n 3, 336, 0), (.iconst 1, 337, 0), (.iadd, 338, 0), (.iaload, 339, 0), (.aload_n 0, 340, 0), (.iload_n 3, 341, 0), (.iconst 2, 342, 0), (.iadd, 343, 0), (.iaload, 344, 0), (.invokevirtual 47, 347, 0), (.if_icmp .eq 497, 350, 844), (.iconst 0, 351, 0), (.ireturn, 352, 0)]
set_option maxRecDepth 100000 in
theorem kL_319 : xcl1 code 319 bL_319 = true := by decide +kernel
abbrev bL_352 : xCd := [(.aload_n 1, 353, 0), (.aload_n 0, 354, 0), (.iload_n 3, 355, 0), (.iconst 1, 356, 0), (.iadd, 357, 0), (.iaload, 358, 0), (.aload_n 0, 359, 0), (.iload_n 3, 360, 0), (.iconst 2, 361, 0), (.iadd, 362, 0), (.iaload, 363, 0), (.invokevirtual 48, 366, 0), (.aload_n 2, 367, 0), (.aload_n 0, 368, 0), (.iload_n 3, 369, 0), (.iconst 1, 370, 0), (.iadd, 371, 0), (.iaload, 372, 0), (.aload_n 0, 373, 0), (.iload_n 3, 374, 0), (.iconst 2, 375, 0), (.iadd, 376, 0), (.iaload, 377, 0), (.invokevirtual 51, 380, 0), (.if_icmp .eq 464, 383, 844), (.iconst 0, 384, 0), (.ireturn, 385, 0)]
set_option maxRecDepth 100000 in
theorem kL_352 : xcl1 code 352 bL_352 = true := by decide +kernel
abbrev bL_385 : xCd := [(.aload_n 1, 386, 0), (.aload_n 0, 387, 0), (.iload_n 3, 388, 0), (.iconst 1, 389, 0), (.iadd, 390, 0), (.iaload, 391, 0), (.invokevirtual 52, 394, 0), (.aload_n 2, 395, 0), (.aload_n 0, 396, 0), (.iload_n 3, 397, 0), (.iconst 1, 398, 0), (.iadd, 399, 0), (.iaload, 400, 0), (.invokevirtual 55, 403, 0), (.if_icmp .eq 441, 406, 844), (.iconst 0, 407, 0), (.ireturn, 408, 0)]
set_option maxRecDepth 100000 in
theorem kL_385 : xcl1 code 385 bL_385 = true := by decide +kernel
abbrev bL_408 : xCd := [(.aload_n 1, 409, 0), (.aload_n 0, 410, 0), (.iload_n 3, 411, 0), (.iconst 1, 412, 0), (.iadd, 413, 0), (.iaload, 414, 0), (.invokevirtual 56, 417, 0), (.aload_n 2, 418, 0), (.aload_n 0, 419, 0), (.iload_n 3, 420, 0), (.iconst 1, 421, 0), (.iadd, 422, 0), (.iaload, 423, 0), (.invokevirtual 59, 426, 0), (.if_icmp .eq 418, 429, 844), (.iconst 0, 430, 0), (.ireturn, 431, 0)]
set_option maxRecDepth 100000 in
theorem kL_408 : xcl1 code 408 bL_408 = true := by decide +kernel
abbrev bL_431 : xCd := [(.aload_n 1, 432, 0), (.aload_n 0, 433, 0), (.iload_n 3, 434, 0), (.iconst 1, 435, 0), (.iadd, 436, 0), (.iaload, 437, 0), (.aload_n 0, 438, 0), (.iload_n 3, 439, 0), (.iconst 2, 440, 0), (.iadd, 441, 0), (.iaload, 442, 0), (.invokevirtual 60, 445, 0), (.aload_n 2, 446, 0), (.aload_n 0, 447, 0), (.iload_n 3, 448, 0), (.iconst 1, 449, 0), (.iadd, 450, 0), (.iaload, 451, 0), (.aload_n 0, 452, 0), (.iload_n 3, 453, 0), (.iconst 2, 454, 0), (.iadd, 455, 0), (.iaload, 456, 0), (.invokevirtual 63, 459, 0), (.if_icmp .eq 385, 462, 844), (.iconst 0, 463, 0), (.ireturn, 464, 0)]
set_option maxRecDepth 100000 in
theorem kL_431 : xcl1 code 431 bL_431 = true := by decide +kernel
abbrev bL_464 : xCd := [(.aload_n 1, 465, 0), (.invokevirtual 64, 468, 0), (.aload_n 2, 469, 0), (.invokevirtual 67, 472, 0), (.if_icmp .eq 372, 475, 844), (.iconst 0, 476, 0), (.ireturn, 477, 0)]
set_option maxRecDepth 100000 in
theorem kL_464 : xcl1 code 464 bL_464 = true := by decide +kernel
abbrev bL_477 : xCd := [(.aload_n 1, 478, 0), (.invokevirtual 68, 481, 0), (.aload_n 2, 482, 0), (.invokevirtual 71, 485, 0), (.if_icmp .eq 359, 488, 844), (.iconst 0, 489, 0), (.ireturn, 490, 0)]
set_option maxRecDepth 100000 in
theorem kL_477 : xcl1 code 477 bL_477 = true := by decide +kernel
abbrev bL_490 : xCd := [(.aload_n 1, 491, 0), (.aload_n 0, 492, 0), (.iload_n 3, 493, 0), (.iconst 1, 494, 0), (.iadd, 495, 0), (.iaload, 496, 0), (.invokevirtual 72, 499, 0), (.aload_n 2, 500, 0), (.aload_n 0, 501, 0), (.iload_n 3, 502, 0), (.iconst 1, 503, 0), (.iadd, 504, 0), (.iaload, 505, 0), (.invokevirtual 75, 508, 0), (.if_icmp .eq 336, 511, 844), (.iconst 0, 512, 0), (.ireturn, 513, 0)]
set_option maxRecDepth 100000 in
theorem kL_490 : xcl1 code 490 bL_490 = true := by decide +kernel
abbrev bL_513 : xCd := [(.aload_n 1, 514, 0), (.aload_n 0, 515, 0), (.iload_n 3, 516, 0), (.iconst 1, 517, 0), (.iadd, 518, 0), (.iaload, 519, 0), (.invokevirtual 76, 522, 0), (.aload_n 2, 523, 0), (.aload_n 0, 524, 0), (.iload_n 3, 525, 0), (.iconst 1, 526, 0), (.iadd, 527, 0), (.iaload, 528, 0), (.invokevirtual 79, 531, 0), (.if_icmp .eq 313, 534, 844), (.iconst 0, 535, 0), (.ireturn, 536, 0)]
set_option maxRecDepth 100000 in
theorem kL_513 : xcl1 code 513 bL_513 = true := by decide +kernel
abbrev bL_536 : xCd := [(.aload_n 1, 537, 0), (.invokevirtual 80, 540, 0), (.aload_n 2, 541, 0), (.invokevirtual 83, 544, 0), (.if_icmp .eq 300, 547, 844), (.iconst 0, 548, 0), (.ireturn, 549, 0)]
set_option maxRecDepth 100000 in
theorem kL_536 : xcl1 code 536 bL_536 = true := by decide +kernel
abbrev bL_549 : xCd := [(.aload_n 1, 550, 0), (.aload_n 0, 551, 0), (.iload_n 3, 552, 0), (.iconst 1, 553, 0), (.iadd, 554, 0), (.iaload, 555, 0), (.aload_n 0, 556, 0), (.iload_n 3, 557, 0), (.iconst 2, 558, 0), (.iadd, 559, 0), (.iaload, 560, 0), (.aload_n 0, 561, 0), (.iload_n 3, 562, 0), (.iconst 3, 563, 0), (.iadd, 564, 0), (.iaload, 565, 0), (.aload_n 0, 566, 0), (.iload_n 3, 567, 0), (.iconst 4, 568, 0), (.iadd, 569, 0), (.iaload, 570, 0), (.invokevirtual 84, 573, 0), (.aload_n 2, 574, 0), (.aload_n 0, 575, 0), (.iload_n 3, 576, 0), (.iconst 1, 577, 0), (.iadd, 578, 0), (.iaload, 579, 0), (.aload_n 0, 580, 0), (.iload_n 3, 581, 0), (.iconst 2, 582, 0), (.iadd, 583, 0), (.iaload, 584, 0), (.aload_n 0, 585, 0), (.iload_n 3, 586, 0), (.iconst 3, 587, 0), (.iadd, 588, 0), (.iaload, 589, 0), (.aload_n 0, 590, 0), (.iload_n 3, 591, 0), (.iconst 4, 592, 0), (.iadd, 593, 0), (.iaload, 594, 0), (.invokevirtual 88, 597, 0), (.if_icmp .eq 247, 600, 844), (.iconst 0, 601, 0), (.ireturn, 602, 0)]
set_option maxRecDepth 100000 in
theorem kL_549 : xcl1 code 549 bL_549 = true := by decide +kernel
abbrev bL_602 : xCd := [(.aload_n 1, 603, 0), (.aload_n 0, 604, 0), (.iload_n 3, 605, 0), (.iconst 1, 606, 0), (.iadd, 607, 0), (.iaload, 608, 0), (.aload_n 0, 609, 0), (.iload_n 3, 610, 0), (.iconst 2, 611, 0), (.iadd, 612, 0), (.iaload, 613, 0), (.invokevirtual 89, 616, 0), (.aload_n 2, 617, 0), (.aload_n 0, 618, 0), (.iload_n 3, 619, 0), (.iconst 1, 620, 0), (.iadd, 621, 0), (.iaload, 622, 0), (.aload_n 0, 623, 0), (.iload_n 3, 624, 0), (.iconst 2, 625, 0), (.iadd, 626, 0), (.iaload, 627, 0), (.invokevirtual 92, 630, 0), (.if_icmp .eq 214, 633, 844), (.iconst 0, 634, 0), (.ireturn, 635, 0)]
set_option maxRecDepth 100000 in
theorem kL_602 : xcl1 code 602 bL_602 = true := by decide +kernel
abbrev bL_635 : xCd := [(.aload_n 1, 636, 0), (.aload_n 0, 637, 0), (.iload_n 3, 638, 0), (.iconst 1, 639, 0), (.iadd, 640, 0), (.iaload, 641, 0), (.aload_n 0, 642, 0), (.iload_n 3, 643, 0), (.iconst 2, 644, 0), (.iadd, 645, 0), (.iaload, 646, 0), (.aload_n 0, 647, 0), (.iload_n 3, 648, 0), (.iconst 3, 649, 0), (.iadd, 650, 0), (.iaload, 651, 0), (.invokevirtual 93, 654, 0), (.aload_n 2, 655, 0), (.aload_n 0, 656, 0), (.iload_n 3, 657, 0), (.iconst 1, 658, 0), (.iadd, 659, 0), (.iaload, 660, 0), (.aload_n 0, 661, 0), (.iload_n 3, 662, 0), (.iconst 2, 663, 0), (.iadd, 664, 0), (.iaload, 665, 0), (.aload_n 0, 666, 0), (.iload_n 3, 667, 0), (.iconst 3, 668, 0), (.iadd, 669, 0), (.iaload, 670, 0), (.invokevirtual 97, 673, 0), (.if_icmp .eq 171, 676, 844), (.iconst 0, 677, 0), (.ireturn, 678, 0)]
set_option maxRecDepth 100000 in
theorem kL_635 : xcl1 code 635 bL_635 = true := by decide +kernel
abbrev bL_678 : xCd := [(.aload_n 1, 679, 0), (.aload_n 0, 680, 0), (.iload_n 3, 681, 0), (.iconst 1, 682, 0), (.iadd, 683, 0), (.iaload, 684, 0), (.aload_n 0, 685, 0), (.iload_n 3, 686, 0), (.iconst 2, 687, 0), (.iadd, 688, 0), (.iaload, 689, 0), (.invokevirtual 98, 692, 0), (.aload_n 2, 693, 0), (.aload_n 0, 694, 0), (.iload_n 3, 695, 0), (.iconst 1, 696, 0), (.iadd, 697, 0), (.iaload, 698, 0), (.aload_n 0, 699, 0), (.iload_n 3, 700, 0), (.iconst 2, 701, 0), (.iadd, 702, 0), (.iaload, 703, 0), (.invokevirtual 101, 706, 0), (.if_icmp .eq 138, 709, 844), (.iconst 0, 710, 0), (.ireturn, 711, 0)]
set_option maxRecDepth 100000 in
theorem kL_678 : xcl1 code 678 bL_678 = true := by decide +kernel
abbrev bL_711 : xCd := [(.aload_n 1, 712, 0), (.aload_n 0, 713, 0), (.iload_n 3, 714, 0), (.iconst 1, 715, 0), (.iadd, 716, 0), (.iaload, 717, 0), (.aload_n 0, 718, 0), (.iload_n 3, 719, 0), (.iconst 2, 720, 0), (.iadd, 721, 0), (.iaload, 722, 0), (.aload_n 0, 723, 0), (.iload_n 3, 724, 0), (.iconst 3, 725, 0), (.iadd, 726, 0), (.iaload, 727, 0), (.invokevirtual 102, 730, 0), (.aload_n 2, 731, 0), (.aload_n 0, 732, 0), (.iload_n 3, 733, 0), (.iconst 1, 734, 0), (.iadd, 735, 0), (.iaload, 736, 0), (.aload_n 0, 737, 0), (.iload_n 3, 738, 0), (.iconst 2, 739, 0), (.iadd, 740, 0), (.iaload, 741, 0), (.aload_n 0, 742, 0), (.iload_n 3, 743, 0), (.iconst 3, 744, 0), (.iadd, 745, 0), (.iaload, 746, 0), (.invokevirtual 105, 749, 0), (.if_icmp .eq 95, 752, 844), (.iconst 0, 753, 0), (.ireturn, 754, 0)]
set_option maxRecDepth 100000 in
theorem kL_711 : xcl1 code 711 bL_711 = true := by decide +kernel
abbrev bL_754 : xCd := [(.aload_n 1, 755, 0), (.aload_n 0, 756, 0), (.iload_n 3, 757, 0), (.iconst 1, 758, 0), (.iadd, 759, 0), (.iaload, 760, 0), (.aload_n 0, 761, 0), (.iload_n 3, 762, 0), (.iconst 2, 763, 0), (.iadd, 764, 0), (.iaload, 765, 0), (.aload_n 0, 766, 0), (.iload_n 3, 767, 0), (.iconst 3, 768, 0), (.iadd, 769, 0), (.iaload, 770, 0), (.aload_n 0, 771, 0), (.iload_n 3, 772, 0), (.iconst 4, 773, 0), (.iadd, 774, 0), (.iaload, 775, 0), (.invokevirtual 106, 778, 0), (.aload_n 2, 779, 0), (.aload_n 0, 780, 0), (.iload_n 3, 781, 0), (.iconst 1, 782, 0), (.iadd, 783, 0), (.iaload, 784, 0), (.aload_n 0, 785, 0), (.iload_n 3, 786, 0), (.iconst 2, 787, 0), (.iadd, 788, 0), (.iaload, 789, 0), (.aload_n 0, 790, 0), (.iload_n 3, 791, 0), (.iconst 3, 792, 0), (.iadd, 793, 0), (.iaload, 794, 0), (.aload_n 0, 795, 0), (.iload_n 3, 796, 0), (.iconst 4, 797, 0), (.iadd, 798, 0), (.iaload, 799, 0), (.invokevirtual 109, 802, 0), (.if_icmp .eq 42, 805, 844), (.iconst 0, 806, 0), (.ireturn, 807, 0)]
set_option maxRecDepth 100000 in
theorem kL_754 : xcl1 code 754 bL_754 = true := by decide +kernel
abbrev bL_807 : xCd := [(.aload_n 1, 808, 0), (.aload_n 0, 809, 0), (.iload_n 3, 810, 0), (.iconst 1, 811, 0), (.iadd, 812, 0), (.iaload, 813, 0), (.invokevirtual 110, 816, 0), (.aload_n 2, 817, 0), (.aload_n 0, 818, 0), (.iload_n 3, 819, 0), (.iconst 1, 820, 0), (.iadd, 821, 0), (.iaload, 822, 0), (.invokevirtual 113, 825, 0), (.if_icmp .eq 19, 828, 844), (.iconst 0, 829, 0), (.ireturn, 830, 0)]
set_option maxRecDepth 100000 in
theorem kL_807 : xcl1 code 807 bL_807 = true := by decide +kernel
abbrev bL_830 : xCd := [(.aload_n 1, 831, 0), (.invokevirtual 114, 834, 0), (.aload_n 2, 835, 0), (.invokevirtual 118, 838, 0), (.lcmp, 839, 0), (.ifCond .eq 5, 842, 844), (.iconst 0, 843, 0), (.ireturn, 844, 0)]
set_option maxRecDepth 100000 in
theorem kL_830 : xcl1 code 830 bL_830 = true := by decide +kernel
abbrev bL_844 : xCd := [(.iinc 3 5, 847, 0), (.goto (-829), 850, 18)]
set_option maxRecDepth 100000 in
theorem kL_844 : xcl1 code 844 bL_844 = true := by decide +kernel
abbrev bL_850 : xCd := [(.iconst 1, 851, 0), (.ireturn, 852, 0)]
set_option maxRecDepth 100000 in
theorem kL_850 : xcl1 code 850 bL_850 = true := by decide +kernel
abbrev b_Law : xBk := [(0, bL_0), (18, bL_18), (148, bL_148), (181, bL_181), (214, bL_214), (237, bL_237), (250, bL_250), (263, bL_263), (286, bL_286), (319, bL_319), (352, bL_352), (385, bL_385), (408, bL_408), (431, bL_431), (464, bL_464), (477, bL_477), (490, bL_490), (513, bL_513), (536, bL_536), (549, bL_549), (602, bL_602), (635, bL_635), (678, bL_678), (711, bL_711), (754, bL_754), (807, bL_807), (830, bL_830), (844, bL_844), (850, bL_850)]
theorem k_Law : xck code b_Law = true := List.all_eq_true.mpr (List.forall_mem_cons.mpr ⟨kL_0, List.forall_mem_cons.mpr ⟨kL_18, List.forall_mem_cons.mpr ⟨kL_148, List.forall_mem_cons.mpr ⟨kL_181, List.forall_mem_cons.mpr ⟨kL_214, List.forall_mem_cons.mpr ⟨kL_237, List.forall_mem_cons.mpr ⟨kL_250, List.forall_mem_cons.mpr ⟨kL_263, List.forall_mem_cons.mpr ⟨kL_286, List.forall_mem_cons.mpr ⟨kL_319, List.forall_mem_cons.mpr ⟨kL_352, List.forall_mem_cons.mpr ⟨kL_385, List.forall_mem_cons.mpr ⟨kL_408, List.forall_mem_cons.mpr ⟨kL_431, List.forall_mem_cons.mpr ⟨kL_464, List.forall_mem_cons.mpr ⟨kL_477, List.forall_mem_cons.mpr ⟨kL_490, List.forall_mem_cons.mpr ⟨kL_513, List.forall_mem_cons.mpr ⟨kL_536, List.forall_mem_cons.mpr ⟨kL_549, List.forall_mem_cons.mpr ⟨kL_602, List.forall_mem_cons.mpr ⟨kL_635, List.forall_mem_cons.mpr ⟨kL_678, List.forall_mem_cons.mpr ⟨kL_711, List.forall_mem_cons.mpr ⟨kL_754, List.forall_mem_cons.mpr ⟨kL_807, List.forall_mem_cons.mpr ⟨kL_830, List.forall_mem_cons.mpr ⟨kL_844, List.forall_mem_cons.mpr ⟨kL_850, fun _ h => absurd h List.not_mem_nil⟩⟩⟩⟩⟩⟩⟩⟩⟩⟩⟩⟩⟩⟩⟩⟩⟩⟩⟩⟩⟩⟩⟩⟩⟩⟩⟩⟩⟩)
