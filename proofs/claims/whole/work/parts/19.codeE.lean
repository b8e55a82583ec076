section AM14E
def tL_law : List (List am_Op) := [[o_new 7 11 3, am_nop, am_nop, o_dup 4, o_cv 7 11 61 2 2 0 7, am_nop, am_nop, o_astore 1 8, o_new 8 38 11, am_nop, am_nop, o_dup 12, o_cv 8 38 112 1 0 0 15, am_nop, am_nop, o_astore 2 16],
  [o_push (.int 0) 17, o_istore 3 18, o_iload 3 19, o_aload 0 20, o_alen 50 21, o_push (.int 6) 23, am_nop, o_bin (fun x y => x - y) 24, o_icmp (fun x y => y < x) 1495 27, am_nop, am_nop, o_aload 0 28, o_iload 3 29, o_iald 50 30, o_push (.int 63) 32, am_nop],
  [o_bin (fun x y => x &&& y) 33, o_sw [(0, 220), (1, 273), (2, 306), (3, 339), (4, 372), (5, 415), (6, 448), (7, 481), (8, 504), (9, 527), (10, 560), (11, 613), (12, 646), (13, 659), (14, 682), (15, 705), (16, 728), (17, 751), (18, 784), (19, 797), (20, 830), (21, 853), (22, 866), (23, 899), (24, 922), (25, 965), (26, 988), (27, 1001), (28, 1034), (29, 1057), (30, 1100), (31, 1143), (32, 1166), (33, 1189), (34, 1252), (35, 1295), (36, 1328), (37, 1361), (38, 1394), (39, 1417), (40, 1440), (41, 1453), (42, 1466)] 1489, am_nop, am_nop, am_nop, am_nop, am_nop, am_nop, am_nop, am_nop, am_nop, am_nop, am_nop, am_nop, am_nop, am_nop],
  [am_nop, am_nop, am_nop, am_nop, am_nop, am_nop, am_nop, am_nop, am_nop, am_nop, am_nop, am_nop, am_nop, am_nop, am_nop, am_nop],
  [am_nop, am_nop, am_nop, am_nop, am_nop, am_nop, am_nop, am_nop, am_nop, am_nop, am_nop, am_nop, am_nop, am_nop, am_nop, am_nop],
  [am_nop, am_nop, am_nop, am_nop, am_nop, am_nop, am_nop, am_nop, am_nop, am_nop, am_nop, am_nop, am_nop, am_nop, am_nop, am_nop],
  [am_nop, am_nop, am_nop, am_nop, am_nop, am_nop, am_nop, am_nop, am_nop, am_nop, am_nop, am_nop, am_nop, am_nop, am_nop, am_nop],
  [am_nop, am_nop, am_nop, am_nop, am_nop, am_nop, am_nop, am_nop, am_nop, am_nop, am_nop, am_nop, am_nop, am_nop, am_nop, am_nop],
  [am_nop, am_nop, am_nop, am_nop, am_nop, am_nop, am_nop, am_nop, am_nop, am_nop, am_nop, am_nop, am_nop, am_nop, am_nop, am_nop],
  [am_nop, am_nop, am_nop, am_nop, am_nop, am_nop, am_nop, am_nop, am_nop, am_nop, am_nop, am_nop, am_nop, am_nop, am_nop, am_nop],
  [am_nop, am_nop, am_nop, am_nop, am_nop, am_nop, am_nop, am_nop, am_nop, am_nop, am_nop, am_nop, am_nop, am_nop, am_nop, am_nop],
  [am_nop, am_nop, am_nop, am_nop, am_nop, am_nop, am_nop, am_nop, am_nop, am_nop, am_nop, am_nop, am_nop, am_nop, am_nop, am_nop],
  [am_nop, am_nop, am_nop, am_nop, am_nop, am_nop, am_nop, am_nop, am_nop, am_nop, am_nop, am_nop, am_nop, am_nop, am_nop, am_nop],
  [am_nop, am_nop, am_nop, am_nop, am_nop, am_nop, am_nop, am_nop, am_nop, am_nop, am_nop, am_nop, o_aload 1 221, o_aload 0 222, o_iload 3 223, o_push (.int 1) 224],
  [o_bin (fun x y => x + y) 225, o_iald 50 226, o_aload 0 227, o_iload 3 228, o_push (.int 2) 229, o_bin (fun x y => x + y) 230, o_iald 50 231, o_aload 0 232, o_iload 3 233, o_push (.int 3) 234, o_bin (fun x y => x + y) 235, o_iald 50 236, o_aload 0 237, o_iload 3 238, o_push (.int 4) 239, o_bin (fun x y => x + y) 240],
  [o_iald 50 241, o_cv 7 11 62 5 2 4 244, am_nop, am_nop, o_aload 2 245, o_aload 0 246, o_iload 3 247, o_push (.int 1) 248, o_bin (fun x y => x + y) 249, o_iald 50 250, o_aload 0 251, o_iload 3 252, o_push (.int 2) 253, o_bin (fun x y => x + y) 254, o_iald 50 255, o_aload 0 256],
  [o_iload 3 257, o_push (.int 3) 258, o_bin (fun x y => x + y) 259, o_iald 50 260, o_aload 0 261, o_iload 3 262, o_push (.int 4) 263, o_bin (fun x y => x + y) 264, o_iald 50 265, o_cv 8 38 126 5 3 4 268, am_nop, am_nop, o_icmp (fun x y => x = y) 1489 271, am_nop, am_nop, o_push (.int 0) 272],
  [o_nret .boolean, o_aload 1 274, o_aload 0 275, o_iload 3 276, o_push (.int 1) 277, o_bin (fun x y => x + y) 278, o_iald 50 279, o_aload 0 280, o_iload 3 281, o_push (.int 2) 282, o_bin (fun x y => x + y) 283, o_iald 50 284, o_cv 7 11 63 4 2 2 287, am_nop, am_nop, o_aload 2 288],
  [o_aload 0 289, o_iload 3 290, o_push (.int 1) 291, o_bin (fun x y => x + y) 292, o_iald 50 293, o_aload 0 294, o_iload 3 295, o_push (.int 2) 296, o_bin (fun x y => x + y) 297, o_iald 50 298, o_cv 8 38 128 3 2 2 301, am_nop, am_nop, o_icmp (fun x y => x = y) 1489 304, am_nop, am_nop],
  [o_push (.int 0) 305, o_nret .boolean, o_aload 1 307, o_aload 0 308, o_iload 3 309, o_push (.int 1) 310, o_bin (fun x y => x + y) 311, o_iald 50 312, o_aload 0 313, o_iload 3 314, o_push (.int 2) 315, o_bin (fun x y => x + y) 316, o_iald 50 317, o_cv 7 11 64 4 1 2 320, am_nop, am_nop],
  [o_aload 2 321, o_aload 0 322, o_iload 3 323, o_push (.int 1) 324, o_bin (fun x y => x + y) 325, o_iald 50 326, o_aload 0 327, o_iload 3 328, o_push (.int 2) 329, o_bin (fun x y => x + y) 330, o_iald 50 331, o_cv 8 38 130 3 2 2 334, am_nop, am_nop, o_icmp (fun x y => x = y) 1489 337, am_nop],
  [am_nop, o_push (.int 0) 338, o_nret .boolean, o_aload 1 340, o_aload 0 341, o_iload 3 342, o_push (.int 1) 343, o_bin (fun x y => x + y) 344, o_iald 50 345, o_aload 0 346, o_iload 3 347, o_push (.int 2) 348, o_bin (fun x y => x + y) 349, o_iald 50 350, o_cv 7 11 65 5 1 2 353, am_nop],
  [am_nop, o_aload 2 354, o_aload 0 355, o_iload 3 356, o_push (.int 1) 357, o_bin (fun x y => x + y) 358, o_iald 50 359, o_aload 0 360, o_iload 3 361, o_push (.int 2) 362, o_bin (fun x y => x + y) 363, o_iald 50 364, o_cv 8 38 131 3 2 2 367, am_nop, am_nop, o_icmp (fun x y => x = y) 1489 370],
  [am_nop, am_nop, o_push (.int 0) 371, o_nret .boolean, o_aload 1 373, o_aload 0 374, o_iload 3 375, o_push (.int 1) 376, o_bin (fun x y => x + y) 377, o_iald 50 378, o_aload 0 379, o_iload 3 380, o_push (.int 2) 381, o_bin (fun x y => x + y) 382, o_iald 50 383, o_aload 0 384],
  [o_iload 3 385, o_push (.int 3) 386, o_bin (fun x y => x + y) 387, o_iald 50 388, o_cv 7 11 66 6 2 3 391, am_nop, am_nop, o_aload 2 392, o_aload 0 393, o_iload 3 394, o_push (.int 1) 395, o_bin (fun x y => x + y) 396, o_iald 50 397, o_aload 0 398, o_iload 3 399, o_push (.int 2) 400],
  [o_bin (fun x y => x + y) 401, o_iald 50 402, o_aload 0 403, o_iload 3 404, o_push (.int 3) 405, o_bin (fun x y => x + y) 406, o_iald 50 407, o_cv 8 38 132 4 2 3 410, am_nop, am_nop, o_icmp (fun x y => x = y) 1489 413, am_nop, am_nop, o_push (.int 0) 414, o_nret .boolean, o_aload 1 416],
  [o_aload 0 417, o_iload 3 418, o_push (.int 1) 419, o_bin (fun x y => x + y) 420, o_iald 50 421, o_aload 0 422, o_iload 3 423, o_push (.int 2) 424, o_bin (fun x y => x + y) 425, o_iald 50 426, o_cv 7 11 67 4 4 2 429, am_nop, am_nop, o_aload 2 430, o_aload 0 431, o_iload 3 432],
  [o_push (.int 1) 433, o_bin (fun x y => x + y) 434, o_iald 50 435, o_aload 0 436, o_iload 3 437, o_push (.int 2) 438, o_bin (fun x y => x + y) 439, o_iald 50 440, o_cv 8 38 134 3 3 2 443, am_nop, am_nop, o_icmp (fun x y => x = y) 1489 446, am_nop, am_nop, o_push (.int 0) 447, o_nret .boolean],
  [o_aload 1 449, o_aload 0 450, o_iload 3 451, o_push (.int 1) 452, o_bin (fun x y => x + y) 453, o_iald 50 454, o_aload 0 455, o_iload 3 456, o_push (.int 2) 457, o_bin (fun x y => x + y) 458, o_iald 50 459, o_cv 7 11 68 4 1 2 462, am_nop, am_nop, o_aload 2 463, o_aload 0 464],
  [o_iload 3 465, o_push (.int 1) 466, o_bin (fun x y => x + y) 467, o_iald 50 468, o_aload 0 469, o_iload 3 470, o_push (.int 2) 471, o_bin (fun x y => x + y) 472, o_iald 50 473, o_cv 8 38 135 3 1 2 476, am_nop, am_nop, o_icmp (fun x y => x = y) 1489 479, am_nop, am_nop, o_push (.int 0) 480],
  [o_nret .boolean, o_aload 1 482, o_aload 0 483, o_iload 3 484, o_push (.int 1) 485, o_bin (fun x y => x + y) 486, o_iald 50 487, o_cv 7 11 69 4 3 1 490, am_nop, am_nop, o_aload 2 491, o_aload 0 492, o_iload 3 493, o_push (.int 1) 494, o_bin (fun x y => x + y) 495, o_iald 50 496],
  [o_cv 8 38 137 7 3 1 499, am_nop, am_nop, o_icmp (fun x y => x = y) 1489 502, am_nop, am_nop, o_push (.int 0) 503, o_nret .boolean, o_aload 1 505, o_aload 0 506, o_iload 3 507, o_push (.int 1) 508, o_bin (fun x y => x + y) 509, o_iald 50 510, o_cv 7 11 70 3 0 1 513, am_nop],
  [am_nop, o_aload 2 514, o_aload 0 515, o_iload 3 516, o_push (.int 1) 517, o_bin (fun x y => x + y) 518, o_iald 50 519, o_cv 8 38 138 2 1 1 522, am_nop, am_nop, o_icmp (fun x y => x = y) 1489 525, am_nop, am_nop, o_push (.int 0) 526, o_nret .boolean, o_aload 1 528],
  [o_aload 0 529, o_iload 3 530, o_push (.int 1) 531, o_bin (fun x y => x + y) 532, o_iald 50 533, o_aload 0 534, o_iload 3 535, o_push (.int 2) 536, o_bin (fun x y => x + y) 537, o_iald 50 538, o_cv 7 11 71 6 4 2 541, am_nop, am_nop, o_aload 2 542, o_aload 0 543, o_iload 3 544],
  [o_push (.int 1) 545, o_bin (fun x y => x + y) 546, o_iald 50 547, o_aload 0 548, o_iload 3 549, o_push (.int 2) 550, o_bin (fun x y => x + y) 551, o_iald 50 552, o_cv 8 38 143 5 4 2 555, am_nop, am_nop, o_icmp (fun x y => x = y) 1489 558, am_nop, am_nop, o_push (.int 0) 559, o_nret .boolean],
  [o_aload 1 561, o_aload 0 562, o_iload 3 563, o_push (.int 1) 564, o_bin (fun x y => x + y) 565, o_iald 50 566, o_aload 0 567, o_iload 3 568, o_push (.int 2) 569, o_bin (fun x y => x + y) 570, o_iald 50 571, o_aload 0 572, o_iload 3 573, o_push (.int 3) 574, o_bin (fun x y => x + y) 575, o_iald 50 576],
  [o_aload 0 577, o_iload 3 578, o_push (.int 4) 579, o_bin (fun x y => x + y) 580, o_iald 50 581, o_cv 7 11 72 8 4 4 584, am_nop, am_nop, o_aload 2 585, o_aload 0 586, o_iload 3 587, o_push (.int 1) 588, o_bin (fun x y => x + y) 589, o_iald 50 590, o_aload 0 591, o_iload 3 592],
  [o_push (.int 2) 593, o_bin (fun x y => x + y) 594, o_iald 50 595, o_aload 0 596, o_iload 3 597, o_push (.int 3) 598, o_bin (fun x y => x + y) 599, o_iald 50 600, o_aload 0 601, o_iload 3 602, o_push (.int 4) 603, o_bin (fun x y => x + y) 604, o_iald 50 605, o_cv 8 38 144 7 4 4 608, am_nop, am_nop],
  [o_icmp (fun x y => x = y) 1489 611, am_nop, am_nop, o_push (.int 0) 612, o_nret .boolean, o_aload 1 614, o_aload 0 615, o_iload 3 616, o_push (.int 1) 617, o_bin (fun x y => x + y) 618, o_iald 50 619, o_aload 0 620, o_iload 3 621, o_push (.int 2) 622, o_bin (fun x y => x + y) 623, o_iald 50 624],
  [o_cv 7 11 73 4 1 2 627, am_nop, am_nop, o_aload 2 628, o_aload 0 629, o_iload 3 630, o_push (.int 1) 631, o_bin (fun x y => x + y) 632, o_iald 50 633, o_aload 0 634, o_iload 3 635, o_push (.int 2) 636, o_bin (fun x y => x + y) 637, o_iald 50 638, o_cv 8 38 145 3 2 2 641, am_nop],
  [am_nop, o_icmp (fun x y => x = y) 1489 644, am_nop, am_nop, o_push (.int 0) 645, o_nret .boolean, o_aload 1 647, o_cv 7 11 74 2 0 0 650, am_nop, am_nop, o_aload 2 651, o_cv 8 38 146 1 1 0 654, am_nop, am_nop, o_icmp (fun x y => x = y) 1489 657, am_nop],
  [am_nop, o_push (.int 0) 658, o_nret .boolean, o_aload 1 660, o_aload 0 661, o_iload 3 662, o_push (.int 1) 663, o_bin (fun x y => x + y) 664, o_iald 50 665, o_cv 7 11 75 3 6 1 668, am_nop, am_nop, o_aload 2 669, o_aload 0 670, o_iload 3 671, o_push (.int 1) 672],
  [o_bin (fun x y => x + y) 673, o_iald 50 674, o_cv 8 38 152 4 26 1 677, am_nop, am_nop, o_icmp (fun x y => x = y) 1489 680, am_nop, am_nop, o_push (.int 0) 681, o_nret .boolean, o_aload 1 683, o_aload 0 684, o_iload 3 685, o_push (.int 1) 686, o_bin (fun x y => x + y) 687, o_iald 50 688],
  [o_cv 7 11 76 2 6 1 691, am_nop, am_nop, o_aload 2 692, o_aload 0 693, o_iload 3 694, o_push (.int 1) 695, o_bin (fun x y => x + y) 696, o_iald 50 697, o_cv 8 38 153 2 26 1 700, am_nop, am_nop, o_icmp (fun x y => x = y) 1489 703, am_nop, am_nop, o_push (.int 0) 704],
  [o_nret .boolean, o_aload 1 706, o_aload 0 707, o_iload 3 708, o_push (.int 1) 709, o_bin (fun x y => x + y) 710, o_iald 50 711, o_cv 7 11 77 7 6 1 714, am_nop, am_nop, o_aload 2 715, o_aload 0 716, o_iload 3 717, o_push (.int 1) 718, o_bin (fun x y => x + y) 719, o_iald 50 720],
  [o_cv 8 38 154 6 26 1 723, am_nop, am_nop, o_icmp (fun x y => x = y) 1489 726, am_nop, am_nop, o_push (.int 0) 727, o_nret .boolean, o_aload 1 729, o_aload 0 730, o_iload 3 731, o_push (.int 1) 732, o_bin (fun x y => x + y) 733, o_iald 50 734, o_cv 7 11 78 4 5 1 737, am_nop],
  [am_nop, o_aload 2 738, o_aload 0 739, o_iload 3 740, o_push (.int 1) 741, o_bin (fun x y => x + y) 742, o_iald 50 743, o_cv 8 38 159 2 5 1 746, am_nop, am_nop, o_icmp (fun x y => x = y) 1489 749, am_nop, am_nop, o_push (.int 0) 750, o_nret .boolean, o_aload 1 752],
  [o_aload 0 753, o_iload 3 754, o_push (.int 1) 755, o_bin (fun x y => x + y) 756, o_iald 50 757, o_aload 0 758, o_iload 3 759, o_push (.int 2) 760, o_bin (fun x y => x + y) 761, o_iald 50 762, o_cv 7 11 79 4 6 2 765, am_nop, am_nop, o_aload 2 766, o_aload 0 767, o_iload 3 768],
  [o_push (.int 1) 769, o_bin (fun x y => x + y) 770, o_iald 50 771, o_aload 0 772, o_iload 3 773, o_push (.int 2) 774, o_bin (fun x y => x + y) 775, o_iald 50 776, o_cv 8 38 162 4 26 2 779, am_nop, am_nop, o_icmp (fun x y => x = y) 1489 782, am_nop, am_nop, o_push (.int 0) 783, o_nret .boolean],
  [o_aload 1 785, o_cv 7 11 80 2 5 0 788, am_nop, am_nop, o_aload 2 789, o_cv 8 38 163 2 4 0 792, am_nop, am_nop, o_icmp (fun x y => x = y) 1489 795, am_nop, am_nop, o_push (.int 0) 796, o_nret .boolean, o_aload 1 798, o_aload 0 799, o_iload 3 800],
  [o_push (.int 1) 801, o_bin (fun x y => x + y) 802, o_iald 50 803, o_aload 0 804, o_iload 3 805, o_push (.int 2) 806, o_bin (fun x y => x + y) 807, o_iald 50 808, o_cv 7 11 81 7 6 2 811, am_nop, am_nop, o_aload 2 812, o_aload 0 813, o_iload 3 814, o_push (.int 1) 815, o_bin (fun x y => x + y) 816],
  [o_iald 50 817, o_aload 0 818, o_iload 3 819, o_push (.int 2) 820, o_bin (fun x y => x + y) 821, o_iald 50 822, o_cv 8 38 164 7 26 2 825, am_nop, am_nop, o_icmp (fun x y => x = y) 1489 828, am_nop, am_nop, o_push (.int 0) 829, o_nret .boolean, o_aload 1 831, o_aload 0 832],
  [o_iload 3 833, o_push (.int 1) 834, o_bin (fun x y => x + y) 835, o_iald 50 836, o_cv 7 11 82 2 1 1 839, am_nop, am_nop, o_aload 2 840, o_aload 0 841, o_iload 3 842, o_push (.int 1) 843, o_bin (fun x y => x + y) 844, o_iald 50 845, o_cv 8 38 166 2 2 1 848, am_nop, am_nop],
  [o_icmp (fun x y => x = y) 1489 851, am_nop, am_nop, o_push (.int 0) 852, o_nret .boolean, o_aload 1 854, o_cv 7 11 83 3 1 0 857, am_nop, am_nop, o_aload 2 858, o_cv 8 38 167 3 2 0 861, am_nop, am_nop, o_icmp (fun x y => x = y) 1489 864, am_nop, am_nop],
  [o_push (.int 0) 865, o_nret .boolean, o_aload 1 867, o_aload 0 868, o_iload 3 869, o_push (.int 1) 870, o_bin (fun x y => x + y) 871, o_iald 50 872, o_aload 0 873, o_iload 3 874, o_push (.int 2) 875, o_bin (fun x y => x + y) 876, o_iald 50 877, o_cv 7 11 84 6 6 2 880, am_nop, am_nop],
  [o_aload 2 881, o_aload 0 882, o_iload 3 883, o_push (.int 1) 884, o_bin (fun x y => x + y) 885, o_iald 50 886, o_aload 0 887, o_iload 3 888, o_push (.int 2) 889, o_bin (fun x y => x + y) 890, o_iald 50 891, o_cv 8 38 168 8 4 2 894, am_nop, am_nop, o_icmp (fun x y => x = y) 1489 897, am_nop],
  [am_nop, o_push (.int 0) 898, o_nret .boolean, o_aload 1 900, o_aload 0 901, o_iload 3 902, o_push (.int 1) 903, o_bin (fun x y => x + y) 904, o_iald 50 905, o_cv 7 11 85 2 3 1 908, am_nop, am_nop, o_aload 2 909, o_aload 0 910, o_iload 3 911, o_push (.int 1) 912],
  [o_bin (fun x y => x + y) 913, o_iald 50 914, o_cv 8 38 169 3 2 1 917, am_nop, am_nop, o_icmp (fun x y => x = y) 1489 920, am_nop, am_nop, o_push (.int 0) 921, o_nret .boolean, o_aload 1 923, o_aload 0 924, o_iload 3 925, o_push (.int 1) 926, o_bin (fun x y => x + y) 927, o_iald 50 928],
  [o_aload 0 929, o_iload 3 930, o_push (.int 2) 931, o_bin (fun x y => x + y) 932, o_iald 50 933, o_aload 0 934, o_iload 3 935, o_push (.int 3) 936, o_bin (fun x y => x + y) 937, o_iald 50 938, o_cv 7 11 86 4 1 3 941, am_nop, am_nop, o_aload 2 942, o_aload 0 943, o_iload 3 944],
  [o_push (.int 1) 945, o_bin (fun x y => x + y) 946, o_iald 50 947, o_aload 0 948, o_iload 3 949, o_push (.int 2) 950, o_bin (fun x y => x + y) 951, o_iald 50 952, o_aload 0 953, o_iload 3 954, o_push (.int 3) 955, o_bin (fun x y => x + y) 956, o_iald 50 957, o_cv 8 38 170 6 0 3 960, am_nop, am_nop],
  [o_icmp (fun x y => x = y) 1489 963, am_nop, am_nop, o_push (.int 0) 964, o_nret .boolean, o_aload 1 966, o_aload 0 967, o_iload 3 968, o_push (.int 1) 969, o_bin (fun x y => x + y) 970, o_iald 50 971, o_cv 7 11 87 2 1 1 974, am_nop, am_nop, o_aload 2 975, o_aload 0 976],
  [o_iload 3 977, o_push (.int 1) 978, o_bin (fun x y => x + y) 979, o_iald 50 980, o_cv 8 38 171 2 1 1 983, am_nop, am_nop, o_icmp (fun x y => x = y) 1489 986, am_nop, am_nop, o_push (.int 0) 987, o_nret .boolean, o_aload 1 989, o_cv 7 11 88 2 202 0 992, am_nop, am_nop],
  [o_aload 2 993, o_cv 8 38 183 4 4 0 996, am_nop, am_nop, o_icmp (fun x y => x = y) 1489 999, am_nop, am_nop, o_push (.int 0) 1000, o_nret .boolean, o_aload 1 1002, o_aload 0 1003, o_iload 3 1004, o_push (.int 1) 1005, o_bin (fun x y => x + y) 1006, o_iald 50 1007, o_aload 0 1008],
  [o_iload 3 1009, o_push (.int 2) 1010, o_bin (fun x y => x + y) 1011, o_iald 50 1012, o_cv 7 11 89 4 1 2 1015, am_nop, am_nop, o_aload 2 1016, o_aload 0 1017, o_iload 3 1018, o_push (.int 1) 1019, o_bin (fun x y => x + y) 1020, o_iald 50 1021, o_aload 0 1022, o_iload 3 1023, o_push (.int 2) 1024],
  [o_bin (fun x y => x + y) 1025, o_iald 50 1026, o_cv 8 38 184 3 1 2 1029, am_nop, am_nop, o_icmp (fun x y => x = y) 1489 1032, am_nop, am_nop, o_push (.int 0) 1033, o_nret .boolean, o_aload 1 1035, o_aload 0 1036, o_iload 3 1037, o_push (.int 1) 1038, o_bin (fun x y => x + y) 1039, o_iald 50 1040],
  [o_cv 7 11 90 3 1 1 1043, am_nop, am_nop, o_aload 2 1044, o_aload 0 1045, o_iload 3 1046, o_push (.int 1) 1047, o_bin (fun x y => x + y) 1048, o_iald 50 1049, o_cv 8 38 186 3 1 1 1052, am_nop, am_nop, o_icmp (fun x y => x = y) 1489 1055, am_nop, am_nop, o_push (.int 0) 1056],
  [o_nret .boolean, o_aload 1 1058, o_aload 0 1059, o_iload 3 1060, o_push (.int 1) 1061, o_bin (fun x y => x + y) 1062, o_iald 50 1063, o_aload 0 1064, o_iload 3 1065, o_push (.int 2) 1066, o_bin (fun x y => x + y) 1067, o_iald 50 1068, o_aload 0 1069, o_iload 3 1070, o_push (.int 3) 1071, o_bin (fun x y => x + y) 1072],
  [o_iald 50 1073, o_cv 7 11 91 5 2 3 1076, am_nop, am_nop, o_aload 2 1077, o_aload 0 1078, o_iload 3 1079, o_push (.int 1) 1080, o_bin (fun x y => x + y) 1081, o_iald 50 1082, o_aload 0 1083, o_iload 3 1084, o_push (.int 2) 1085, o_bin (fun x y => x + y) 1086, o_iald 50 1087, o_aload 0 1088],
  [o_iload 3 1089, o_push (.int 3) 1090, o_bin (fun x y => x + y) 1091, o_iald 50 1092, o_cv 8 38 191 5 2 3 1095, am_nop, am_nop, o_icmp (fun x y => x = y) 1489 1098, am_nop, am_nop, o_push (.int 0) 1099, o_nret .boolean, o_aload 1 1101, o_aload 0 1102, o_iload 3 1103, o_push (.int 1) 1104],
  [o_bin (fun x y => x + y) 1105, o_iald 50 1106, o_aload 0 1107, o_iload 3 1108, o_push (.int 2) 1109, o_bin (fun x y => x + y) 1110, o_iald 50 1111, o_aload 0 1112, o_iload 3 1113, o_push (.int 3) 1114, o_bin (fun x y => x + y) 1115, o_iald 50 1116, o_cv 7 11 92 5 2 3 1119, am_nop, am_nop, o_aload 2 1120],
  [o_aload 0 1121, o_iload 3 1122, o_push (.int 1) 1123, o_bin (fun x y => x + y) 1124, o_iald 50 1125, o_aload 0 1126, o_iload 3 1127, o_push (.int 2) 1128, o_bin (fun x y => x + y) 1129, o_iald 50 1130, o_aload 0 1131, o_iload 3 1132, o_push (.int 3) 1133, o_bin (fun x y => x + y) 1134, o_iald 50 1135, o_cv 8 38 192 4 2 3 1138],
  [am_nop, am_nop, o_icmp (fun x y => x = y) 1489 1141, am_nop, am_nop, o_push (.int 0) 1142, o_nret .boolean, o_aload 1 1144, o_aload 0 1145, o_iload 3 1146, o_push (.int 1) 1147, o_bin (fun x y => x + y) 1148, o_iald 50 1149, o_cv 7 11 93 7 2 1 1152, am_nop, am_nop],
  [o_aload 2 1153, o_aload 0 1154, o_iload 3 1155, o_push (.int 1) 1156, o_bin (fun x y => x + y) 1157, o_iald 50 1158, o_cv 8 38 193 6 2 1 1161, am_nop, am_nop, o_icmp (fun x y => x = y) 1489 1164, am_nop, am_nop, o_push (.int 0) 1165, o_nret .boolean, o_aload 1 1167, o_aload 0 1168],
  [o_iload 3 1169, o_push (.int 1) 1170, o_bin (fun x y => x + y) 1171, o_iald 50 1172, o_cv 7 11 94 5 2 1 1175, am_nop, am_nop, o_aload 2 1176, o_aload 0 1177, o_iload 3 1178, o_push (.int 1) 1179, o_bin (fun x y => x + y) 1180, o_iald 50 1181, o_cv 8 38 194 4 2 1 1184, am_nop, am_nop],
  [o_icmp (fun x y => x = y) 1489 1187, am_nop, am_nop, o_push (.int 0) 1188, o_nret .boolean, o_aload 1 1190, o_aload 0 1191, o_iload 3 1192, o_push (.int 1) 1193, o_bin (fun x y => x + y) 1194, o_iald 50 1195, o_aload 0 1196, o_iload 3 1197, o_push (.int 2) 1198, o_bin (fun x y => x + y) 1199, o_iald 50 1200],
  [o_aload 0 1201, o_iload 3 1202, o_push (.int 3) 1203, o_bin (fun x y => x + y) 1204, o_iald 50 1205, o_aload 0 1206, o_iload 3 1207, o_push (.int 4) 1208, o_bin (fun x y => x + y) 1209, o_iald 50 1210, o_aload 0 1211, o_iload 3 1212, o_push (.int 5) 1213, o_bin (fun x y => x + y) 1214, o_iald 50 1215, o_cv 7 11 95 8 2 5 1218],
  [am_nop, am_nop, o_aload 2 1219, o_aload 0 1220, o_iload 3 1221, o_push (.int 1) 1222, o_bin (fun x y => x + y) 1223, o_iald 50 1224, o_aload 0 1225, o_iload 3 1226, o_push (.int 2) 1227, o_bin (fun x y => x + y) 1228, o_iald 50 1229, o_aload 0 1230, o_iload 3 1231, o_push (.int 3) 1232],
  [o_bin (fun x y => x + y) 1233, o_iald 50 1234, o_aload 0 1235, o_iload 3 1236, o_push (.int 4) 1237, o_bin (fun x y => x + y) 1238, o_iald 50 1239, o_aload 0 1240, o_iload 3 1241, o_push (.int 5) 1242, o_bin (fun x y => x + y) 1243, o_iald 50 1244, o_cv 8 38 195 7 2 5 1247, am_nop, am_nop, o_icmp (fun x y => x = y) 1489 1250],
  [am_nop, am_nop, o_push (.int 0) 1251, o_nret .boolean, o_aload 1 1253, o_aload 0 1254, o_iload 3 1255, o_push (.int 1) 1256, o_bin (fun x y => x + y) 1257, o_iald 50 1258, o_aload 0 1259, o_iload 3 1260, o_push (.int 2) 1261, o_bin (fun x y => x + y) 1262, o_iald 50 1263, o_aload 0 1264],
  [o_iload 3 1265, o_push (.int 3) 1266, o_bin (fun x y => x + y) 1267, o_iald 50 1268, o_cv 7 11 96 8 2 3 1271, am_nop, am_nop, o_aload 2 1272, o_aload 0 1273, o_iload 3 1274, o_push (.int 1) 1275, o_bin (fun x y => x + y) 1276, o_iald 50 1277, o_aload 0 1278, o_iload 3 1279, o_push (.int 2) 1280],
  [o_bin (fun x y => x + y) 1281, o_iald 50 1282, o_aload 0 1283, o_iload 3 1284, o_push (.int 3) 1285, o_bin (fun x y => x + y) 1286, o_iald 50 1287, o_cv 8 38 196 6 2 3 1290, am_nop, am_nop, o_icmp (fun x y => x = y) 1489 1293, am_nop, am_nop, o_push (.int 0) 1294, o_nret .boolean, o_aload 1 1296],
  [o_aload 0 1297, o_iload 3 1298, o_push (.int 1) 1299, o_bin (fun x y => x + y) 1300, o_iald 50 1301, o_aload 0 1302, o_iload 3 1303, o_push (.int 2) 1304, o_bin (fun x y => x + y) 1305, o_iald 50 1306, o_cv 7 11 97 4 2 2 1309, am_nop, am_nop, o_aload 2 1310, o_aload 0 1311, o_iload 3 1312],
  [o_push (.int 1) 1313, o_bin (fun x y => x + y) 1314, o_iald 50 1315, o_aload 0 1316, o_iload 3 1317, o_push (.int 2) 1318, o_bin (fun x y => x + y) 1319, o_iald 50 1320, o_cv 8 38 197 3 2 2 1323, am_nop, am_nop, o_icmp (fun x y => x = y) 1489 1326, am_nop, am_nop, o_push (.int 0) 1327, o_nret .boolean],
  [o_aload 1 1329, o_aload 0 1330, o_iload 3 1331, o_push (.int 1) 1332, o_bin (fun x y => x + y) 1333, o_iald 50 1334, o_aload 0 1335, o_iload 3 1336, o_push (.int 2) 1337, o_bin (fun x y => x + y) 1338, o_iald 50 1339, o_cv 7 11 98 4 2 2 1342, am_nop, am_nop, o_aload 2 1343, o_aload 0 1344],
  [o_iload 3 1345, o_push (.int 1) 1346, o_bin (fun x y => x + y) 1347, o_iald 50 1348, o_aload 0 1349, o_iload 3 1350, o_push (.int 2) 1351, o_bin (fun x y => x + y) 1352, o_iald 50 1353, o_cv 8 38 198 4 2 2 1356, am_nop, am_nop, o_icmp (fun x y => x = y) 1489 1359, am_nop, am_nop, o_push (.int 0) 1360],
  [o_nret .boolean, o_aload 1 1362, o_aload 0 1363, o_iload 3 1364, o_push (.int 1) 1365, o_bin (fun x y => x + y) 1366, o_iald 50 1367, o_aload 0 1368, o_iload 3 1369, o_push (.int 2) 1370, o_bin (fun x y => x + y) 1371, o_iald 50 1372, o_cv 7 11 99 4 2 2 1375, am_nop, am_nop, o_aload 2 1376],
  [o_aload 0 1377, o_iload 3 1378, o_push (.int 1) 1379, o_bin (fun x y => x + y) 1380, o_iald 50 1381, o_aload 0 1382, o_iload 3 1383, o_push (.int 2) 1384, o_bin (fun x y => x + y) 1385, o_iald 50 1386, o_cv 8 38 199 3 2 2 1389, am_nop, am_nop, o_icmp (fun x y => x = y) 1489 1392, am_nop, am_nop],
  [o_push (.int 0) 1393, o_nret .boolean, o_aload 1 1395, o_aload 0 1396, o_iload 3 1397, o_push (.int 1) 1398, o_bin (fun x y => x + y) 1399, o_iald 50 1400, o_cv 7 11 100 2 0 1 1403, am_nop, am_nop, o_aload 2 1404, o_aload 0 1405, o_iload 3 1406, o_push (.int 1) 1407, o_bin (fun x y => x + y) 1408],
  [o_iald 50 1409, o_cv 8 38 200 2 0 1 1412, am_nop, am_nop, o_icmp (fun x y => x = y) 1489 1415, am_nop, am_nop, o_push (.int 0) 1416, o_nret .boolean, o_aload 1 1418, o_aload 0 1419, o_iload 3 1420, o_push (.int 1) 1421, o_bin (fun x y => x + y) 1422, o_iald 50 1423, o_cv 7 11 101 6 5 1 1426],
  [am_nop, am_nop, o_aload 2 1427, o_aload 0 1428, o_iload 3 1429, o_push (.int 1) 1430, o_bin (fun x y => x + y) 1431, o_iald 50 1432, o_cv 8 38 201 6 4 1 1435, am_nop, am_nop, o_icmp (fun x y => x = y) 1489 1438, am_nop, am_nop, o_push (.int 0) 1439, o_nret .boolean],
  [o_aload 1 1441, o_cv 7 11 102 1 3 0 1444, am_nop, am_nop, o_aload 2 1445, o_cv 8 38 202 1 1 0 1448, am_nop, am_nop, o_icmp (fun x y => x = y) 1489 1451, am_nop, am_nop, o_push (.int 0) 1452, o_nret .boolean, o_aload 1 1454, o_cv 7 11 103 1 3 0 1457, am_nop],
  [am_nop, o_aload 2 1458, o_cv 8 38 203 1 1 0 1461, am_nop, am_nop, o_icmp (fun x y => x = y) 1489 1464, am_nop, am_nop, o_push (.int 0) 1465, o_nret .boolean, o_aload 1 1467, o_aload 0 1468, o_iload 3 1469, o_push (.int 1) 1470, o_bin (fun x y => x + y) 1471, o_iald 50 1472],
  [o_cv 7 11 104 2 1 1 1475, am_nop, am_nop, o_aload 2 1476, o_aload 0 1477, o_iload 3 1478, o_push (.int 1) 1479, o_bin (fun x y => x + y) 1480, o_iald 50 1481, o_cv 8 38 204 2 2 1 1484, am_nop, am_nop, o_icmp (fun x y => x = y) 1489 1487, am_nop, am_nop, o_push (.int 0) 1488],
  [o_nret .boolean, o_iinc 3 6 1492, am_nop, am_nop, o_goto 18, am_nop, am_nop, o_push (.int 1) 1496, o_nret .boolean, am_nop, am_nop, am_nop, am_nop, am_nop, am_nop, am_nop]]
theorem rL_law_0 : am_allR (fun pc o => am_ok am_tb0 cL_law RL 4 (some .boolean) false pc o ∧ am_mo o) 0 (am_nth [] tL_law 0) :=
  And.intro ⟨ok_new dL_law_0 hclX7 inWX7 tyX7_ok (by decide) hdfX7 wd_18 wd_19 wd_1 rfl, mo_new⟩ (
  And.intro ⟨ok_nop, mo_nop⟩ (
  And.intro ⟨ok_nop, mo_nop⟩ (
  And.intro ⟨ok_dup dL_law_3 rfl, mo_dup⟩ (
  And.intro ⟨ok_ci (z := 61) dL_law_4 (by decide) wd_20 wd_21 wd_1 wd_22 rfl (by decide) rfl rfl hy_X7_init rfl, mo_cv⟩ (
  And.intro ⟨ok_nop, mo_nop⟩ (
  And.intro ⟨ok_nop, mo_nop⟩ (
  And.intro ⟨ok_astore_n dL_law_7 rfl (by decide) rfl, mo_astore⟩ (
  And.intro ⟨ok_new dL_law_8 hclX8 inWX8 tyX8_ok (by decide) hdfX8 wd_885 wd_886 wd_8 rfl, mo_new⟩ (
  And.intro ⟨ok_nop, mo_nop⟩ (
  And.intro ⟨ok_nop, mo_nop⟩ (
  And.intro ⟨ok_dup dL_law_11 rfl, mo_dup⟩ (
  And.intro ⟨ok_ci (z := 112) dL_law_12 (by decide) wd_887 wd_888 wd_8 wd_889 rfl (by decide) rfl rfl hy_X8_init rfl, mo_cv⟩ (
  And.intro ⟨ok_nop, mo_nop⟩ (
  And.intro ⟨ok_nop, mo_nop⟩ (
  And.intro ⟨ok_astore_n dL_law_15 rfl (by decide) rfl, mo_astore⟩ (
  trivial))))))))))))))))
theorem rL_law_1 : am_allR (fun pc o => am_ok am_tb0 cL_law RL 4 (some .boolean) false pc o ∧ am_mo o) 16 (am_nth [] tL_law 1) :=
  And.intro ⟨ok_iconst dL_law_16 rfl ic_0, mo_push⟩ (
  And.intro ⟨ok_istore_n dL_law_17 rfl (by decide) rfl, mo_istore⟩ (
  And.intro ⟨ok_iload_n dL_law_18 rfl rfl, mo_iload⟩ (
  And.intro ⟨ok_aload_n dL_law_19 rfl rfl, mo_aload⟩ (
  And.intro ⟨ok_alenFI dL_law_20 rfl, mo_alen⟩ (
  And.intro ⟨ok_bipush dL_law_21 rfl bi_6, mo_push⟩ (
  And.intro ⟨ok_nop, mo_nop⟩ (
  And.intro ⟨ok_isub dL_law_23 rfl, mo_bin⟩ (
  And.intro ⟨ok_icmp_gt dL_law_24 (by decide) rfl, mo_icmp⟩ (
  And.intro ⟨ok_nop, mo_nop⟩ (
  And.intro ⟨ok_nop, mo_nop⟩ (
  And.intro ⟨ok_aload_n dL_law_27 rfl rfl, mo_aload⟩ (
  And.intro ⟨ok_iload_n dL_law_28 rfl rfl, mo_iload⟩ (
  And.intro ⟨ok_ialdF dL_law_29 rfl, mo_iald⟩ (
  And.intro ⟨ok_bipush dL_law_30 rfl bi_63, mo_push⟩ (
  And.intro ⟨ok_nop, mo_nop⟩ (
  trivial))))))))))))))))
theorem rL_law_2 : am_allR (fun pc o => am_ok am_tb0 cL_law RL 4 (some .boolean) false pc o ∧ am_mo o) 32 (am_nth [] tL_law 2) :=
  And.intro ⟨ok_iand dL_law_32 rfl, mo_bin⟩ (
  And.intro ⟨ok_table dL_law_33 (by decide) (by decide +kernel) (by decide +kernel), mo_sw⟩ (
  And.intro ⟨ok_nop, mo_nop⟩ (
  And.intro ⟨ok_nop, mo_nop⟩ (
  And.intro ⟨ok_nop, mo_nop⟩ (
  And.intro ⟨ok_nop, mo_nop⟩ (
  And.intro ⟨ok_nop, mo_nop⟩ (
  And.intro ⟨ok_nop, mo_nop⟩ (
  And.intro ⟨ok_nop, mo_nop⟩ (
  And.intro ⟨ok_nop, mo_nop⟩ (
  And.intro ⟨ok_nop, mo_nop⟩ (
  And.intro ⟨ok_nop, mo_nop⟩ (
  And.intro ⟨ok_nop, mo_nop⟩ (
  And.intro ⟨ok_nop, mo_nop⟩ (
  And.intro ⟨ok_nop, mo_nop⟩ (
  And.intro ⟨ok_nop, mo_nop⟩ (
  trivial))))))))))))))))
theorem rL_law_3 : am_allR (fun pc o => am_ok am_tb0 cL_law RL 4 (some .boolean) false pc o ∧ am_mo o) 48 (am_nth [] tL_law 3) :=
  And.intro ⟨ok_nop, mo_nop⟩ (
  And.intro ⟨ok_nop, mo_nop⟩ (
  And.intro ⟨ok_nop, mo_nop⟩ (
  And.intro ⟨ok_nop, mo_nop⟩ (
  And.intro ⟨ok_nop, mo_nop⟩ (
  And.intro ⟨ok_nop, mo_nop⟩ (
  And.intro ⟨ok_nop, mo_nop⟩ (
  And.intro ⟨ok_nop, mo_nop⟩ (
  And.intro ⟨ok_nop, mo_nop⟩ (
  And.intro ⟨ok_nop, mo_nop⟩ (
  And.intro ⟨ok_nop, mo_nop⟩ (
  And.intro ⟨ok_nop, mo_nop⟩ (
  And.intro ⟨ok_nop, mo_nop⟩ (
  And.intro ⟨ok_nop, mo_nop⟩ (
  And.intro ⟨ok_nop, mo_nop⟩ (
  And.intro ⟨ok_nop, mo_nop⟩ (
  trivial))))))))))))))))
theorem rL_law_4 : am_allR (fun pc o => am_ok am_tb0 cL_law RL 4 (some .boolean) false pc o ∧ am_mo o) 64 (am_nth [] tL_law 4) :=
  And.intro ⟨ok_nop, mo_nop⟩ (
  And.intro ⟨ok_nop, mo_nop⟩ (
  And.intro ⟨ok_nop, mo_nop⟩ (
  And.intro ⟨ok_nop, mo_nop⟩ (
  And.intro ⟨ok_nop, mo_nop⟩ (
  And.intro ⟨ok_nop, mo_nop⟩ (
  And.intro ⟨ok_nop, mo_nop⟩ (
  And.intro ⟨ok_nop, mo_nop⟩ (
  And.intro ⟨ok_nop, mo_nop⟩ (
  And.intro ⟨ok_nop, mo_nop⟩ (
  And.intro ⟨ok_nop, mo_nop⟩ (
  And.intro ⟨ok_nop, mo_nop⟩ (
  And.intro ⟨ok_nop, mo_nop⟩ (
  And.intro ⟨ok_nop, mo_nop⟩ (
  And.intro ⟨ok_nop, mo_nop⟩ (
  And.intro ⟨ok_nop, mo_nop⟩ (
  trivial))))))))))))))))
theorem rL_law_5 : am_allR (fun pc o => am_ok am_tb0 cL_law RL 4 (some .boolean) false pc o ∧ am_mo o) 80 (am_nth [] tL_law 5) :=
  And.intro ⟨ok_nop, mo_nop⟩ (
  And.intro ⟨ok_nop, mo_nop⟩ (
  And.intro ⟨ok_nop, mo_nop⟩ (
  And.intro ⟨ok_nop, mo_nop⟩ (
  And.intro ⟨ok_nop, mo_nop⟩ (
  And.intro ⟨ok_nop, mo_nop⟩ (
  And.intro ⟨ok_nop, mo_nop⟩ (
  And.intro ⟨ok_nop, mo_nop⟩ (
  And.intro ⟨ok_nop, mo_nop⟩ (
  And.intro ⟨ok_nop, mo_nop⟩ (
  And.intro ⟨ok_nop, mo_nop⟩ (
  And.intro ⟨ok_nop, mo_nop⟩ (
  And.intro ⟨ok_nop, mo_nop⟩ (
  And.intro ⟨ok_nop, mo_nop⟩ (
  And.intro ⟨ok_nop, mo_nop⟩ (
  And.intro ⟨ok_nop, mo_nop⟩ (
  trivial))))))))))))))))
theorem rL_law_6 : am_allR (fun pc o => am_ok am_tb0 cL_law RL 4 (some .boolean) false pc o ∧ am_mo o) 96 (am_nth [] tL_law 6) :=
  And.intro ⟨ok_nop, mo_nop⟩ (
  And.intro ⟨ok_nop, mo_nop⟩ (
  And.intro ⟨ok_nop, mo_nop⟩ (
  And.intro ⟨ok_nop, mo_nop⟩ (
  And.intro ⟨ok_nop, mo_nop⟩ (
  And.intro ⟨ok_nop, mo_nop⟩ (
  And.intro ⟨ok_nop, mo_nop⟩ (
  And.intro ⟨ok_nop, mo_nop⟩ (
  And.intro ⟨ok_nop, mo_nop⟩ (
  And.intro ⟨ok_nop, mo_nop⟩ (
  And.intro ⟨ok_nop, mo_nop⟩ (
  And.intro ⟨ok_nop, mo_nop⟩ (
  And.intro ⟨ok_nop, mo_nop⟩ (
  And.intro ⟨ok_nop, mo_nop⟩ (
  And.intro ⟨ok_nop, mo_nop⟩ (
  And.intro ⟨ok_nop, mo_nop⟩ (
  trivial))))))))))))))))
theorem rL_law_7 : am_allR (fun pc o => am_ok am_tb0 cL_law RL 4 (some .boolean) false pc o ∧ am_mo o) 112 (am_nth [] tL_law 7) :=
  And.intro ⟨ok_nop, mo_nop⟩ (
  And.intro ⟨ok_nop, mo_nop⟩ (
  And.intro ⟨ok_nop, mo_nop⟩ (
  And.intro ⟨ok_nop, mo_nop⟩ (
  And.intro ⟨ok_nop, mo_nop⟩ (
  And.intro ⟨ok_nop, mo_nop⟩ (
  And.intro ⟨ok_nop, mo_nop⟩ (
  And.intro ⟨ok_nop, mo_nop⟩ (
  And.intro ⟨ok_nop, mo_nop⟩ (
  And.intro ⟨ok_nop, mo_nop⟩ (
  And.intro ⟨ok_nop, mo_nop⟩ (
  And.intro ⟨ok_nop, mo_nop⟩ (
  And.intro ⟨ok_nop, mo_nop⟩ (
  And.intro ⟨ok_nop, mo_nop⟩ (
  And.intro ⟨ok_nop, mo_nop⟩ (
  And.intro ⟨ok_nop, mo_nop⟩ (
  trivial))))))))))))))))
theorem rL_law_8 : am_allR (fun pc o => am_ok am_tb0 cL_law RL 4 (some .boolean) false pc o ∧ am_mo o) 128 (am_nth [] tL_law 8) :=
  And.intro ⟨ok_nop, mo_nop⟩ (
  And.intro ⟨ok_nop, mo_nop⟩ (
  And.intro ⟨ok_nop, mo_nop⟩ (
  And.intro ⟨ok_nop, mo_nop⟩ (
  And.intro ⟨ok_nop, mo_nop⟩ (
  And.intro ⟨ok_nop, mo_nop⟩ (
  And.intro ⟨ok_nop, mo_nop⟩ (
  And.intro ⟨ok_nop, mo_nop⟩ (
  And.intro ⟨ok_nop, mo_nop⟩ (
  And.intro ⟨ok_nop, mo_nop⟩ (
  And.intro ⟨ok_nop, mo_nop⟩ (
  And.intro ⟨ok_nop, mo_nop⟩ (
  And.intro ⟨ok_nop, mo_nop⟩ (
  And.intro ⟨ok_nop, mo_nop⟩ (
  And.intro ⟨ok_nop, mo_nop⟩ (
  And.intro ⟨ok_nop, mo_nop⟩ (
  trivial))))))))))))))))
theorem rL_law_9 : am_allR (fun pc o => am_ok am_tb0 cL_law RL 4 (some .boolean) false pc o ∧ am_mo o) 144 (am_nth [] tL_law 9) :=
  And.intro ⟨ok_nop, mo_nop⟩ (
  And.intro ⟨ok_nop, mo_nop⟩ (
  And.intro ⟨ok_nop, mo_nop⟩ (
  And.intro ⟨ok_nop, mo_nop⟩ (
  And.intro ⟨ok_nop, mo_nop⟩ (
  And.intro ⟨ok_nop, mo_nop⟩ (
  And.intro ⟨ok_nop, mo_nop⟩ (
  And.intro ⟨ok_nop, mo_nop⟩ (
  And.intro ⟨ok_nop, mo_nop⟩ (
  And.intro ⟨ok_nop, mo_nop⟩ (
  And.intro ⟨ok_nop, mo_nop⟩ (
  And.intro ⟨ok_nop, mo_nop⟩ (
  And.intro ⟨ok_nop, mo_nop⟩ (
  And.intro ⟨ok_nop, mo_nop⟩ (
  And.intro ⟨ok_nop, mo_nop⟩ (
  And.intro ⟨ok_nop, mo_nop⟩ (
  trivial))))))))))))))))
theorem rL_law_10 : am_allR (fun pc o => am_ok am_tb0 cL_law RL 4 (some .boolean) false pc o ∧ am_mo o) 160 (am_nth [] tL_law 10) :=
  And.intro ⟨ok_nop, mo_nop⟩ (
  And.intro ⟨ok_nop, mo_nop⟩ (
  And.intro ⟨ok_nop, mo_nop⟩ (
  And.intro ⟨ok_nop, mo_nop⟩ (
  And.intro ⟨ok_nop, mo_nop⟩ (
  And.intro ⟨ok_nop, mo_nop⟩ (
  And.intro ⟨ok_nop, mo_nop⟩ (
  And.intro ⟨ok_nop, mo_nop⟩ (
  And.intro ⟨ok_nop, mo_nop⟩ (
  And.intro ⟨ok_nop, mo_nop⟩ (
  And.intro ⟨ok_nop, mo_nop⟩ (
  And.intro ⟨ok_nop, mo_nop⟩ (
  And.intro ⟨ok_nop, mo_nop⟩ (
  And.intro ⟨ok_nop, mo_nop⟩ (
  And.intro ⟨ok_nop, mo_nop⟩ (
  And.intro ⟨ok_nop, mo_nop⟩ (
  trivial))))))))))))))))
theorem rL_law_11 : am_allR (fun pc o => am_ok am_tb0 cL_law RL 4 (some .boolean) false pc o ∧ am_mo o) 176 (am_nth [] tL_law 11) :=
  And.intro ⟨ok_nop, mo_nop⟩ (
  And.intro ⟨ok_nop, mo_nop⟩ (
  And.intro ⟨ok_nop, mo_nop⟩ (
  And.intro ⟨ok_nop, mo_nop⟩ (
  And.intro ⟨ok_nop, mo_nop⟩ (
  And.intro ⟨ok_nop, mo_nop⟩ (
  And.intro ⟨ok_nop, mo_nop⟩ (
  And.intro ⟨ok_nop, mo_nop⟩ (
  And.intro ⟨ok_nop, mo_nop⟩ (
  And.intro ⟨ok_nop, mo_nop⟩ (
  And.intro ⟨ok_nop, mo_nop⟩ (
  And.intro ⟨ok_nop, mo_nop⟩ (
  And.intro ⟨ok_nop, mo_nop⟩ (
  And.intro ⟨ok_nop, mo_nop⟩ (
  And.intro ⟨ok_nop, mo_nop⟩ (
  And.intro ⟨ok_nop, mo_nop⟩ (
  trivial))))))))))))))))
theorem rL_law_12 : am_allR (fun pc o => am_ok am_tb0 cL_law RL 4 (some .boolean) false pc o ∧ am_mo o) 192 (am_nth [] tL_law 12) :=
  And.intro ⟨ok_nop, mo_nop⟩ (
  And.intro ⟨ok_nop, mo_nop⟩ (
  And.intro ⟨ok_nop, mo_nop⟩ (
  And.intro ⟨ok_nop, mo_nop⟩ (
  And.intro ⟨ok_nop, mo_nop⟩ (
  And.intro ⟨ok_nop, mo_nop⟩ (
  And.intro ⟨ok_nop, mo_nop⟩ (
  And.intro ⟨ok_nop, mo_nop⟩ (
  And.intro ⟨ok_nop, mo_nop⟩ (
  And.intro ⟨ok_nop, mo_nop⟩ (
  And.intro ⟨ok_nop, mo_nop⟩ (
  And.intro ⟨ok_nop, mo_nop⟩ (
  And.intro ⟨ok_nop, mo_nop⟩ (
  And.intro ⟨ok_nop, mo_nop⟩ (
  And.intro ⟨ok_nop, mo_nop⟩ (
  And.intro ⟨ok_nop, mo_nop⟩ (
  trivial))))))))))))))))
theorem rL_law_13 : am_allR (fun pc o => am_ok am_tb0 cL_law RL 4 (some .boolean) false pc o ∧ am_mo o) 208 (am_nth [] tL_law 13) :=
  And.intro ⟨ok_nop, mo_nop⟩ (
  And.intro ⟨ok_nop, mo_nop⟩ (
  And.intro ⟨ok_nop, mo_nop⟩ (
  And.intro ⟨ok_nop, mo_nop⟩ (
  And.intro ⟨ok_nop, mo_nop⟩ (
  And.intro ⟨ok_nop, mo_nop⟩ (
  And.intro ⟨ok_nop, mo_nop⟩ (
  And.intro ⟨ok_nop, mo_nop⟩ (
  And.intro ⟨ok_nop, mo_nop⟩ (
  And.intro ⟨ok_nop, mo_nop⟩ (
  And.intro ⟨ok_nop, mo_nop⟩ (
  And.intro ⟨ok_nop, mo_nop⟩ (
  And.intro ⟨ok_aload_n dL_law_220 rfl rfl, mo_aload⟩ (
  And.intro ⟨ok_aload_n dL_law_221 rfl rfl, mo_aload⟩ (
  And.intro ⟨ok_iload_n dL_law_222 rfl rfl, mo_iload⟩ (
  And.intro ⟨ok_iconst dL_law_223 rfl ic_1, mo_push⟩ (
  trivial))))))))))))))))
theorem rL_law_14 : am_allR (fun pc o => am_ok am_tb0 cL_law RL 4 (some .boolean) false pc o ∧ am_mo o) 224 (am_nth [] tL_law 14) :=
  And.intro ⟨ok_iadd dL_law_224 rfl, mo_bin⟩ (
  And.intro ⟨ok_ialdF dL_law_225 rfl, mo_iald⟩ (
  And.intro ⟨ok_aload_n dL_law_226 rfl rfl, mo_aload⟩ (
  And.intro ⟨ok_iload_n dL_law_227 rfl rfl, mo_iload⟩ (
  And.intro ⟨ok_iconst dL_law_228 rfl ic_2, mo_push⟩ (
  And.intro ⟨ok_iadd dL_law_229 rfl, mo_bin⟩ (
  And.intro ⟨ok_ialdF dL_law_230 rfl, mo_iald⟩ (
  And.intro ⟨ok_aload_n dL_law_231 rfl rfl, mo_aload⟩ (
  And.intro ⟨ok_iload_n dL_law_232 rfl rfl, mo_iload⟩ (
  And.intro ⟨ok_iconst dL_law_233 rfl ic_3, mo_push⟩ (
  And.intro ⟨ok_iadd dL_law_234 rfl, mo_bin⟩ (
  And.intro ⟨ok_ialdF dL_law_235 rfl, mo_iald⟩ (
  And.intro ⟨ok_aload_n dL_law_236 rfl rfl, mo_aload⟩ (
  And.intro ⟨ok_iload_n dL_law_237 rfl rfl, mo_iload⟩ (
  And.intro ⟨ok_iconst dL_law_238 rfl ic_4, mo_push⟩ (
  And.intro ⟨ok_iadd dL_law_239 rfl, mo_bin⟩ (
  trivial))))))))))))))))
theorem rL_law_15 : am_allR (fun pc o => am_ok am_tb0 cL_law RL 4 (some .boolean) false pc o ∧ am_mo o) 240 (am_nth [] tL_law 15) :=
  And.intro ⟨ok_ialdF dL_law_240 rfl, mo_iald⟩ (
  And.intro ⟨ok_cv (z := 62) dL_law_241 hclX7 (by decide) wd_271 wd_272 wd_273 wd_1 wd_274 rfl (by decide) ⟨rfl, hy_X7_hole⟩ rfl, mo_cv⟩ (
  And.intro ⟨ok_nop, mo_nop⟩ (
  And.intro ⟨ok_nop, mo_nop⟩ (
  And.intro ⟨ok_aload_n dL_law_244 rfl rfl, mo_aload⟩ (
  And.intro ⟨ok_aload_n dL_law_245 rfl rfl, mo_aload⟩ (
  And.intro ⟨ok_iload_n dL_law_246 rfl rfl, mo_iload⟩ (
  And.intro ⟨ok_iconst dL_law_247 rfl ic_1, mo_push⟩ (
  And.intro ⟨ok_iadd dL_law_248 rfl, mo_bin⟩ (
  And.intro ⟨ok_ialdF dL_law_249 rfl, mo_iald⟩ (
  And.intro ⟨ok_aload_n dL_law_250 rfl rfl, mo_aload⟩ (
  And.intro ⟨ok_iload_n dL_law_251 rfl rfl, mo_iload⟩ (
  And.intro ⟨ok_iconst dL_law_252 rfl ic_2, mo_push⟩ (
  And.intro ⟨ok_iadd dL_law_253 rfl, mo_bin⟩ (
  And.intro ⟨ok_ialdF dL_law_254 rfl, mo_iald⟩ (
  And.intro ⟨ok_aload_n dL_law_255 rfl rfl, mo_aload⟩ (
  trivial))))))))))))))))
theorem rL_law_16 : am_allR (fun pc o => am_ok am_tb0 cL_law RL 4 (some .boolean) false pc o ∧ am_mo o) 256 (am_nth [] tL_law 16) :=
  And.intro ⟨ok_iload_n dL_law_256 rfl rfl, mo_iload⟩ (
  And.intro ⟨ok_iconst dL_law_257 rfl ic_3, mo_push⟩ (
  And.intro ⟨ok_iadd dL_law_258 rfl, mo_bin⟩ (
  And.intro ⟨ok_ialdF dL_law_259 rfl, mo_iald⟩ (
  And.intro ⟨ok_aload_n dL_law_260 rfl rfl, mo_aload⟩ (
  And.intro ⟨ok_iload_n dL_law_261 rfl rfl, mo_iload⟩ (
  And.intro ⟨ok_iconst dL_law_262 rfl ic_4, mo_push⟩ (
  And.intro ⟨ok_iadd dL_law_263 rfl, mo_bin⟩ (
  And.intro ⟨ok_ialdF dL_law_264 rfl, mo_iald⟩ (
  And.intro ⟨ok_cv (z := 126) dL_law_265 hclX8 (by decide) wd_1008 wd_1009 wd_1010 wd_8 wd_1011 rfl (by decide) ⟨rfl, hy_X8_hole⟩ rfl, mo_cv⟩ (
  And.intro ⟨ok_nop, mo_nop⟩ (
  And.intro ⟨ok_nop, mo_nop⟩ (
  And.intro ⟨ok_icmp_eq dL_law_268 (by decide) rfl, mo_icmp⟩ (
  And.intro ⟨ok_nop, mo_nop⟩ (
  And.intro ⟨ok_nop, mo_nop⟩ (
  And.intro ⟨ok_iconst dL_law_271 rfl ic_0, mo_push⟩ (
  trivial))))))))))))))))
theorem rL_law_17 : am_allR (fun pc o => am_ok am_tb0 cL_law RL 4 (some .boolean) false pc o ∧ am_mo o) 272 (am_nth [] tL_law 17) :=
  And.intro ⟨ok_nret dL_law_272 rfl, mo_nret⟩ (
  And.intro ⟨ok_aload_n dL_law_273 rfl rfl, mo_aload⟩ (
  And.intro ⟨ok_aload_n dL_law_274 rfl rfl, mo_aload⟩ (
  And.intro ⟨ok_iload_n dL_law_275 rfl rfl, mo_iload⟩ (
  And.intro ⟨ok_iconst dL_law_276 rfl ic_1, mo_push⟩ (
  And.intro ⟨ok_iadd dL_law_277 rfl, mo_bin⟩ (
  And.intro ⟨ok_ialdF dL_law_278 rfl, mo_iald⟩ (
  And.intro ⟨ok_aload_n dL_law_279 rfl rfl, mo_aload⟩ (
  And.intro ⟨ok_iload_n dL_law_280 rfl rfl, mo_iload⟩ (
  And.intro ⟨ok_iconst dL_law_281 rfl ic_2, mo_push⟩ (
  And.intro ⟨ok_iadd dL_law_282 rfl, mo_bin⟩ (
  And.intro ⟨ok_ialdF dL_law_283 rfl, mo_iald⟩ (
  And.intro ⟨ok_cv (z := 63) dL_law_284 hclX7 (by decide) wd_289 wd_290 wd_291 wd_1 wd_292 rfl (by decide) ⟨rfl, hy_X7_told⟩ rfl, mo_cv⟩ (
  And.intro ⟨ok_nop, mo_nop⟩ (
  And.intro ⟨ok_nop, mo_nop⟩ (
  And.intro ⟨ok_aload_n dL_law_287 rfl rfl, mo_aload⟩ (
  trivial))))))))))))))))
theorem rL_law_18 : am_allR (fun pc o => am_ok am_tb0 cL_law RL 4 (some .boolean) false pc o ∧ am_mo o) 288 (am_nth [] tL_law 18) :=
  And.intro ⟨ok_aload_n dL_law_288 rfl rfl, mo_aload⟩ (
  And.intro ⟨ok_iload_n dL_law_289 rfl rfl, mo_iload⟩ (
  And.intro ⟨ok_iconst dL_law_290 rfl ic_1, mo_push⟩ (
  And.intro ⟨ok_iadd dL_law_291 rfl, mo_bin⟩ (
  And.intro ⟨ok_ialdF dL_law_292 rfl, mo_iald⟩ (
  And.intro ⟨ok_aload_n dL_law_293 rfl rfl, mo_aload⟩ (
  And.intro ⟨ok_iload_n dL_law_294 rfl rfl, mo_iload⟩ (
  And.intro ⟨ok_iconst dL_law_295 rfl ic_2, mo_push⟩ (
  And.intro ⟨ok_iadd dL_law_296 rfl, mo_bin⟩ (
  And.intro ⟨ok_ialdF dL_law_297 rfl, mo_iald⟩ (
  And.intro ⟨ok_cv (z := 128) dL_law_298 hclX8 (by decide) wd_1035 wd_1036 wd_1037 wd_8 wd_1038 rfl (by decide) ⟨rfl, hy_X8_told⟩ rfl, mo_cv⟩ (
  And.intro ⟨ok_nop, mo_nop⟩ (
  And.intro ⟨ok_nop, mo_nop⟩ (
  And.intro ⟨ok_icmp_eq dL_law_301 (by decide) rfl, mo_icmp⟩ (
  And.intro ⟨ok_nop, mo_nop⟩ (
  And.intro ⟨ok_nop, mo_nop⟩ (
  trivial))))))))))))))))
theorem rL_law_19 : am_allR (fun pc o => am_ok am_tb0 cL_law RL 4 (some .boolean) false pc o ∧ am_mo o) 304 (am_nth [] tL_law 19) :=
  And.intro ⟨ok_iconst dL_law_304 rfl ic_0, mo_push⟩ (
  And.intro ⟨ok_nret dL_law_305 rfl, mo_nret⟩ (
  And.intro ⟨ok_aload_n dL_law_306 rfl rfl, mo_aload⟩ (
  And.intro ⟨ok_aload_n dL_law_307 rfl rfl, mo_aload⟩ (
  And.intro ⟨ok_iload_n dL_law_308 rfl rfl, mo_iload⟩ (
  And.intro ⟨ok_iconst dL_law_309 rfl ic_1, mo_push⟩ (
  And.intro ⟨ok_iadd dL_law_310 rfl, mo_bin⟩ (
  And.intro ⟨ok_ialdF dL_law_311 rfl, mo_iald⟩ (
  And.intro ⟨ok_aload_n dL_law_312 rfl rfl, mo_aload⟩ (
  And.intro ⟨ok_iload_n dL_law_313 rfl rfl, mo_iload⟩ (
  And.intro ⟨ok_iconst dL_law_314 rfl ic_2, mo_push⟩ (
  And.intro ⟨ok_iadd dL_law_315 rfl, mo_bin⟩ (
  And.intro ⟨ok_ialdF dL_law_316 rfl, mo_iald⟩ (
  And.intro ⟨ok_cv (z := 64) dL_law_317 hclX7 (by decide) wd_305 wd_306 wd_307 wd_1 wd_308 rfl (by decide) ⟨rfl, hy_X7_as⟩ rfl, mo_cv⟩ (
  And.intro ⟨ok_nop, mo_nop⟩ (
  And.intro ⟨ok_nop, mo_nop⟩ (
  trivial))))))))))))))))
theorem rL_law_20 : am_allR (fun pc o => am_ok am_tb0 cL_law RL 4 (some .boolean) false pc o ∧ am_mo o) 320 (am_nth [] tL_law 20) :=
  And.intro ⟨ok_aload_n dL_law_320 rfl rfl, mo_aload⟩ (
  And.intro ⟨ok_aload_n dL_law_321 rfl rfl, mo_aload⟩ (
  And.intro ⟨ok_iload_n dL_law_322 rfl rfl, mo_iload⟩ (
  And.intro ⟨ok_iconst dL_law_323 rfl ic_1, mo_push⟩ (
  And.intro ⟨ok_iadd dL_law_324 rfl, mo_bin⟩ (
  And.intro ⟨ok_ialdF dL_law_325 rfl, mo_iald⟩ (
  And.intro ⟨ok_aload_n dL_law_326 rfl rfl, mo_aload⟩ (
  And.intro ⟨ok_iload_n dL_law_327 rfl rfl, mo_iload⟩ (
  And.intro ⟨ok_iconst dL_law_328 rfl ic_2, mo_push⟩ (
  And.intro ⟨ok_iadd dL_law_329 rfl, mo_bin⟩ (
  And.intro ⟨ok_ialdF dL_law_330 rfl, mo_iald⟩ (
  And.intro ⟨ok_cv (z := 130) dL_law_331 hclX8 (by decide) wd_1051 wd_1052 wd_1053 wd_8 wd_1054 rfl (by decide) ⟨rfl, hy_X8_as⟩ rfl, mo_cv⟩ (
  And.intro ⟨ok_nop, mo_nop⟩ (
  And.intro ⟨ok_nop, mo_nop⟩ (
  And.intro ⟨ok_icmp_eq dL_law_334 (by decide) rfl, mo_icmp⟩ (
  And.intro ⟨ok_nop, mo_nop⟩ (
  trivial))))))))))))))))
theorem rL_law_21 : am_allR (fun pc o => am_ok am_tb0 cL_law RL 4 (some .boolean) false pc o ∧ am_mo o) 336 (am_nth [] tL_law 21) :=
  And.intro ⟨ok_nop, mo_nop⟩ (
  And.intro ⟨ok_iconst dL_law_337 rfl ic_0, mo_push⟩ (
  And.intro ⟨ok_nret dL_law_338 rfl, mo_nret⟩ (
  And.intro ⟨ok_aload_n dL_law_339 rfl rfl, mo_aload⟩ (
  And.intro ⟨ok_aload_n dL_law_340 rfl rfl, mo_aload⟩ (
  And.intro ⟨ok_iload_n dL_law_341 rfl rfl, mo_iload⟩ (
  And.intro ⟨ok_iconst dL_law_342 rfl ic_1, mo_push⟩ (
  And.intro ⟨ok_iadd dL_law_343 rfl, mo_bin⟩ (
  And.intro ⟨ok_ialdF dL_law_344 rfl, mo_iald⟩ (
  And.intro ⟨ok_aload_n dL_law_345 rfl rfl, mo_aload⟩ (
  And.intro ⟨ok_iload_n dL_law_346 rfl rfl, mo_iload⟩ (
  And.intro ⟨ok_iconst dL_law_347 rfl ic_2, mo_push⟩ (
  And.intro ⟨ok_iadd dL_law_348 rfl, mo_bin⟩ (
  And.intro ⟨ok_ialdF dL_law_349 rfl, mo_iald⟩ (
  And.intro ⟨ok_cv (z := 65) dL_law_350 hclX7 (by decide) wd_316 wd_317 wd_318 wd_1 wd_319 rfl (by decide) ⟨rfl, hy_X7_turns⟩ rfl, mo_cv⟩ (
  And.intro ⟨ok_nop, mo_nop⟩ (
  trivial))))))))))))))))
theorem rL_law_22 : am_allR (fun pc o => am_ok am_tb0 cL_law RL 4 (some .boolean) false pc o ∧ am_mo o) 352 (am_nth [] tL_law 22) :=
  And.intro ⟨ok_nop, mo_nop⟩ (
  And.intro ⟨ok_aload_n dL_law_353 rfl rfl, mo_aload⟩ (
  And.intro ⟨ok_aload_n dL_law_354 rfl rfl, mo_aload⟩ (
  And.intro ⟨ok_iload_n dL_law_355 rfl rfl, mo_iload⟩ (
  And.intro ⟨ok_iconst dL_law_356 rfl ic_1, mo_push⟩ (
  And.intro ⟨ok_iadd dL_law_357 rfl, mo_bin⟩ (
  And.intro ⟨ok_ialdF dL_law_358 rfl, mo_iald⟩ (
  And.intro ⟨ok_aload_n dL_law_359 rfl rfl, mo_aload⟩ (
  And.intro ⟨ok_iload_n dL_law_360 rfl rfl, mo_iload⟩ (
  And.intro ⟨ok_iconst dL_law_361 rfl ic_2, mo_push⟩ (
  And.intro ⟨ok_iadd dL_law_362 rfl, mo_bin⟩ (
  And.intro ⟨ok_ialdF dL_law_363 rfl, mo_iald⟩ (
  And.intro ⟨ok_cv (z := 131) dL_law_364 hclX8 (by decide) wd_1059 wd_1060 wd_1061 wd_8 wd_1062 rfl (by decide) ⟨rfl, hy_X8_turns⟩ rfl, mo_cv⟩ (
  And.intro ⟨ok_nop, mo_nop⟩ (
  And.intro ⟨ok_nop, mo_nop⟩ (
  And.intro ⟨ok_icmp_eq dL_law_367 (by decide) rfl, mo_icmp⟩ (
  trivial))))))))))))))))
theorem rL_law_23 : am_allR (fun pc o => am_ok am_tb0 cL_law RL 4 (some .boolean) false pc o ∧ am_mo o) 368 (am_nth [] tL_law 23) :=
  And.intro ⟨ok_nop, mo_nop⟩ (
  And.intro ⟨ok_nop, mo_nop⟩ (
  And.intro ⟨ok_iconst dL_law_370 rfl ic_0, mo_push⟩ (
  And.intro ⟨ok_nret dL_law_371 rfl, mo_nret⟩ (
  And.intro ⟨ok_aload_n dL_law_372 rfl rfl, mo_aload⟩ (
  And.intro ⟨ok_aload_n dL_law_373 rfl rfl, mo_aload⟩ (
  And.intro ⟨ok_iload_n dL_law_374 rfl rfl, mo_iload⟩ (
  And.intro ⟨ok_iconst dL_law_375 rfl ic_1, mo_push⟩ (
  And.intro ⟨ok_iadd dL_law_376 rfl, mo_bin⟩ (
  And.intro ⟨ok_ialdF dL_law_377 rfl, mo_iald⟩ (
  And.intro ⟨ok_aload_n dL_law_378 rfl rfl, mo_aload⟩ (
  And.intro ⟨ok_iload_n dL_law_379 rfl rfl, mo_iload⟩ (
  And.intro ⟨ok_iconst dL_law_380 rfl ic_2, mo_push⟩ (
  And.intro ⟨ok_iadd dL_law_381 rfl, mo_bin⟩ (
  And.intro ⟨ok_ialdF dL_law_382 rfl, mo_iald⟩ (
  And.intro ⟨ok_aload_n dL_law_383 rfl rfl, mo_aload⟩ (
  trivial))))))))))))))))
theorem rL_law_24 : am_allR (fun pc o => am_ok am_tb0 cL_law RL 4 (some .boolean) false pc o ∧ am_mo o) 384 (am_nth [] tL_law 24) :=
  And.intro ⟨ok_iload_n dL_law_384 rfl rfl, mo_iload⟩ (
  And.intro ⟨ok_iconst dL_law_385 rfl ic_3, mo_push⟩ (
  And.intro ⟨ok_iadd dL_law_386 rfl, mo_bin⟩ (
  And.intro ⟨ok_ialdF dL_law_387 rfl, mo_iald⟩ (
  And.intro ⟨ok_cv (z := 66) dL_law_388 hclX7 (by decide) wd_320 wd_321 wd_322 wd_1 wd_323 rfl (by decide) ⟨rfl, hy_X7_set⟩ rfl, mo_cv⟩ (
  And.intro ⟨ok_nop, mo_nop⟩ (
  And.intro ⟨ok_nop, mo_nop⟩ (
  And.intro ⟨ok_aload_n dL_law_391 rfl rfl, mo_aload⟩ (
  And.intro ⟨ok_aload_n dL_law_392 rfl rfl, mo_aload⟩ (
  And.intro ⟨ok_iload_n dL_law_393 rfl rfl, mo_iload⟩ (
  And.intro ⟨ok_iconst dL_law_394 rfl ic_1, mo_push⟩ (
  And.intro ⟨ok_iadd dL_law_395 rfl, mo_bin⟩ (
  And.intro ⟨ok_ialdF dL_law_396 rfl, mo_iald⟩ (
  And.intro ⟨ok_aload_n dL_law_397 rfl rfl, mo_aload⟩ (
  And.intro ⟨ok_iload_n dL_law_398 rfl rfl, mo_iload⟩ (
  And.intro ⟨ok_iconst dL_law_399 rfl ic_2, mo_push⟩ (
  trivial))))))))))))))))
theorem rL_law_25 : am_allR (fun pc o => am_ok am_tb0 cL_law RL 4 (some .boolean) false pc o ∧ am_mo o) 400 (am_nth [] tL_law 25) :=
  And.intro ⟨ok_iadd dL_law_400 rfl, mo_bin⟩ (
  And.intro ⟨ok_ialdF dL_law_401 rfl, mo_iald⟩ (
  And.intro ⟨ok_aload_n dL_law_402 rfl rfl, mo_aload⟩ (
  And.intro ⟨ok_iload_n dL_law_403 rfl rfl, mo_iload⟩ (
  And.intro ⟨ok_iconst dL_law_404 rfl ic_3, mo_push⟩ (
  And.intro ⟨ok_iadd dL_law_405 rfl, mo_bin⟩ (
  And.intro ⟨ok_ialdF dL_law_406 rfl, mo_iald⟩ (
  And.intro ⟨ok_cv (z := 132) dL_law_407 hclX8 (by decide) wd_1067 wd_1068 wd_1069 wd_8 wd_1070 rfl (by decide) ⟨rfl, hy_X8_set⟩ rfl, mo_cv⟩ (
  And.intro ⟨ok_nop, mo_nop⟩ (
  And.intro ⟨ok_nop, mo_nop⟩ (
  And.intro ⟨ok_icmp_eq dL_law_410 (by decide) rfl, mo_icmp⟩ (
  And.intro ⟨ok_nop, mo_nop⟩ (
  And.intro ⟨ok_nop, mo_nop⟩ (
  And.intro ⟨ok_iconst dL_law_413 rfl ic_0, mo_push⟩ (
  And.intro ⟨ok_nret dL_law_414 rfl, mo_nret⟩ (
  And.intro ⟨ok_aload_n dL_law_415 rfl rfl, mo_aload⟩ (
  trivial))))))))))))))))
theorem rL_law_26 : am_allR (fun pc o => am_ok am_tb0 cL_law RL 4 (some .boolean) false pc o ∧ am_mo o) 416 (am_nth [] tL_law 26) :=
  And.intro ⟨ok_aload_n dL_law_416 rfl rfl, mo_aload⟩ (
  And.intro ⟨ok_iload_n dL_law_417 rfl rfl, mo_iload⟩ (
  And.intro ⟨ok_iconst dL_law_418 rfl ic_1, mo_push⟩ (
  And.intro ⟨ok_iadd dL_law_419 rfl, mo_bin⟩ (
  And.intro ⟨ok_ialdF dL_law_420 rfl, mo_iald⟩ (
  And.intro ⟨ok_aload_n dL_law_421 rfl rfl, mo_aload⟩ (
  And.intro ⟨ok_iload_n dL_law_422 rfl rfl, mo_iload⟩ (
  And.intro ⟨ok_iconst dL_law_423 rfl ic_2, mo_push⟩ (
  And.intro ⟨ok_iadd dL_law_424 rfl, mo_bin⟩ (
  And.intro ⟨ok_ialdF dL_law_425 rfl, mo_iald⟩ (
  And.intro ⟨ok_cv (z := 67) dL_law_426 hclX7 (by decide) wd_331 wd_332 wd_333 wd_1 wd_334 rfl (by decide) ⟨rfl, hy_X7_settles⟩ rfl, mo_cv⟩ (
  And.intro ⟨ok_nop, mo_nop⟩ (
  And.intro ⟨ok_nop, mo_nop⟩ (
  And.intro ⟨ok_aload_n dL_law_429 rfl rfl, mo_aload⟩ (
  And.intro ⟨ok_aload_n dL_law_430 rfl rfl, mo_aload⟩ (
  And.intro ⟨ok_iload_n dL_law_431 rfl rfl, mo_iload⟩ (
  trivial))))))))))))))))
theorem rL_law_27 : am_allR (fun pc o => am_ok am_tb0 cL_law RL 4 (some .boolean) false pc o ∧ am_mo o) 432 (am_nth [] tL_law 27) :=
  And.intro ⟨ok_iconst dL_law_432 rfl ic_1, mo_push⟩ (
  And.intro ⟨ok_iadd dL_law_433 rfl, mo_bin⟩ (
  And.intro ⟨ok_ialdF dL_law_434 rfl, mo_iald⟩ (
  And.intro ⟨ok_aload_n dL_law_435 rfl rfl, mo_aload⟩ (
  And.intro ⟨ok_iload_n dL_law_436 rfl rfl, mo_iload⟩ (
  And.intro ⟨ok_iconst dL_law_437 rfl ic_2, mo_push⟩ (
  And.intro ⟨ok_iadd dL_law_438 rfl, mo_bin⟩ (
  And.intro ⟨ok_ialdF dL_law_439 rfl, mo_iald⟩ (
  And.intro ⟨ok_cv (z := 134) dL_law_440 hclX8 (by decide) wd_1071 wd_1072 wd_1073 wd_8 wd_1074 rfl (by decide) ⟨rfl, hy_X8_settles⟩ rfl, mo_cv⟩ (
  And.intro ⟨ok_nop, mo_nop⟩ (
  And.intro ⟨ok_nop, mo_nop⟩ (
  And.intro ⟨ok_icmp_eq dL_law_443 (by decide) rfl, mo_icmp⟩ (
  And.intro ⟨ok_nop, mo_nop⟩ (
  And.intro ⟨ok_nop, mo_nop⟩ (
  And.intro ⟨ok_iconst dL_law_446 rfl ic_0, mo_push⟩ (
  And.intro ⟨ok_nret dL_law_447 rfl, mo_nret⟩ (
  trivial))))))))))))))))
theorem rL_law_28 : am_allR (fun pc o => am_ok am_tb0 cL_law RL 4 (some .boolean) false pc o ∧ am_mo o) 448 (am_nth [] tL_law 28) :=
  And.intro ⟨ok_aload_n dL_law_448 rfl rfl, mo_aload⟩ (
  And.intro ⟨ok_aload_n dL_law_449 rfl rfl, mo_aload⟩ (
  And.intro ⟨ok_iload_n dL_law_450 rfl rfl, mo_iload⟩ (
  And.intro ⟨ok_iconst dL_law_451 rfl ic_1, mo_push⟩ (
  And.intro ⟨ok_iadd dL_law_452 rfl, mo_bin⟩ (
  And.intro ⟨ok_ialdF dL_law_453 rfl, mo_iald⟩ (
  And.intro ⟨ok_aload_n dL_law_454 rfl rfl, mo_aload⟩ (
  And.intro ⟨ok_iload_n dL_law_455 rfl rfl, mo_iload⟩ (
  And.intro ⟨ok_iconst dL_law_456 rfl ic_2, mo_push⟩ (
  And.intro ⟨ok_iadd dL_law_457 rfl, mo_bin⟩ (
  And.intro ⟨ok_ialdF dL_law_458 rfl, mo_iald⟩ (
  And.intro ⟨ok_cv (z := 68) dL_law_459 hclX7 (by decide) wd_371 wd_372 wd_373 wd_1 wd_374 rfl (by decide) ⟨rfl, hy_X7_rule⟩ rfl, mo_cv⟩ (
  And.intro ⟨ok_nop, mo_nop⟩ (
  And.intro ⟨ok_nop, mo_nop⟩ (
  And.intro ⟨ok_aload_n dL_law_462 rfl rfl, mo_aload⟩ (
  And.intro ⟨ok_aload_n dL_law_463 rfl rfl, mo_aload⟩ (
  trivial))))))))))))))))
theorem rL_law_29 : am_allR (fun pc o => am_ok am_tb0 cL_law RL 4 (some .boolean) false pc o ∧ am_mo o) 464 (am_nth [] tL_law 29) :=
  And.intro ⟨ok_iload_n dL_law_464 rfl rfl, mo_iload⟩ (
  And.intro ⟨ok_iconst dL_law_465 rfl ic_1, mo_push⟩ (
  And.intro ⟨ok_iadd dL_law_466 rfl, mo_bin⟩ (
  And.intro ⟨ok_ialdF dL_law_467 rfl, mo_iald⟩ (
  And.intro ⟨ok_aload_n dL_law_468 rfl rfl, mo_aload⟩ (
  And.intro ⟨ok_iload_n dL_law_469 rfl rfl, mo_iload⟩ (
  And.intro ⟨ok_iconst dL_law_470 rfl ic_2, mo_push⟩ (
  And.intro ⟨ok_iadd dL_law_471 rfl, mo_bin⟩ (
  And.intro ⟨ok_ialdF dL_law_472 rfl, mo_iald⟩ (
  And.intro ⟨ok_cv (z := 135) dL_law_473 hclX8 (by decide) wd_1093 wd_1094 wd_1095 wd_8 wd_1096 rfl (by decide) ⟨rfl, hy_X8_rule⟩ rfl, mo_cv⟩ (
  And.intro ⟨ok_nop, mo_nop⟩ (
  And.intro ⟨ok_nop, mo_nop⟩ (
  And.intro ⟨ok_icmp_eq dL_law_476 (by decide) rfl, mo_icmp⟩ (
  And.intro ⟨ok_nop, mo_nop⟩ (
  And.intro ⟨ok_nop, mo_nop⟩ (
  And.intro ⟨ok_iconst dL_law_479 rfl ic_0, mo_push⟩ (
  trivial))))))))))))))))
theorem rL_law_30 : am_allR (fun pc o => am_ok am_tb0 cL_law RL 4 (some .boolean) false pc o ∧ am_mo o) 480 (am_nth [] tL_law 30) :=
  And.intro ⟨ok_nret dL_law_480 rfl, mo_nret⟩ (
  And.intro ⟨ok_aload_n dL_law_481 rfl rfl, mo_aload⟩ (
  And.intro ⟨ok_aload_n dL_law_482 rfl rfl, mo_aload⟩ (
  And.intro ⟨ok_iload_n dL_law_483 rfl rfl, mo_iload⟩ (
  And.intro ⟨ok_iconst dL_law_484 rfl ic_1, mo_push⟩ (
  And.intro ⟨ok_iadd dL_law_485 rfl, mo_bin⟩ (
  And.intro ⟨ok_ialdF dL_law_486 rfl, mo_iald⟩ (
  And.intro ⟨ok_cv (z := 69) dL_law_487 hclX7 (by decide) wd_375 wd_376 wd_377 wd_1 wd_378 rfl (by decide) ⟨rfl, hy_X7_deal⟩ rfl, mo_cv⟩ (
  And.intro ⟨ok_nop, mo_nop⟩ (
  And.intro ⟨ok_nop, mo_nop⟩ (
  And.intro ⟨ok_aload_n dL_law_490 rfl rfl, mo_aload⟩ (
  And.intro ⟨ok_aload_n dL_law_491 rfl rfl, mo_aload⟩ (
  And.intro ⟨ok_iload_n dL_law_492 rfl rfl, mo_iload⟩ (
  And.intro ⟨ok_iconst dL_law_493 rfl ic_1, mo_push⟩ (
  And.intro ⟨ok_iadd dL_law_494 rfl, mo_bin⟩ (
  And.intro ⟨ok_ialdF dL_law_495 rfl, mo_iald⟩ (
  trivial))))))))))))))))
theorem rL_law_31 : am_allR (fun pc o => am_ok am_tb0 cL_law RL 4 (some .boolean) false pc o ∧ am_mo o) 496 (am_nth [] tL_law 31) :=
  And.intro ⟨ok_cv (z := 137) dL_law_496 hclX8 (by decide) wd_1097 wd_1098 wd_1099 wd_8 wd_1100 rfl (by decide) ⟨rfl, hy_X8_deal⟩ rfl, mo_cv⟩ (
  And.intro ⟨ok_nop, mo_nop⟩ (
  And.intro ⟨ok_nop, mo_nop⟩ (
  And.intro ⟨ok_icmp_eq dL_law_499 (by decide) rfl, mo_icmp⟩ (
  And.intro ⟨ok_nop, mo_nop⟩ (
  And.intro ⟨ok_nop, mo_nop⟩ (
  And.intro ⟨ok_iconst dL_law_502 rfl ic_0, mo_push⟩ (
  And.intro ⟨ok_nret dL_law_503 rfl, mo_nret⟩ (
  And.intro ⟨ok_aload_n dL_law_504 rfl rfl, mo_aload⟩ (
  And.intro ⟨ok_aload_n dL_law_505 rfl rfl, mo_aload⟩ (
  And.intro ⟨ok_iload_n dL_law_506 rfl rfl, mo_iload⟩ (
  And.intro ⟨ok_iconst dL_law_507 rfl ic_1, mo_push⟩ (
  And.intro ⟨ok_iadd dL_law_508 rfl, mo_bin⟩ (
  And.intro ⟨ok_ialdF dL_law_509 rfl, mo_iald⟩ (
  And.intro ⟨ok_cv (z := 70) dL_law_510 hclX7 (by decide) wd_389 wd_390 wd_391 wd_1 wd_392 rfl (by decide) ⟨rfl, hy_X7_seed⟩ rfl, mo_cv⟩ (
  And.intro ⟨ok_nop, mo_nop⟩ (
  trivial))))))))))))))))
theorem rL_law_32 : am_allR (fun pc o => am_ok am_tb0 cL_law RL 4 (some .boolean) false pc o ∧ am_mo o) 512 (am_nth [] tL_law 32) :=
  And.intro ⟨ok_nop, mo_nop⟩ (
  And.intro ⟨ok_aload_n dL_law_513 rfl rfl, mo_aload⟩ (
  And.intro ⟨ok_aload_n dL_law_514 rfl rfl, mo_aload⟩ (
  And.intro ⟨ok_iload_n dL_law_515 rfl rfl, mo_iload⟩ (
  And.intro ⟨ok_iconst dL_law_516 rfl ic_1, mo_push⟩ (
  And.intro ⟨ok_iadd dL_law_517 rfl, mo_bin⟩ (
  And.intro ⟨ok_ialdF dL_law_518 rfl, mo_iald⟩ (
  And.intro ⟨ok_cv (z := 138) dL_law_519 hclX8 (by decide) wd_1106 wd_1107 wd_1108 wd_8 wd_1109 rfl (by decide) ⟨rfl, hy_X8_seed⟩ rfl, mo_cv⟩ (
  And.intro ⟨ok_nop, mo_nop⟩ (
  And.intro ⟨ok_nop, mo_nop⟩ (
  And.intro ⟨ok_icmp_eq dL_law_522 (by decide) rfl, mo_icmp⟩ (
  And.intro ⟨ok_nop, mo_nop⟩ (
  And.intro ⟨ok_nop, mo_nop⟩ (
  And.intro ⟨ok_iconst dL_law_525 rfl ic_0, mo_push⟩ (
  And.intro ⟨ok_nret dL_law_526 rfl, mo_nret⟩ (
  And.intro ⟨ok_aload_n dL_law_527 rfl rfl, mo_aload⟩ (
  trivial))))))))))))))))
theorem rL_law_33 : am_allR (fun pc o => am_ok am_tb0 cL_law RL 4 (some .boolean) false pc o ∧ am_mo o) 528 (am_nth [] tL_law 33) :=
  And.intro ⟨ok_aload_n dL_law_528 rfl rfl, mo_aload⟩ (
  And.intro ⟨ok_iload_n dL_law_529 rfl rfl, mo_iload⟩ (
  And.intro ⟨ok_iconst dL_law_530 rfl ic_1, mo_push⟩ (
  And.intro ⟨ok_iadd dL_law_531 rfl, mo_bin⟩ (
  And.intro ⟨ok_ialdF dL_law_532 rfl, mo_iald⟩ (
  And.intro ⟨ok_aload_n dL_law_533 rfl rfl, mo_aload⟩ (
  And.intro ⟨ok_iload_n dL_law_534 rfl rfl, mo_iload⟩ (
  And.intro ⟨ok_iconst dL_law_535 rfl ic_2, mo_push⟩ (
  And.intro ⟨ok_iadd dL_law_536 rfl, mo_bin⟩ (
  And.intro ⟨ok_ialdF dL_law_537 rfl, mo_iald⟩ (
  And.intro ⟨ok_cv (z := 71) dL_law_538 hclX7 (by decide) wd_393 wd_394 wd_395 wd_1 wd_396 rfl (by decide) ⟨rfl, hy_X7_takes⟩ rfl, mo_cv⟩ (
  And.intro ⟨ok_nop, mo_nop⟩ (
  And.intro ⟨ok_nop, mo_nop⟩ (
  And.intro ⟨ok_aload_n dL_law_541 rfl rfl, mo_aload⟩ (
  And.intro ⟨ok_aload_n dL_law_542 rfl rfl, mo_aload⟩ (
  And.intro ⟨ok_iload_n dL_law_543 rfl rfl, mo_iload⟩ (
  trivial))))))))))))))))
theorem rL_law_34 : am_allR (fun pc o => am_ok am_tb0 cL_law RL 4 (some .boolean) false pc o ∧ am_mo o) 544 (am_nth [] tL_law 34) :=
  And.intro ⟨ok_iconst dL_law_544 rfl ic_1, mo_push⟩ (
  And.intro ⟨ok_iadd dL_law_545 rfl, mo_bin⟩ (
  And.intro ⟨ok_ialdF dL_law_546 rfl, mo_iald⟩ (
  And.intro ⟨ok_aload_n dL_law_547 rfl rfl, mo_aload⟩ (
  And.intro ⟨ok_iload_n dL_law_548 rfl rfl, mo_iload⟩ (
  And.intro ⟨ok_iconst dL_law_549 rfl ic_2, mo_push⟩ (
  And.intro ⟨ok_iadd dL_law_550 rfl, mo_bin⟩ (
  And.intro ⟨ok_ialdF dL_law_551 rfl, mo_iald⟩ (
  And.intro ⟨ok_cv (z := 143) dL_law_552 hclX8 (by decide) wd_1110 wd_1111 wd_1112 wd_8 wd_1113 rfl (by decide) ⟨rfl, hy_X8_takes⟩ rfl, mo_cv⟩ (
  And.intro ⟨ok_nop, mo_nop⟩ (
  And.intro ⟨ok_nop, mo_nop⟩ (
  And.intro ⟨ok_icmp_eq dL_law_555 (by decide) rfl, mo_icmp⟩ (
  And.intro ⟨ok_nop, mo_nop⟩ (
  And.intro ⟨ok_nop, mo_nop⟩ (
  And.intro ⟨ok_iconst dL_law_558 rfl ic_0, mo_push⟩ (
  And.intro ⟨ok_nret dL_law_559 rfl, mo_nret⟩ (
  trivial))))))))))))))))
theorem rL_law_35 : am_allR (fun pc o => am_ok am_tb0 cL_law RL 4 (some .boolean) false pc o ∧ am_mo o) 560 (am_nth [] tL_law 35) :=
  And.intro ⟨ok_aload_n dL_law_560 rfl rfl, mo_aload⟩ (
  And.intro ⟨ok_aload_n dL_law_561 rfl rfl, mo_aload⟩ (
  And.intro ⟨ok_iload_n dL_law_562 rfl rfl, mo_iload⟩ (
  And.intro ⟨ok_iconst dL_law_563 rfl ic_1, mo_push⟩ (
  And.intro ⟨ok_iadd dL_law_564 rfl, mo_bin⟩ (
  And.intro ⟨ok_ialdF dL_law_565 rfl, mo_iald⟩ (
  And.intro ⟨ok_aload_n dL_law_566 rfl rfl, mo_aload⟩ (
  And.intro ⟨ok_iload_n dL_law_567 rfl rfl, mo_iload⟩ (
  And.intro ⟨ok_iconst dL_law_568 rfl ic_2, mo_push⟩ (
  And.intro ⟨ok_iadd dL_law_569 rfl, mo_bin⟩ (
  And.intro ⟨ok_ialdF dL_law_570 rfl, mo_iald⟩ (
  And.intro ⟨ok_aload_n dL_law_571 rfl rfl, mo_aload⟩ (
  And.intro ⟨ok_iload_n dL_law_572 rfl rfl, mo_iload⟩ (
  And.intro ⟨ok_iconst dL_law_573 rfl ic_3, mo_push⟩ (
  And.intro ⟨ok_iadd dL_law_574 rfl, mo_bin⟩ (
  And.intro ⟨ok_ialdF dL_law_575 rfl, mo_iald⟩ (
  trivial))))))))))))))))
theorem rL_law_36 : am_allR (fun pc o => am_ok am_tb0 cL_law RL 4 (some .boolean) false pc o ∧ am_mo o) 576 (am_nth [] tL_law 36) :=
  And.intro ⟨ok_aload_n dL_law_576 rfl rfl, mo_aload⟩ (
  And.intro ⟨ok_iload_n dL_law_577 rfl rfl, mo_iload⟩ (
  And.intro ⟨ok_iconst dL_law_578 rfl ic_4, mo_push⟩ (
  And.intro ⟨ok_iadd dL_law_579 rfl, mo_bin⟩ (
  And.intro ⟨ok_ialdF dL_law_580 rfl, mo_iald⟩ (
  And.intro ⟨ok_cv (z := 72) dL_law_581 hclX7 (by decide) wd_415 wd_416 wd_417 wd_1 wd_418 rfl (by decide) ⟨rfl, hy_X7_dig⟩ rfl, mo_cv⟩ (
  And.intro ⟨ok_nop, mo_nop⟩ (
  And.intro ⟨ok_nop, mo_nop⟩ (
  And.intro ⟨ok_aload_n dL_law_584 rfl rfl, mo_aload⟩ (
  And.intro ⟨ok_aload_n dL_law_585 rfl rfl, mo_aload⟩ (
  And.intro ⟨ok_iload_n dL_law_586 rfl rfl, mo_iload⟩ (
  And.intro ⟨ok_iconst dL_law_587 rfl ic_1, mo_push⟩ (
  And.intro ⟨ok_iadd dL_law_588 rfl, mo_bin⟩ (
  And.intro ⟨ok_ialdF dL_law_589 rfl, mo_iald⟩ (
  And.intro ⟨ok_aload_n dL_law_590 rfl rfl, mo_aload⟩ (
  And.intro ⟨ok_iload_n dL_law_591 rfl rfl, mo_iload⟩ (
  trivial))))))))))))))))
theorem rL_law_37 : am_allR (fun pc o => am_ok am_tb0 cL_law RL 4 (some .boolean) false pc o ∧ am_mo o) 592 (am_nth [] tL_law 37) :=
  And.intro ⟨ok_iconst dL_law_592 rfl ic_2, mo_push⟩ (
  And.intro ⟨ok_iadd dL_law_593 rfl, mo_bin⟩ (
  And.intro ⟨ok_ialdF dL_law_594 rfl, mo_iald⟩ (
  And.intro ⟨ok_aload_n dL_law_595 rfl rfl, mo_aload⟩ (
  And.intro ⟨ok_iload_n dL_law_596 rfl rfl, mo_iload⟩ (
  And.intro ⟨ok_iconst dL_law_597 rfl ic_3, mo_push⟩ (
  And.intro ⟨ok_iadd dL_law_598 rfl, mo_bin⟩ (
  And.intro ⟨ok_ialdF dL_law_599 rfl, mo_iald⟩ (
  And.intro ⟨ok_aload_n dL_law_600 rfl rfl, mo_aload⟩ (
  And.intro ⟨ok_iload_n dL_law_601 rfl rfl, mo_iload⟩ (
  And.intro ⟨ok_iconst dL_law_602 rfl ic_4, mo_push⟩ (
  And.intro ⟨ok_iadd dL_law_603 rfl, mo_bin⟩ (
  And.intro ⟨ok_ialdF dL_law_604 rfl, mo_iald⟩ (
  And.intro ⟨ok_cv (z := 144) dL_law_605 hclX8 (by decide) wd_1133 wd_1134 wd_1135 wd_8 wd_1136 rfl (by decide) ⟨rfl, hy_X8_dig⟩ rfl, mo_cv⟩ (
  And.intro ⟨ok_nop, mo_nop⟩ (
  And.intro ⟨ok_nop, mo_nop⟩ (
  trivial))))))))))))))))
theorem rL_law_38 : am_allR (fun pc o => am_ok am_tb0 cL_law RL 4 (some .boolean) false pc o ∧ am_mo o) 608 (am_nth [] tL_law 38) :=
  And.intro ⟨ok_icmp_eq dL_law_608 (by decide) rfl, mo_icmp⟩ (
  And.intro ⟨ok_nop, mo_nop⟩ (
  And.intro ⟨ok_nop, mo_nop⟩ (
  And.intro ⟨ok_iconst dL_law_611 rfl ic_0, mo_push⟩ (
  And.intro ⟨ok_nret dL_law_612 rfl, mo_nret⟩ (
  And.intro ⟨ok_aload_n dL_law_613 rfl rfl, mo_aload⟩ (
  And.intro ⟨ok_aload_n dL_law_614 rfl rfl, mo_aload⟩ (
  And.intro ⟨ok_iload_n dL_law_615 rfl rfl, mo_iload⟩ (
  And.intro ⟨ok_iconst dL_law_616 rfl ic_1, mo_push⟩ (
  And.intro ⟨ok_iadd dL_law_617 rfl, mo_bin⟩ (
  And.intro ⟨ok_ialdF dL_law_618 rfl, mo_iald⟩ (
  And.intro ⟨ok_aload_n dL_law_619 rfl rfl, mo_aload⟩ (
  And.intro ⟨ok_iload_n dL_law_620 rfl rfl, mo_iload⟩ (
  And.intro ⟨ok_iconst dL_law_621 rfl ic_2, mo_push⟩ (
  And.intro ⟨ok_iadd dL_law_622 rfl, mo_bin⟩ (
  And.intro ⟨ok_ialdF dL_law_623 rfl, mo_iald⟩ (
  trivial))))))))))))))))
theorem rL_law_39 : am_allR (fun pc o => am_ok am_tb0 cL_law RL 4 (some .boolean) false pc o ∧ am_mo o) 624 (am_nth [] tL_law 39) :=
  And.intro ⟨ok_cv (z := 73) dL_law_624 hclX7 (by decide) wd_425 wd_426 wd_427 wd_1 wd_428 rfl (by decide) ⟨rfl, hy_X7_want⟩ rfl, mo_cv⟩ (
  And.intro ⟨ok_nop, mo_nop⟩ (
  And.intro ⟨ok_nop, mo_nop⟩ (
  And.intro ⟨ok_aload_n dL_law_627 rfl rfl, mo_aload⟩ (
  And.intro ⟨ok_aload_n dL_law_628 rfl rfl, mo_aload⟩ (
  And.intro ⟨ok_iload_n dL_law_629 rfl rfl, mo_iload⟩ (
  And.intro ⟨ok_iconst dL_law_630 rfl ic_1, mo_push⟩ (
  And.intro ⟨ok_iadd dL_law_631 rfl, mo_bin⟩ (
  And.intro ⟨ok_ialdF dL_law_632 rfl, mo_iald⟩ (
  And.intro ⟨ok_aload_n dL_law_633 rfl rfl, mo_aload⟩ (
  And.intro ⟨ok_iload_n dL_law_634 rfl rfl, mo_iload⟩ (
  And.intro ⟨ok_iconst dL_law_635 rfl ic_2, mo_push⟩ (
  And.intro ⟨ok_iadd dL_law_636 rfl, mo_bin⟩ (
  And.intro ⟨ok_ialdF dL_law_637 rfl, mo_iald⟩ (
  And.intro ⟨ok_cv (z := 145) dL_law_638 hclX8 (by decide) wd_1138 wd_1139 wd_1140 wd_8 wd_1141 rfl (by decide) ⟨rfl, hy_X8_want⟩ rfl, mo_cv⟩ (
  And.intro ⟨ok_nop, mo_nop⟩ (
  trivial))))))))))))))))
theorem rL_law_40 : am_allR (fun pc o => am_ok am_tb0 cL_law RL 4 (some .boolean) false pc o ∧ am_mo o) 640 (am_nth [] tL_law 40) :=
  And.intro ⟨ok_nop, mo_nop⟩ (
  And.intro ⟨ok_icmp_eq dL_law_641 (by decide) rfl, mo_icmp⟩ (
  And.intro ⟨ok_nop, mo_nop⟩ (
  And.intro ⟨ok_nop, mo_nop⟩ (
  And.intro ⟨ok_iconst dL_law_644 rfl ic_0, mo_push⟩ (
  And.intro ⟨ok_nret dL_law_645 rfl, mo_nret⟩ (
  And.intro ⟨ok_aload_n dL_law_646 rfl rfl, mo_aload⟩ (
  And.intro ⟨ok_cv (z := 74) dL_law_647 hclX7 (by decide) wd_429 wd_430 wd_431 wd_1 wd_432 rfl (by decide) ⟨rfl, hy_X7_forget⟩ rfl, mo_cv⟩ (
  And.intro ⟨ok_nop, mo_nop⟩ (
  And.intro ⟨ok_nop, mo_nop⟩ (
  And.intro ⟨ok_aload_n dL_law_650 rfl rfl, mo_aload⟩ (
  And.intro ⟨ok_cv (z := 146) dL_law_651 hclX8 (by decide) wd_1142 wd_1143 wd_1144 wd_8 wd_1145 rfl (by decide) ⟨rfl, hy_X8_forget⟩ rfl, mo_cv⟩ (
  And.intro ⟨ok_nop, mo_nop⟩ (
  And.intro ⟨ok_nop, mo_nop⟩ (
  And.intro ⟨ok_icmp_eq dL_law_654 (by decide) rfl, mo_icmp⟩ (
  And.intro ⟨ok_nop, mo_nop⟩ (
  trivial))))))))))))))))
theorem rL_law_41 : am_allR (fun pc o => am_ok am_tb0 cL_law RL 4 (some .boolean) false pc o ∧ am_mo o) 656 (am_nth [] tL_law 41) :=
  And.intro ⟨ok_nop, mo_nop⟩ (
  And.intro ⟨ok_iconst dL_law_657 rfl ic_0, mo_push⟩ (
  And.intro ⟨ok_nret dL_law_658 rfl, mo_nret⟩ (
  And.intro ⟨ok_aload_n dL_law_659 rfl rfl, mo_aload⟩ (
  And.intro ⟨ok_aload_n dL_law_660 rfl rfl, mo_aload⟩ (
  And.intro ⟨ok_iload_n dL_law_661 rfl rfl, mo_iload⟩ (
  And.intro ⟨ok_iconst dL_law_662 rfl ic_1, mo_push⟩ (
  And.intro ⟨ok_iadd dL_law_663 rfl, mo_bin⟩ (
  And.intro ⟨ok_ialdF dL_law_664 rfl, mo_iald⟩ (
  And.intro ⟨ok_cv (z := 75) dL_law_665 hclX7 (by decide) wd_433 wd_434 wd_435 wd_1 wd_436 rfl (by decide) ⟨rfl, hy_X7_dealing⟩ rfl, mo_cv⟩ (
  And.intro ⟨ok_nop, mo_nop⟩ (
  And.intro ⟨ok_nop, mo_nop⟩ (
  And.intro ⟨ok_aload_n dL_law_668 rfl rfl, mo_aload⟩ (
  And.intro ⟨ok_aload_n dL_law_669 rfl rfl, mo_aload⟩ (
  And.intro ⟨ok_iload_n dL_law_670 rfl rfl, mo_iload⟩ (
  And.intro ⟨ok_iconst dL_law_671 rfl ic_1, mo_push⟩ (
  trivial))))))))))))))))
theorem rL_law_42 : am_allR (fun pc o => am_ok am_tb0 cL_law RL 4 (some .boolean) false pc o ∧ am_mo o) 672 (am_nth [] tL_law 42) :=
  And.intro ⟨ok_iadd dL_law_672 rfl, mo_bin⟩ (
  And.intro ⟨ok_ialdF dL_law_673 rfl, mo_iald⟩ (
  And.intro ⟨ok_cv (z := 152) dL_law_674 hclX8 (by decide) wd_1146 wd_1147 wd_1148 wd_8 wd_1149 rfl (by decide) ⟨rfl, hy_X8_dealing⟩ rfl, mo_cv⟩ (
  And.intro ⟨ok_nop, mo_nop⟩ (
  And.intro ⟨ok_nop, mo_nop⟩ (
  And.intro ⟨ok_icmp_eq dL_law_677 (by decide) rfl, mo_icmp⟩ (
  And.intro ⟨ok_nop, mo_nop⟩ (
  And.intro ⟨ok_nop, mo_nop⟩ (
  And.intro ⟨ok_iconst dL_law_680 rfl ic_0, mo_push⟩ (
  And.intro ⟨ok_nret dL_law_681 rfl, mo_nret⟩ (
  And.intro ⟨ok_aload_n dL_law_682 rfl rfl, mo_aload⟩ (
  And.intro ⟨ok_aload_n dL_law_683 rfl rfl, mo_aload⟩ (
  And.intro ⟨ok_iload_n dL_law_684 rfl rfl, mo_iload⟩ (
  And.intro ⟨ok_iconst dL_law_685 rfl ic_1, mo_push⟩ (
  And.intro ⟨ok_iadd dL_law_686 rfl, mo_bin⟩ (
  And.intro ⟨ok_ialdF dL_law_687 rfl, mo_iald⟩ (
  trivial))))))))))))))))
theorem rL_law_43 : am_allR (fun pc o => am_ok am_tb0 cL_law RL 4 (some .boolean) false pc o ∧ am_mo o) 688 (am_nth [] tL_law 43) :=
  And.intro ⟨ok_cv (z := 76) dL_law_688 hclX7 (by decide) wd_474 wd_475 wd_476 wd_1 wd_477 rfl (by decide) ⟨rfl, hy_X7_adds⟩ rfl, mo_cv⟩ (
  And.intro ⟨ok_nop, mo_nop⟩ (
  And.intro ⟨ok_nop, mo_nop⟩ (
  And.intro ⟨ok_aload_n dL_law_691 rfl rfl, mo_aload⟩ (
  And.intro ⟨ok_aload_n dL_law_692 rfl rfl, mo_aload⟩ (
  And.intro ⟨ok_iload_n dL_law_693 rfl rfl, mo_iload⟩ (
  And.intro ⟨ok_iconst dL_law_694 rfl ic_1, mo_push⟩ (
  And.intro ⟨ok_iadd dL_law_695 rfl, mo_bin⟩ (
  And.intro ⟨ok_ialdF dL_law_696 rfl, mo_iald⟩ (
  And.intro ⟨ok_cv (z := 153) dL_law_697 hclX8 (by decide) wd_1174 wd_1175 wd_1176 wd_8 wd_1177 rfl (by decide) ⟨rfl, hy_X8_adds⟩ rfl, mo_cv⟩ (
  And.intro ⟨ok_nop, mo_nop⟩ (
  And.intro ⟨ok_nop, mo_nop⟩ (
  And.intro ⟨ok_icmp_eq dL_law_700 (by decide) rfl, mo_icmp⟩ (
  And.intro ⟨ok_nop, mo_nop⟩ (
  And.intro ⟨ok_nop, mo_nop⟩ (
  And.intro ⟨ok_iconst dL_law_703 rfl ic_0, mo_push⟩ (
  trivial))))))))))))))))
theorem rL_law_44 : am_allR (fun pc o => am_ok am_tb0 cL_law RL 4 (some .boolean) false pc o ∧ am_mo o) 704 (am_nth [] tL_law 44) :=
  And.intro ⟨ok_nret dL_law_704 rfl, mo_nret⟩ (
  And.intro ⟨ok_aload_n dL_law_705 rfl rfl, mo_aload⟩ (
  And.intro ⟨ok_aload_n dL_law_706 rfl rfl, mo_aload⟩ (
  And.intro ⟨ok_iload_n dL_law_707 rfl rfl, mo_iload⟩ (
  And.intro ⟨ok_iconst dL_law_708 rfl ic_1, mo_push⟩ (
  And.intro ⟨ok_iadd dL_law_709 rfl, mo_bin⟩ (
  And.intro ⟨ok_ialdF dL_law_710 rfl, mo_iald⟩ (
  And.intro ⟨ok_cv (z := 77) dL_law_711 hclX7 (by decide) wd_478 wd_479 wd_480 wd_1 wd_481 rfl (by decide) ⟨rfl, hy_X7_frees⟩ rfl, mo_cv⟩ (
  And.intro ⟨ok_nop, mo_nop⟩ (
  And.intro ⟨ok_nop, mo_nop⟩ (
  And.intro ⟨ok_aload_n dL_law_714 rfl rfl, mo_aload⟩ (
  And.intro ⟨ok_aload_n dL_law_715 rfl rfl, mo_aload⟩ (
  And.intro ⟨ok_iload_n dL_law_716 rfl rfl, mo_iload⟩ (
  And.intro ⟨ok_iconst dL_law_717 rfl ic_1, mo_push⟩ (
  And.intro ⟨ok_iadd dL_law_718 rfl, mo_bin⟩ (
  And.intro ⟨ok_ialdF dL_law_719 rfl, mo_iald⟩ (
  trivial))))))))))))))))
theorem rL_law_45 : am_allR (fun pc o => am_ok am_tb0 cL_law RL 4 (some .boolean) false pc o ∧ am_mo o) 720 (am_nth [] tL_law 45) :=
  And.intro ⟨ok_cv (z := 154) dL_law_720 hclX8 (by decide) wd_1178 wd_1179 wd_1180 wd_8 wd_1181 rfl (by decide) ⟨rfl, hy_X8_frees⟩ rfl, mo_cv⟩ (
  And.intro ⟨ok_nop, mo_nop⟩ (
  And.intro ⟨ok_nop, mo_nop⟩ (
  And.intro ⟨ok_icmp_eq dL_law_723 (by decide) rfl, mo_icmp⟩ (
  And.intro ⟨ok_nop, mo_nop⟩ (
  And.intro ⟨ok_nop, mo_nop⟩ (
  And.intro ⟨ok_iconst dL_law_726 rfl ic_0, mo_push⟩ (
  And.intro ⟨ok_nret dL_law_727 rfl, mo_nret⟩ (
  And.intro ⟨ok_aload_n dL_law_728 rfl rfl, mo_aload⟩ (
  And.intro ⟨ok_aload_n dL_law_729 rfl rfl, mo_aload⟩ (
  And.intro ⟨ok_iload_n dL_law_730 rfl rfl, mo_iload⟩ (
  And.intro ⟨ok_iconst dL_law_731 rfl ic_1, mo_push⟩ (
  And.intro ⟨ok_iadd dL_law_732 rfl, mo_bin⟩ (
  And.intro ⟨ok_ialdF dL_law_733 rfl, mo_iald⟩ (
  And.intro ⟨ok_cv (z := 78) dL_law_734 hclX7 (by decide) wd_484 wd_485 wd_486 wd_1 wd_487 rfl (by decide) ⟨rfl, hy_X7_days⟩ rfl, mo_cv⟩ (
  And.intro ⟨ok_nop, mo_nop⟩ (
  trivial))))))))))))))))
theorem rL_law_46 : am_allR (fun pc o => am_ok am_tb0 cL_law RL 4 (some .boolean) false pc o ∧ am_mo o) 736 (am_nth [] tL_law 46) :=
  And.intro ⟨ok_nop, mo_nop⟩ (
  And.intro ⟨ok_aload_n dL_law_737 rfl rfl, mo_aload⟩ (
  And.intro ⟨ok_aload_n dL_law_738 rfl rfl, mo_aload⟩ (
  And.intro ⟨ok_iload_n dL_law_739 rfl rfl, mo_iload⟩ (
  And.intro ⟨ok_iconst dL_law_740 rfl ic_1, mo_push⟩ (
  And.intro ⟨ok_iadd dL_law_741 rfl, mo_bin⟩ (
  And.intro ⟨ok_ialdF dL_law_742 rfl, mo_iald⟩ (
  And.intro ⟨ok_cv (z := 159) dL_law_743 hclX8 (by decide) wd_1182 wd_1183 wd_1184 wd_8 wd_1185 rfl (by decide) ⟨rfl, hy_X8_days⟩ rfl, mo_cv⟩ (
  And.intro ⟨ok_nop, mo_nop⟩ (
  And.intro ⟨ok_nop, mo_nop⟩ (
  And.intro ⟨ok_icmp_eq dL_law_746 (by decide) rfl, mo_icmp⟩ (
  And.intro ⟨ok_nop, mo_nop⟩ (
  And.intro ⟨ok_nop, mo_nop⟩ (
  And.intro ⟨ok_iconst dL_law_749 rfl ic_0, mo_push⟩ (
  And.intro ⟨ok_nret dL_law_750 rfl, mo_nret⟩ (
  And.intro ⟨ok_aload_n dL_law_751 rfl rfl, mo_aload⟩ (
  trivial))))))))))))))))
theorem rL_law_47 : am_allR (fun pc o => am_ok am_tb0 cL_law RL 4 (some .boolean) false pc o ∧ am_mo o) 752 (am_nth [] tL_law 47) :=
  And.intro ⟨ok_aload_n dL_law_752 rfl rfl, mo_aload⟩ (
  And.intro ⟨ok_iload_n dL_law_753 rfl rfl, mo_iload⟩ (
  And.intro ⟨ok_iconst dL_law_754 rfl ic_1, mo_push⟩ (
  And.intro ⟨ok_iadd dL_law_755 rfl, mo_bin⟩ (
  And.intro ⟨ok_ialdF dL_law_756 rfl, mo_iald⟩ (
  And.intro ⟨ok_aload_n dL_law_757 rfl rfl, mo_aload⟩ (
  And.intro ⟨ok_iload_n dL_law_758 rfl rfl, mo_iload⟩ (
  And.intro ⟨ok_iconst dL_law_759 rfl ic_2, mo_push⟩ (
  And.intro ⟨ok_iadd dL_law_760 rfl, mo_bin⟩ (
  And.intro ⟨ok_ialdF dL_law_761 rfl, mo_iald⟩ (
  And.intro ⟨ok_cv (z := 79) dL_law_762 hclX7 (by decide) wd_497 wd_498 wd_499 wd_1 wd_500 rfl (by decide) ⟨rfl, hy_X7_behind⟩ rfl, mo_cv⟩ (
  And.intro ⟨ok_nop, mo_nop⟩ (
  And.intro ⟨ok_nop, mo_nop⟩ (
  And.intro ⟨ok_aload_n dL_law_765 rfl rfl, mo_aload⟩ (
  And.intro ⟨ok_aload_n dL_law_766 rfl rfl, mo_aload⟩ (
  And.intro ⟨ok_iload_n dL_law_767 rfl rfl, mo_iload⟩ (
  trivial))))))))))))))))
theorem rL_law_48 : am_allR (fun pc o => am_ok am_tb0 cL_law RL 4 (some .boolean) false pc o ∧ am_mo o) 768 (am_nth [] tL_law 48) :=
  And.intro ⟨ok_iconst dL_law_768 rfl ic_1, mo_push⟩ (
  And.intro ⟨ok_iadd dL_law_769 rfl, mo_bin⟩ (
  And.intro ⟨ok_ialdF dL_law_770 rfl, mo_iald⟩ (
  And.intro ⟨ok_aload_n dL_law_771 rfl rfl, mo_aload⟩ (
  And.intro ⟨ok_iload_n dL_law_772 rfl rfl, mo_iload⟩ (
  And.intro ⟨ok_iconst dL_law_773 rfl ic_2, mo_push⟩ (
  And.intro ⟨ok_iadd dL_law_774 rfl, mo_bin⟩ (
  And.intro ⟨ok_ialdF dL_law_775 rfl, mo_iald⟩ (
  And.intro ⟨ok_cv (z := 162) dL_law_776 hclX8 (by decide) wd_1198 wd_1199 wd_1200 wd_8 wd_1201 rfl (by decide) ⟨rfl, hy_X8_behind⟩ rfl, mo_cv⟩ (
  And.intro ⟨ok_nop, mo_nop⟩ (
  And.intro ⟨ok_nop, mo_nop⟩ (
  And.intro ⟨ok_icmp_eq dL_law_779 (by decide) rfl, mo_icmp⟩ (
  And.intro ⟨ok_nop, mo_nop⟩ (
  And.intro ⟨ok_nop, mo_nop⟩ (
  And.intro ⟨ok_iconst dL_law_782 rfl ic_0, mo_push⟩ (
  And.intro ⟨ok_nret dL_law_783 rfl, mo_nret⟩ (
  trivial))))))))))))))))
theorem rL_law_49 : am_allR (fun pc o => am_ok am_tb0 cL_law RL 4 (some .boolean) false pc o ∧ am_mo o) 784 (am_nth [] tL_law 49) :=
  And.intro ⟨ok_aload_n dL_law_784 rfl rfl, mo_aload⟩ (
  And.intro ⟨ok_cv (z := 80) dL_law_785 hclX7 (by decide) wd_517 wd_518 wd_519 wd_1 wd_520 rfl (by decide) ⟨rfl, hy_X7_paid⟩ rfl, mo_cv⟩ (
  And.intro ⟨ok_nop, mo_nop⟩ (
  And.intro ⟨ok_nop, mo_nop⟩ (
  And.intro ⟨ok_aload_n dL_law_788 rfl rfl, mo_aload⟩ (
  And.intro ⟨ok_cv (z := 163) dL_law_789 hclX8 (by decide) wd_1214 wd_1215 wd_1216 wd_8 wd_1217 rfl (by decide) ⟨rfl, hy_X8_paid⟩ rfl, mo_cv⟩ (
  And.intro ⟨ok_nop, mo_nop⟩ (
  And.intro ⟨ok_nop, mo_nop⟩ (
  And.intro ⟨ok_icmp_eq dL_law_792 (by decide) rfl, mo_icmp⟩ (
  And.intro ⟨ok_nop, mo_nop⟩ (
  And.intro ⟨ok_nop, mo_nop⟩ (
  And.intro ⟨ok_iconst dL_law_795 rfl ic_0, mo_push⟩ (
  And.intro ⟨ok_nret dL_law_796 rfl, mo_nret⟩ (
  And.intro ⟨ok_aload_n dL_law_797 rfl rfl, mo_aload⟩ (
  And.intro ⟨ok_aload_n dL_law_798 rfl rfl, mo_aload⟩ (
  And.intro ⟨ok_iload_n dL_law_799 rfl rfl, mo_iload⟩ (
  trivial))))))))))))))))
theorem rL_law_50 : am_allR (fun pc o => am_ok am_tb0 cL_law RL 4 (some .boolean) false pc o ∧ am_mo o) 800 (am_nth [] tL_law 50) :=
  And.intro ⟨ok_iconst dL_law_800 rfl ic_1, mo_push⟩ (
  And.intro ⟨ok_iadd dL_law_801 rfl, mo_bin⟩ (
  And.intro ⟨ok_ialdF dL_law_802 rfl, mo_iald⟩ (
  And.intro ⟨ok_aload_n dL_law_803 rfl rfl, mo_aload⟩ (
  And.intro ⟨ok_iload_n dL_law_804 rfl rfl, mo_iload⟩ (
  And.intro ⟨ok_iconst dL_law_805 rfl ic_2, mo_push⟩ (
  And.intro ⟨ok_iadd dL_law_806 rfl, mo_bin⟩ (
  And.intro ⟨ok_ialdF dL_law_807 rfl, mo_iald⟩ (
  And.intro ⟨ok_cv (z := 81) dL_law_808 hclX7 (by decide) wd_521 wd_522 wd_523 wd_1 wd_524 rfl (by decide) ⟨rfl, hy_X7_best⟩ rfl, mo_cv⟩ (
  And.intro ⟨ok_nop, mo_nop⟩ (
  And.intro ⟨ok_nop, mo_nop⟩ (
  And.intro ⟨ok_aload_n dL_law_811 rfl rfl, mo_aload⟩ (
  And.intro ⟨ok_aload_n dL_law_812 rfl rfl, mo_aload⟩ (
  And.intro ⟨ok_iload_n dL_law_813 rfl rfl, mo_iload⟩ (
  And.intro ⟨ok_iconst dL_law_814 rfl ic_1, mo_push⟩ (
  And.intro ⟨ok_iadd dL_law_815 rfl, mo_bin⟩ (
  trivial))))))))))))))))
theorem rL_law_51 : am_allR (fun pc o => am_ok am_tb0 cL_law RL 4 (some .boolean) false pc o ∧ am_mo o) 816 (am_nth [] tL_law 51) :=
  And.intro ⟨ok_ialdF dL_law_816 rfl, mo_iald⟩ (
  And.intro ⟨ok_aload_n dL_law_817 rfl rfl, mo_aload⟩ (
  And.intro ⟨ok_iload_n dL_law_818 rfl rfl, mo_iload⟩ (
  And.intro ⟨ok_iconst dL_law_819 rfl ic_2, mo_push⟩ (
  And.intro ⟨ok_iadd dL_law_820 rfl, mo_bin⟩ (
  And.intro ⟨ok_ialdF dL_law_821 rfl, mo_iald⟩ (
  And.intro ⟨ok_cv (z := 164) dL_law_822 hclX8 (by decide) wd_1218 wd_1219 wd_1220 wd_8 wd_1221 rfl (by decide) ⟨rfl, hy_X8_best⟩ rfl, mo_cv⟩ (
  And.intro ⟨ok_nop, mo_nop⟩ (
  And.intro ⟨ok_nop, mo_nop⟩ (
  And.intro ⟨ok_icmp_eq dL_law_825 (by decide) rfl, mo_icmp⟩ (
  And.intro ⟨ok_nop, mo_nop⟩ (
  And.intro ⟨ok_nop, mo_nop⟩ (
  And.intro ⟨ok_iconst dL_law_828 rfl ic_0, mo_push⟩ (
  And.intro ⟨ok_nret dL_law_829 rfl, mo_nret⟩ (
  And.intro ⟨ok_aload_n dL_law_830 rfl rfl, mo_aload⟩ (
  And.intro ⟨ok_aload_n dL_law_831 rfl rfl, mo_aload⟩ (
  trivial))))))))))))))))
theorem rL_law_52 : am_allR (fun pc o => am_ok am_tb0 cL_law RL 4 (some .boolean) false pc o ∧ am_mo o) 832 (am_nth [] tL_law 52) :=
  And.intro ⟨ok_iload_n dL_law_832 rfl rfl, mo_iload⟩ (
  And.intro ⟨ok_iconst dL_law_833 rfl ic_1, mo_push⟩ (
  And.intro ⟨ok_iadd dL_law_834 rfl, mo_bin⟩ (
  And.intro ⟨ok_ialdF dL_law_835 rfl, mo_iald⟩ (
  And.intro ⟨ok_cv (z := 82) dL_law_836 hclX7 (by decide) wd_525 wd_526 wd_527 wd_1 wd_528 rfl (by decide) ⟨rfl, hy_X7_owes⟩ rfl, mo_cv⟩ (
  And.intro ⟨ok_nop, mo_nop⟩ (
  And.intro ⟨ok_nop, mo_nop⟩ (
  And.intro ⟨ok_aload_n dL_law_839 rfl rfl, mo_aload⟩ (
  And.intro ⟨ok_aload_n dL_law_840 rfl rfl, mo_aload⟩ (
  And.intro ⟨ok_iload_n dL_law_841 rfl rfl, mo_iload⟩ (
  And.intro ⟨ok_iconst dL_law_842 rfl ic_1, mo_push⟩ (
  And.intro ⟨ok_iadd dL_law_843 rfl, mo_bin⟩ (
  And.intro ⟨ok_ialdF dL_law_844 rfl, mo_iald⟩ (
  And.intro ⟨ok_cv (z := 166) dL_law_845 hclX8 (by decide) wd_1222 wd_1223 wd_1224 wd_8 wd_1225 rfl (by decide) ⟨rfl, hy_X8_owes⟩ rfl, mo_cv⟩ (
  And.intro ⟨ok_nop, mo_nop⟩ (
  And.intro ⟨ok_nop, mo_nop⟩ (
  trivial))))))))))))))))
theorem rL_law_53 : am_allR (fun pc o => am_ok am_tb0 cL_law RL 4 (some .boolean) false pc o ∧ am_mo o) 848 (am_nth [] tL_law 53) :=
  And.intro ⟨ok_icmp_eq dL_law_848 (by decide) rfl, mo_icmp⟩ (
  And.intro ⟨ok_nop, mo_nop⟩ (
  And.intro ⟨ok_nop, mo_nop⟩ (
  And.intro ⟨ok_iconst dL_law_851 rfl ic_0, mo_push⟩ (
  And.intro ⟨ok_nret dL_law_852 rfl, mo_nret⟩ (
  And.intro ⟨ok_aload_n dL_law_853 rfl rfl, mo_aload⟩ (
  And.intro ⟨ok_cv (z := 83) dL_law_854 hclX7 (by decide) wd_533 wd_534 wd_535 wd_1 wd_536 rfl (by decide) ⟨rfl, hy_X7_debtor⟩ rfl, mo_cv⟩ (
  And.intro ⟨ok_nop, mo_nop⟩ (
  And.intro ⟨ok_nop, mo_nop⟩ (
  And.intro ⟨ok_aload_n dL_law_857 rfl rfl, mo_aload⟩ (
  And.intro ⟨ok_cv (z := 167) dL_law_858 hclX8 (by decide) wd_1230 wd_1231 wd_1232 wd_8 wd_1233 rfl (by decide) ⟨rfl, hy_X8_debtor⟩ rfl, mo_cv⟩ (
  And.intro ⟨ok_nop, mo_nop⟩ (
  And.intro ⟨ok_nop, mo_nop⟩ (
  And.intro ⟨ok_icmp_eq dL_law_861 (by decide) rfl, mo_icmp⟩ (
  And.intro ⟨ok_nop, mo_nop⟩ (
  And.intro ⟨ok_nop, mo_nop⟩ (
  trivial))))))))))))))))
theorem rL_law_54 : am_allR (fun pc o => am_ok am_tb0 cL_law RL 4 (some .boolean) false pc o ∧ am_mo o) 864 (am_nth [] tL_law 54) :=
  And.intro ⟨ok_iconst dL_law_864 rfl ic_0, mo_push⟩ (
  And.intro ⟨ok_nret dL_law_865 rfl, mo_nret⟩ (
  And.intro ⟨ok_aload_n dL_law_866 rfl rfl, mo_aload⟩ (
  And.intro ⟨ok_aload_n dL_law_867 rfl rfl, mo_aload⟩ (
  And.intro ⟨ok_iload_n dL_law_868 rfl rfl, mo_iload⟩ (
  And.intro ⟨ok_iconst dL_law_869 rfl ic_1, mo_push⟩ (
  And.intro ⟨ok_iadd dL_law_870 rfl, mo_bin⟩ (
  And.intro ⟨ok_ialdF dL_law_871 rfl, mo_iald⟩ (
  And.intro ⟨ok_aload_n dL_law_872 rfl rfl, mo_aload⟩ (
  And.intro ⟨ok_iload_n dL_law_873 rfl rfl, mo_iload⟩ (
  And.intro ⟨ok_iconst dL_law_874 rfl ic_2, mo_push⟩ (
  And.intro ⟨ok_iadd dL_law_875 rfl, mo_bin⟩ (
  And.intro ⟨ok_ialdF dL_law_876 rfl, mo_iald⟩ (
  And.intro ⟨ok_cv (z := 84) dL_law_877 hclX7 (by decide) wd_537 wd_538 wd_539 wd_1 wd_540 rfl (by decide) ⟨rfl, hy_X7_dug⟩ rfl, mo_cv⟩ (
  And.intro ⟨ok_nop, mo_nop⟩ (
  And.intro ⟨ok_nop, mo_nop⟩ (
  trivial))))))))))))))))
theorem rL_law_55 : am_allR (fun pc o => am_ok am_tb0 cL_law RL 4 (some .boolean) false pc o ∧ am_mo o) 880 (am_nth [] tL_law 55) :=
  And.intro ⟨ok_aload_n dL_law_880 rfl rfl, mo_aload⟩ (
  And.intro ⟨ok_aload_n dL_law_881 rfl rfl, mo_aload⟩ (
  And.intro ⟨ok_iload_n dL_law_882 rfl rfl, mo_iload⟩ (
  And.intro ⟨ok_iconst dL_law_883 rfl ic_1, mo_push⟩ (
  And.intro ⟨ok_iadd dL_law_884 rfl, mo_bin⟩ (
  And.intro ⟨ok_ialdF dL_law_885 rfl, mo_iald⟩ (
  And.intro ⟨ok_aload_n dL_law_886 rfl rfl, mo_aload⟩ (
  And.intro ⟨ok_iload_n dL_law_887 rfl rfl, mo_iload⟩ (
  And.intro ⟨ok_iconst dL_law_888 rfl ic_2, mo_push⟩ (
  And.intro ⟨ok_iadd dL_law_889 rfl, mo_bin⟩ (
  And.intro ⟨ok_ialdF dL_law_890 rfl, mo_iald⟩ (
  And.intro ⟨ok_cv (z := 168) dL_law_891 hclX8 (by decide) wd_1234 wd_1235 wd_1236 wd_8 wd_1237 rfl (by decide) ⟨rfl, hy_X8_dug⟩ rfl, mo_cv⟩ (
  And.intro ⟨ok_nop, mo_nop⟩ (
  And.intro ⟨ok_nop, mo_nop⟩ (
  And.intro ⟨ok_icmp_eq dL_law_894 (by decide) rfl, mo_icmp⟩ (
  And.intro ⟨ok_nop, mo_nop⟩ (
  trivial))))))))))))))))
theorem rL_law_56 : am_allR (fun pc o => am_ok am_tb0 cL_law RL 4 (some .boolean) false pc o ∧ am_mo o) 896 (am_nth [] tL_law 56) :=
  And.intro ⟨ok_nop, mo_nop⟩ (
  And.intro ⟨ok_iconst dL_law_897 rfl ic_0, mo_push⟩ (
  And.intro ⟨ok_nret dL_law_898 rfl, mo_nret⟩ (
  And.intro ⟨ok_aload_n dL_law_899 rfl rfl, mo_aload⟩ (
  And.intro ⟨ok_aload_n dL_law_900 rfl rfl, mo_aload⟩ (
  And.intro ⟨ok_iload_n dL_law_901 rfl rfl, mo_iload⟩ (
  And.intro ⟨ok_iconst dL_law_902 rfl ic_1, mo_push⟩ (
  And.intro ⟨ok_iadd dL_law_903 rfl, mo_bin⟩ (
  And.intro ⟨ok_ialdF dL_law_904 rfl, mo_iald⟩ (
  And.intro ⟨ok_cv (z := 85) dL_law_905 hclX7 (by decide) wd_562 wd_563 wd_564 wd_1 wd_565 rfl (by decide) ⟨rfl, hy_X7_fine⟩ rfl, mo_cv⟩ (
  And.intro ⟨ok_nop, mo_nop⟩ (
  And.intro ⟨ok_nop, mo_nop⟩ (
  And.intro ⟨ok_aload_n dL_law_908 rfl rfl, mo_aload⟩ (
  And.intro ⟨ok_aload_n dL_law_909 rfl rfl, mo_aload⟩ (
  And.intro ⟨ok_iload_n dL_law_910 rfl rfl, mo_iload⟩ (
  And.intro ⟨ok_iconst dL_law_911 rfl ic_1, mo_push⟩ (
  trivial))))))))))))))))
theorem rL_law_57 : am_allR (fun pc o => am_ok am_tb0 cL_law RL 4 (some .boolean) false pc o ∧ am_mo o) 912 (am_nth [] tL_law 57) :=
  And.intro ⟨ok_iadd dL_law_912 rfl, mo_bin⟩ (
  And.intro ⟨ok_ialdF dL_law_913 rfl, mo_iald⟩ (
  And.intro ⟨ok_cv (z := 169) dL_law_914 hclX8 (by decide) wd_1242 wd_1243 wd_1244 wd_8 wd_1245 rfl (by decide) ⟨rfl, hy_X8_fine⟩ rfl, mo_cv⟩ (
  And.intro ⟨ok_nop, mo_nop⟩ (
  And.intro ⟨ok_nop, mo_nop⟩ (
  And.intro ⟨ok_icmp_eq dL_law_917 (by decide) rfl, mo_icmp⟩ (
  And.intro ⟨ok_nop, mo_nop⟩ (
  And.intro ⟨ok_nop, mo_nop⟩ (
  And.intro ⟨ok_iconst dL_law_920 rfl ic_0, mo_push⟩ (
  And.intro ⟨ok_nret dL_law_921 rfl, mo_nret⟩ (
  And.intro ⟨ok_aload_n dL_law_922 rfl rfl, mo_aload⟩ (
  And.intro ⟨ok_aload_n dL_law_923 rfl rfl, mo_aload⟩ (
  And.intro ⟨ok_iload_n dL_law_924 rfl rfl, mo_iload⟩ (
  And.intro ⟨ok_iconst dL_law_925 rfl ic_1, mo_push⟩ (
  And.intro ⟨ok_iadd dL_law_926 rfl, mo_bin⟩ (
  And.intro ⟨ok_ialdF dL_law_927 rfl, mo_iald⟩ (
  trivial))))))))))))))))
theorem rL_law_58 : am_allR (fun pc o => am_ok am_tb0 cL_law RL 4 (some .boolean) false pc o ∧ am_mo o) 928 (am_nth [] tL_law 58) :=
  And.intro ⟨ok_aload_n dL_law_928 rfl rfl, mo_aload⟩ (
  And.intro ⟨ok_iload_n dL_law_929 rfl rfl, mo_iload⟩ (
  And.intro ⟨ok_iconst dL_law_930 rfl ic_2, mo_push⟩ (
  And.intro ⟨ok_iadd dL_law_931 rfl, mo_bin⟩ (
  And.intro ⟨ok_ialdF dL_law_932 rfl, mo_iald⟩ (
  And.intro ⟨ok_aload_n dL_law_933 rfl rfl, mo_aload⟩ (
  And.intro ⟨ok_iload_n dL_law_934 rfl rfl, mo_iload⟩ (
  And.intro ⟨ok_iconst dL_law_935 rfl ic_3, mo_push⟩ (
  And.intro ⟨ok_iadd dL_law_936 rfl, mo_bin⟩ (
  And.intro ⟨ok_ialdF dL_law_937 rfl, mo_iald⟩ (
  And.intro ⟨ok_cv (z := 86) dL_law_938 hclX7 (by decide) wd_571 wd_572 wd_573 wd_1 wd_574 rfl (by decide) ⟨rfl, hy_X7_feed⟩ rfl, mo_cv⟩ (
  And.intro ⟨ok_nop, mo_nop⟩ (
  And.intro ⟨ok_nop, mo_nop⟩ (
  And.intro ⟨ok_aload_n dL_law_941 rfl rfl, mo_aload⟩ (
  And.intro ⟨ok_aload_n dL_law_942 rfl rfl, mo_aload⟩ (
  And.intro ⟨ok_iload_n dL_law_943 rfl rfl, mo_iload⟩ (
  trivial))))))))))))))))
theorem rL_law_59 : am_allR (fun pc o => am_ok am_tb0 cL_law RL 4 (some .boolean) false pc o ∧ am_mo o) 944 (am_nth [] tL_law 59) :=
  And.intro ⟨ok_iconst dL_law_944 rfl ic_1, mo_push⟩ (
  And.intro ⟨ok_iadd dL_law_945 rfl, mo_bin⟩ (
  And.intro ⟨ok_ialdF dL_law_946 rfl, mo_iald⟩ (
  And.intro ⟨ok_aload_n dL_law_947 rfl rfl, mo_aload⟩ (
  And.intro ⟨ok_iload_n dL_law_948 rfl rfl, mo_iload⟩ (
  And.intro ⟨ok_iconst dL_law_949 rfl ic_2, mo_push⟩ (
  And.intro ⟨ok_iadd dL_law_950 rfl, mo_bin⟩ (
  And.intro ⟨ok_ialdF dL_law_951 rfl, mo_iald⟩ (
  And.intro ⟨ok_aload_n dL_law_952 rfl rfl, mo_aload⟩ (
  And.intro ⟨ok_iload_n dL_law_953 rfl rfl, mo_iload⟩ (
  And.intro ⟨ok_iconst dL_law_954 rfl ic_3, mo_push⟩ (
  And.intro ⟨ok_iadd dL_law_955 rfl, mo_bin⟩ (
  And.intro ⟨ok_ialdF dL_law_956 rfl, mo_iald⟩ (
  And.intro ⟨ok_cv (z := 170) dL_law_957 hclX8 (by decide) wd_1246 wd_1247 wd_1248 wd_8 wd_1249 rfl (by decide) ⟨rfl, hy_X8_feed⟩ rfl, mo_cv⟩ (
  And.intro ⟨ok_nop, mo_nop⟩ (
  And.intro ⟨ok_nop, mo_nop⟩ (
  trivial))))))))))))))))
theorem rL_law_60 : am_allR (fun pc o => am_ok am_tb0 cL_law RL 4 (some .boolean) false pc o ∧ am_mo o) 960 (am_nth [] tL_law 60) :=
  And.intro ⟨ok_icmp_eq dL_law_960 (by decide) rfl, mo_icmp⟩ (
  And.intro ⟨ok_nop, mo_nop⟩ (
  And.intro ⟨ok_nop, mo_nop⟩ (
  And.intro ⟨ok_iconst dL_law_963 rfl ic_0, mo_push⟩ (
  And.intro ⟨ok_nret dL_law_964 rfl, mo_nret⟩ (
  And.intro ⟨ok_aload_n dL_law_965 rfl rfl, mo_aload⟩ (
  And.intro ⟨ok_aload_n dL_law_966 rfl rfl, mo_aload⟩ (
  And.intro ⟨ok_iload_n dL_law_967 rfl rfl, mo_iload⟩ (
  And.intro ⟨ok_iconst dL_law_968 rfl ic_1, mo_push⟩ (
  And.intro ⟨ok_iadd dL_law_969 rfl, mo_bin⟩ (
  And.intro ⟨ok_ialdF dL_law_970 rfl, mo_iald⟩ (
  And.intro ⟨ok_cv (z := 87) dL_law_971 hclX7 (by decide) wd_579 wd_580 wd_581 wd_1 wd_582 rfl (by decide) ⟨rfl, hy_X7_trim⟩ rfl, mo_cv⟩ (
  And.intro ⟨ok_nop, mo_nop⟩ (
  And.intro ⟨ok_nop, mo_nop⟩ (
  And.intro ⟨ok_aload_n dL_law_974 rfl rfl, mo_aload⟩ (
  And.intro ⟨ok_aload_n dL_law_975 rfl rfl, mo_aload⟩ (
  trivial))))))))))))))))
theorem rL_law_61 : am_allR (fun pc o => am_ok am_tb0 cL_law RL 4 (some .boolean) false pc o ∧ am_mo o) 976 (am_nth [] tL_law 61) :=
  And.intro ⟨ok_iload_n dL_law_976 rfl rfl, mo_iload⟩ (
  And.intro ⟨ok_iconst dL_law_977 rfl ic_1, mo_push⟩ (
  And.intro ⟨ok_iadd dL_law_978 rfl, mo_bin⟩ (
  And.intro ⟨ok_ialdF dL_law_979 rfl, mo_iald⟩ (
  And.intro ⟨ok_cv (z := 171) dL_law_980 hclX8 (by decide) wd_1250 wd_1251 wd_1252 wd_8 wd_1253 rfl (by decide) ⟨rfl, hy_X8_trim⟩ rfl, mo_cv⟩ (
  And.intro ⟨ok_nop, mo_nop⟩ (
  And.intro ⟨ok_nop, mo_nop⟩ (
  And.intro ⟨ok_icmp_eq dL_law_983 (by decide) rfl, mo_icmp⟩ (
  And.intro ⟨ok_nop, mo_nop⟩ (
  And.intro ⟨ok_nop, mo_nop⟩ (
  And.intro ⟨ok_iconst dL_law_986 rfl ic_0, mo_push⟩ (
  And.intro ⟨ok_nret dL_law_987 rfl, mo_nret⟩ (
  And.intro ⟨ok_aload_n dL_law_988 rfl rfl, mo_aload⟩ (
  And.intro ⟨ok_cv (z := 88) dL_law_989 hclX7 (by decide) wd_583 wd_584 wd_585 wd_1 wd_586 rfl (by decide) ⟨rfl, hy_X7_text⟩ rfl, mo_cv⟩ (
  And.intro ⟨ok_nop, mo_nop⟩ (
  And.intro ⟨ok_nop, mo_nop⟩ (
  trivial))))))))))))))))
theorem rL_law_62 : am_allR (fun pc o => am_ok am_tb0 cL_law RL 4 (some .boolean) false pc o ∧ am_mo o) 992 (am_nth [] tL_law 62) :=
  And.intro ⟨ok_aload_n dL_law_992 rfl rfl, mo_aload⟩ (
  And.intro ⟨ok_cv (z := 183) dL_law_993 hclX8 (by decide) wd_1254 wd_1255 wd_1256 wd_8 wd_1257 rfl (by decide) ⟨rfl, hy_X8_text⟩ rfl, mo_cv⟩ (
  And.intro ⟨ok_nop, mo_nop⟩ (
  And.intro ⟨ok_nop, mo_nop⟩ (
  And.intro ⟨ok_icmp_eq dL_law_996 (by decide) rfl, mo_icmp⟩ (
  And.intro ⟨ok_nop, mo_nop⟩ (
  And.intro ⟨ok_nop, mo_nop⟩ (
  And.intro ⟨ok_iconst dL_law_999 rfl ic_0, mo_push⟩ (
  And.intro ⟨ok_nret dL_law_1000 rfl, mo_nret⟩ (
  And.intro ⟨ok_aload_n dL_law_1001 rfl rfl, mo_aload⟩ (
  And.intro ⟨ok_aload_n dL_law_1002 rfl rfl, mo_aload⟩ (
  And.intro ⟨ok_iload_n dL_law_1003 rfl rfl, mo_iload⟩ (
  And.intro ⟨ok_iconst dL_law_1004 rfl ic_1, mo_push⟩ (
  And.intro ⟨ok_iadd dL_law_1005 rfl, mo_bin⟩ (
  And.intro ⟨ok_ialdF dL_law_1006 rfl, mo_iald⟩ (
  And.intro ⟨ok_aload_n dL_law_1007 rfl rfl, mo_aload⟩ (
  trivial))))))))))))))))
theorem rL_law_63 : am_allR (fun pc o => am_ok am_tb0 cL_law RL 4 (some .boolean) false pc o ∧ am_mo o) 1008 (am_nth [] tL_law 63) :=
  And.intro ⟨ok_iload_n dL_law_1008 rfl rfl, mo_iload⟩ (
  And.intro ⟨ok_iconst dL_law_1009 rfl ic_2, mo_push⟩ (
  And.intro ⟨ok_iadd dL_law_1010 rfl, mo_bin⟩ (
  And.intro ⟨ok_ialdF dL_law_1011 rfl, mo_iald⟩ (
  And.intro ⟨ok_cv (z := 89) dL_law_1012 hclX7 (by decide) wd_793 wd_794 wd_795 wd_1 wd_796 rfl (by decide) ⟨rfl, hy_X7_textTold⟩ rfl, mo_cv⟩ (
  And.intro ⟨ok_nop, mo_nop⟩ (
  And.intro ⟨ok_nop, mo_nop⟩ (
  And.intro ⟨ok_aload_n dL_law_1015 rfl rfl, mo_aload⟩ (
  And.intro ⟨ok_aload_n dL_law_1016 rfl rfl, mo_aload⟩ (
  And.intro ⟨ok_iload_n dL_law_1017 rfl rfl, mo_iload⟩ (
  And.intro ⟨ok_iconst dL_law_1018 rfl ic_1, mo_push⟩ (
  And.intro ⟨ok_iadd dL_law_1019 rfl, mo_bin⟩ (
  And.intro ⟨ok_ialdF dL_law_1020 rfl, mo_iald⟩ (
  And.intro ⟨ok_aload_n dL_law_1021 rfl rfl, mo_aload⟩ (
  And.intro ⟨ok_iload_n dL_law_1022 rfl rfl, mo_iload⟩ (
  And.intro ⟨ok_iconst dL_law_1023 rfl ic_2, mo_push⟩ (
  trivial))))))))))))))))
theorem rL_law_64 : am_allR (fun pc o => am_ok am_tb0 cL_law RL 4 (some .boolean) false pc o ∧ am_mo o) 1024 (am_nth [] tL_law 64) :=
  And.intro ⟨ok_iadd dL_law_1024 rfl, mo_bin⟩ (
  And.intro ⟨ok_ialdF dL_law_1025 rfl, mo_iald⟩ (
  And.intro ⟨ok_cv (z := 184) dL_law_1026 hclX8 (by decide) wd_1301 wd_1302 wd_1303 wd_8 wd_1304 rfl (by decide) ⟨rfl, hy_X8_textTold⟩ rfl, mo_cv⟩ (
  And.intro ⟨ok_nop, mo_nop⟩ (
  And.intro ⟨ok_nop, mo_nop⟩ (
  And.intro ⟨ok_icmp_eq dL_law_1029 (by decide) rfl, mo_icmp⟩ (
  And.intro ⟨ok_nop, mo_nop⟩ (
  And.intro ⟨ok_nop, mo_nop⟩ (
  And.intro ⟨ok_iconst dL_law_1032 rfl ic_0, mo_push⟩ (
  And.intro ⟨ok_nret dL_law_1033 rfl, mo_nret⟩ (
  And.intro ⟨ok_aload_n dL_law_1034 rfl rfl, mo_aload⟩ (
  And.intro ⟨ok_aload_n dL_law_1035 rfl rfl, mo_aload⟩ (
  And.intro ⟨ok_iload_n dL_law_1036 rfl rfl, mo_iload⟩ (
  And.intro ⟨ok_iconst dL_law_1037 rfl ic_1, mo_push⟩ (
  And.intro ⟨ok_iadd dL_law_1038 rfl, mo_bin⟩ (
  And.intro ⟨ok_ialdF dL_law_1039 rfl, mo_iald⟩ (
  trivial))))))))))))))))
theorem rL_law_65 : am_allR (fun pc o => am_ok am_tb0 cL_law RL 4 (some .boolean) false pc o ∧ am_mo o) 1040 (am_nth [] tL_law 65) :=
  And.intro ⟨ok_cv (z := 90) dL_law_1040 hclX7 (by decide) wd_798 wd_799 wd_800 wd_1 wd_801 rfl (by decide) ⟨rfl, hy_X7_why⟩ rfl, mo_cv⟩ (
  And.intro ⟨ok_nop, mo_nop⟩ (
  And.intro ⟨ok_nop, mo_nop⟩ (
  And.intro ⟨ok_aload_n dL_law_1043 rfl rfl, mo_aload⟩ (
  And.intro ⟨ok_aload_n dL_law_1044 rfl rfl, mo_aload⟩ (
  And.intro ⟨ok_iload_n dL_law_1045 rfl rfl, mo_iload⟩ (
  And.intro ⟨ok_iconst dL_law_1046 rfl ic_1, mo_push⟩ (
  And.intro ⟨ok_iadd dL_law_1047 rfl, mo_bin⟩ (
  And.intro ⟨ok_ialdF dL_law_1048 rfl, mo_iald⟩ (
  And.intro ⟨ok_cv (z := 186) dL_law_1049 hclX8 (by decide) wd_1305 wd_1306 wd_1307 wd_8 wd_1308 rfl (by decide) ⟨rfl, hy_X8_why⟩ rfl, mo_cv⟩ (
  And.intro ⟨ok_nop, mo_nop⟩ (
  And.intro ⟨ok_nop, mo_nop⟩ (
  And.intro ⟨ok_icmp_eq dL_law_1052 (by decide) rfl, mo_icmp⟩ (
  And.intro ⟨ok_nop, mo_nop⟩ (
  And.intro ⟨ok_nop, mo_nop⟩ (
  And.intro ⟨ok_iconst dL_law_1055 rfl ic_0, mo_push⟩ (
  trivial))))))))))))))))
theorem rL_law_66 : am_allR (fun pc o => am_ok am_tb0 cL_law RL 4 (some .boolean) false pc o ∧ am_mo o) 1056 (am_nth [] tL_law 66) :=
  And.intro ⟨ok_nret dL_law_1056 rfl, mo_nret⟩ (
  And.intro ⟨ok_aload_n dL_law_1057 rfl rfl, mo_aload⟩ (
  And.intro ⟨ok_aload_n dL_law_1058 rfl rfl, mo_aload⟩ (
  And.intro ⟨ok_iload_n dL_law_1059 rfl rfl, mo_iload⟩ (
  And.intro ⟨ok_iconst dL_law_1060 rfl ic_1, mo_push⟩ (
  And.intro ⟨ok_iadd dL_law_1061 rfl, mo_bin⟩ (
  And.intro ⟨ok_ialdF dL_law_1062 rfl, mo_iald⟩ (
  And.intro ⟨ok_aload_n dL_law_1063 rfl rfl, mo_aload⟩ (
  And.intro ⟨ok_iload_n dL_law_1064 rfl rfl, mo_iload⟩ (
  And.intro ⟨ok_iconst dL_law_1065 rfl ic_2, mo_push⟩ (
  And.intro ⟨ok_iadd dL_law_1066 rfl, mo_bin⟩ (
  And.intro ⟨ok_ialdF dL_law_1067 rfl, mo_iald⟩ (
  And.intro ⟨ok_aload_n dL_law_1068 rfl rfl, mo_aload⟩ (
  And.intro ⟨ok_iload_n dL_law_1069 rfl rfl, mo_iload⟩ (
  And.intro ⟨ok_iconst dL_law_1070 rfl ic_3, mo_push⟩ (
  And.intro ⟨ok_iadd dL_law_1071 rfl, mo_bin⟩ (
  trivial))))))))))))))))
theorem rL_law_67 : am_allR (fun pc o => am_ok am_tb0 cL_law RL 4 (some .boolean) false pc o ∧ am_mo o) 1072 (am_nth [] tL_law 67) :=
  And.intro ⟨ok_ialdF dL_law_1072 rfl, mo_iald⟩ (
  And.intro ⟨ok_cv (z := 91) dL_law_1073 hclX7 (by decide) wd_802 wd_803 wd_804 wd_1 wd_805 rfl (by decide) ⟨rfl, hy_X7_sheet⟩ rfl, mo_cv⟩ (
  And.intro ⟨ok_nop, mo_nop⟩ (
  And.intro ⟨ok_nop, mo_nop⟩ (
  And.intro ⟨ok_aload_n dL_law_1076 rfl rfl, mo_aload⟩ (
  And.intro ⟨ok_aload_n dL_law_1077 rfl rfl, mo_aload⟩ (
  And.intro ⟨ok_iload_n dL_law_1078 rfl rfl, mo_iload⟩ (
  And.intro ⟨ok_iconst dL_law_1079 rfl ic_1, mo_push⟩ (
  And.intro ⟨ok_iadd dL_law_1080 rfl, mo_bin⟩ (
  And.intro ⟨ok_ialdF dL_law_1081 rfl, mo_iald⟩ (
  And.intro ⟨ok_aload_n dL_law_1082 rfl rfl, mo_aload⟩ (
  And.intro ⟨ok_iload_n dL_law_1083 rfl rfl, mo_iload⟩ (
  And.intro ⟨ok_iconst dL_law_1084 rfl ic_2, mo_push⟩ (
  And.intro ⟨ok_iadd dL_law_1085 rfl, mo_bin⟩ (
  And.intro ⟨ok_ialdF dL_law_1086 rfl, mo_iald⟩ (
  And.intro ⟨ok_aload_n dL_law_1087 rfl rfl, mo_aload⟩ (
  trivial))))))))))))))))
theorem rL_law_68 : am_allR (fun pc o => am_ok am_tb0 cL_law RL 4 (some .boolean) false pc o ∧ am_mo o) 1088 (am_nth [] tL_law 68) :=
  And.intro ⟨ok_iload_n dL_law_1088 rfl rfl, mo_iload⟩ (
  And.intro ⟨ok_iconst dL_law_1089 rfl ic_3, mo_push⟩ (
  And.intro ⟨ok_iadd dL_law_1090 rfl, mo_bin⟩ (
  And.intro ⟨ok_ialdF dL_law_1091 rfl, mo_iald⟩ (
  And.intro ⟨ok_cv (z := 191) dL_law_1092 hclX8 (by decide) wd_1309 wd_1310 wd_1311 wd_8 wd_1312 rfl (by decide) ⟨rfl, hy_X8_sheet⟩ rfl, mo_cv⟩ (
  And.intro ⟨ok_nop, mo_nop⟩ (
  And.intro ⟨ok_nop, mo_nop⟩ (
  And.intro ⟨ok_icmp_eq dL_law_1095 (by decide) rfl, mo_icmp⟩ (
  And.intro ⟨ok_nop, mo_nop⟩ (
  And.intro ⟨ok_nop, mo_nop⟩ (
  And.intro ⟨ok_iconst dL_law_1098 rfl ic_0, mo_push⟩ (
  And.intro ⟨ok_nret dL_law_1099 rfl, mo_nret⟩ (
  And.intro ⟨ok_aload_n dL_law_1100 rfl rfl, mo_aload⟩ (
  And.intro ⟨ok_aload_n dL_law_1101 rfl rfl, mo_aload⟩ (
  And.intro ⟨ok_iload_n dL_law_1102 rfl rfl, mo_iload⟩ (
  And.intro ⟨ok_iconst dL_law_1103 rfl ic_1, mo_push⟩ (
  trivial))))))))))))))))
theorem rL_law_69 : am_allR (fun pc o => am_ok am_tb0 cL_law RL 4 (some .boolean) false pc o ∧ am_mo o) 1104 (am_nth [] tL_law 69) :=
  And.intro ⟨ok_iadd dL_law_1104 rfl, mo_bin⟩ (
  And.intro ⟨ok_ialdF dL_law_1105 rfl, mo_iald⟩ (
  And.intro ⟨ok_aload_n dL_law_1106 rfl rfl, mo_aload⟩ (
  And.intro ⟨ok_iload_n dL_law_1107 rfl rfl, mo_iload⟩ (
  And.intro ⟨ok_iconst dL_law_1108 rfl ic_2, mo_push⟩ (
  And.intro ⟨ok_iadd dL_law_1109 rfl, mo_bin⟩ (
  And.intro ⟨ok_ialdF dL_law_1110 rfl, mo_iald⟩ (
  And.intro ⟨ok_aload_n dL_law_1111 rfl rfl, mo_aload⟩ (
  And.intro ⟨ok_iload_n dL_law_1112 rfl rfl, mo_iload⟩ (
  And.intro ⟨ok_iconst dL_law_1113 rfl ic_3, mo_push⟩ (
  And.intro ⟨ok_iadd dL_law_1114 rfl, mo_bin⟩ (
  And.intro ⟨ok_ialdF dL_law_1115 rfl, mo_iald⟩ (
  And.intro ⟨ok_cv (z := 92) dL_law_1116 hclX7 (by decide) wd_812 wd_813 wd_814 wd_1 wd_815 rfl (by decide) ⟨rfl, hy_X7_mark⟩ rfl, mo_cv⟩ (
  And.intro ⟨ok_nop, mo_nop⟩ (
  And.intro ⟨ok_nop, mo_nop⟩ (
  And.intro ⟨ok_aload_n dL_law_1119 rfl rfl, mo_aload⟩ (
  trivial))))))))))))))))
theorem rL_law_70 : am_allR (fun pc o => am_ok am_tb0 cL_law RL 4 (some .boolean) false pc o ∧ am_mo o) 1120 (am_nth [] tL_law 70) :=
  And.intro ⟨ok_aload_n dL_law_1120 rfl rfl, mo_aload⟩ (
  And.intro ⟨ok_iload_n dL_law_1121 rfl rfl, mo_iload⟩ (
  And.intro ⟨ok_iconst dL_law_1122 rfl ic_1, mo_push⟩ (
  And.intro ⟨ok_iadd dL_law_1123 rfl, mo_bin⟩ (
  And.intro ⟨ok_ialdF dL_law_1124 rfl, mo_iald⟩ (
  And.intro ⟨ok_aload_n dL_law_1125 rfl rfl, mo_aload⟩ (
  And.intro ⟨ok_iload_n dL_law_1126 rfl rfl, mo_iload⟩ (
  And.intro ⟨ok_iconst dL_law_1127 rfl ic_2, mo_push⟩ (
  And.intro ⟨ok_iadd dL_law_1128 rfl, mo_bin⟩ (
  And.intro ⟨ok_ialdF dL_law_1129 rfl, mo_iald⟩ (
  And.intro ⟨ok_aload_n dL_law_1130 rfl rfl, mo_aload⟩ (
  And.intro ⟨ok_iload_n dL_law_1131 rfl rfl, mo_iload⟩ (
  And.intro ⟨ok_iconst dL_law_1132 rfl ic_3, mo_push⟩ (
  And.intro ⟨ok_iadd dL_law_1133 rfl, mo_bin⟩ (
  And.intro ⟨ok_ialdF dL_law_1134 rfl, mo_iald⟩ (
  And.intro ⟨ok_cv (z := 192) dL_law_1135 hclX8 (by decide) wd_1314 wd_1315 wd_1316 wd_8 wd_1317 rfl (by decide) ⟨rfl, hy_X8_mark⟩ rfl, mo_cv⟩ (
  trivial))))))))))))))))
theorem rL_law_71 : am_allR (fun pc o => am_ok am_tb0 cL_law RL 4 (some .boolean) false pc o ∧ am_mo o) 1136 (am_nth [] tL_law 71) :=
  And.intro ⟨ok_nop, mo_nop⟩ (
  And.intro ⟨ok_nop, mo_nop⟩ (
  And.intro ⟨ok_icmp_eq dL_law_1138 (by decide) rfl, mo_icmp⟩ (
  And.intro ⟨ok_nop, mo_nop⟩ (
  And.intro ⟨ok_nop, mo_nop⟩ (
  And.intro ⟨ok_iconst dL_law_1141 rfl ic_0, mo_push⟩ (
  And.intro ⟨ok_nret dL_law_1142 rfl, mo_nret⟩ (
  And.intro ⟨ok_aload_n dL_law_1143 rfl rfl, mo_aload⟩ (
  And.intro ⟨ok_aload_n dL_law_1144 rfl rfl, mo_aload⟩ (
  And.intro ⟨ok_iload_n dL_law_1145 rfl rfl, mo_iload⟩ (
  And.intro ⟨ok_iconst dL_law_1146 rfl ic_1, mo_push⟩ (
  And.intro ⟨ok_iadd dL_law_1147 rfl, mo_bin⟩ (
  And.intro ⟨ok_ialdF dL_law_1148 rfl, mo_iald⟩ (
  And.intro ⟨ok_cv (z := 93) dL_law_1149 hclX7 (by decide) wd_820 wd_821 wd_822 wd_1 wd_823 rfl (by decide) ⟨rfl, hy_X7_pour⟩ rfl, mo_cv⟩ (
  And.intro ⟨ok_nop, mo_nop⟩ (
  And.intro ⟨ok_nop, mo_nop⟩ (
  trivial))))))))))))))))
theorem rL_law_72 : am_allR (fun pc o => am_ok am_tb0 cL_law RL 4 (some .boolean) false pc o ∧ am_mo o) 1152 (am_nth [] tL_law 72) :=
  And.intro ⟨ok_aload_n dL_law_1152 rfl rfl, mo_aload⟩ (
  And.intro ⟨ok_aload_n dL_law_1153 rfl rfl, mo_aload⟩ (
  And.intro ⟨ok_iload_n dL_law_1154 rfl rfl, mo_iload⟩ (
  And.intro ⟨ok_iconst dL_law_1155 rfl ic_1, mo_push⟩ (
  And.intro ⟨ok_iadd dL_law_1156 rfl, mo_bin⟩ (
  And.intro ⟨ok_ialdF dL_law_1157 rfl, mo_iald⟩ (
  And.intro ⟨ok_cv (z := 193) dL_law_1158 hclX8 (by decide) wd_1321 wd_1322 wd_1323 wd_8 wd_1324 rfl (by decide) ⟨rfl, hy_X8_pour⟩ rfl, mo_cv⟩ (
  And.intro ⟨ok_nop, mo_nop⟩ (
  And.intro ⟨ok_nop, mo_nop⟩ (
  And.intro ⟨ok_icmp_eq dL_law_1161 (by decide) rfl, mo_icmp⟩ (
  And.intro ⟨ok_nop, mo_nop⟩ (
  And.intro ⟨ok_nop, mo_nop⟩ (
  And.intro ⟨ok_iconst dL_law_1164 rfl ic_0, mo_push⟩ (
  And.intro ⟨ok_nret dL_law_1165 rfl, mo_nret⟩ (
  And.intro ⟨ok_aload_n dL_law_1166 rfl rfl, mo_aload⟩ (
  And.intro ⟨ok_aload_n dL_law_1167 rfl rfl, mo_aload⟩ (
  trivial))))))))))))))))
theorem rL_law_73 : am_allR (fun pc o => am_ok am_tb0 cL_law RL 4 (some .boolean) false pc o ∧ am_mo o) 1168 (am_nth [] tL_law 73) :=
  And.intro ⟨ok_iload_n dL_law_1168 rfl rfl, mo_iload⟩ (
  And.intro ⟨ok_iconst dL_law_1169 rfl ic_1, mo_push⟩ (
  And.intro ⟨ok_iadd dL_law_1170 rfl, mo_bin⟩ (
  And.intro ⟨ok_ialdF dL_law_1171 rfl, mo_iald⟩ (
  And.intro ⟨ok_cv (z := 94) dL_law_1172 hclX7 (by decide) wd_825 wd_826 wd_827 wd_1 wd_828 rfl (by decide) ⟨rfl, hy_X7_reads⟩ rfl, mo_cv⟩ (
  And.intro ⟨ok_nop, mo_nop⟩ (
  And.intro ⟨ok_nop, mo_nop⟩ (
  And.intro ⟨ok_aload_n dL_law_1175 rfl rfl, mo_aload⟩ (
  And.intro ⟨ok_aload_n dL_law_1176 rfl rfl, mo_aload⟩ (
  And.intro ⟨ok_iload_n dL_law_1177 rfl rfl, mo_iload⟩ (
  And.intro ⟨ok_iconst dL_law_1178 rfl ic_1, mo_push⟩ (
  And.intro ⟨ok_iadd dL_law_1179 rfl, mo_bin⟩ (
  And.intro ⟨ok_ialdF dL_law_1180 rfl, mo_iald⟩ (
  And.intro ⟨ok_cv (z := 194) dL_law_1181 hclX8 (by decide) wd_1325 wd_1326 wd_1327 wd_8 wd_1328 rfl (by decide) ⟨rfl, hy_X8_reads⟩ rfl, mo_cv⟩ (
  And.intro ⟨ok_nop, mo_nop⟩ (
  And.intro ⟨ok_nop, mo_nop⟩ (
  trivial))))))))))))))))
theorem rL_law_74 : am_allR (fun pc o => am_ok am_tb0 cL_law RL 4 (some .boolean) false pc o ∧ am_mo o) 1184 (am_nth [] tL_law 74) :=
  And.intro ⟨ok_icmp_eq dL_law_1184 (by decide) rfl, mo_icmp⟩ (
  And.intro ⟨ok_nop, mo_nop⟩ (
  And.intro ⟨ok_nop, mo_nop⟩ (
  And.intro ⟨ok_iconst dL_law_1187 rfl ic_0, mo_push⟩ (
  And.intro ⟨ok_nret dL_law_1188 rfl, mo_nret⟩ (
  And.intro ⟨ok_aload_n dL_law_1189 rfl rfl, mo_aload⟩ (
  And.intro ⟨ok_aload_n dL_law_1190 rfl rfl, mo_aload⟩ (
  And.intro ⟨ok_iload_n dL_law_1191 rfl rfl, mo_iload⟩ (
  And.intro ⟨ok_iconst dL_law_1192 rfl ic_1, mo_push⟩ (
  And.intro ⟨ok_iadd dL_law_1193 rfl, mo_bin⟩ (
  And.intro ⟨ok_ialdF dL_law_1194 rfl, mo_iald⟩ (
  And.intro ⟨ok_aload_n dL_law_1195 rfl rfl, mo_aload⟩ (
  And.intro ⟨ok_iload_n dL_law_1196 rfl rfl, mo_iload⟩ (
  And.intro ⟨ok_iconst dL_law_1197 rfl ic_2, mo_push⟩ (
  And.intro ⟨ok_iadd dL_law_1198 rfl, mo_bin⟩ (
  And.intro ⟨ok_ialdF dL_law_1199 rfl, mo_iald⟩ (
  trivial))))))))))))))))
theorem rL_law_75 : am_allR (fun pc o => am_ok am_tb0 cL_law RL 4 (some .boolean) false pc o ∧ am_mo o) 1200 (am_nth [] tL_law 75) :=
  And.intro ⟨ok_aload_n dL_law_1200 rfl rfl, mo_aload⟩ (
  And.intro ⟨ok_iload_n dL_law_1201 rfl rfl, mo_iload⟩ (
  And.intro ⟨ok_iconst dL_law_1202 rfl ic_3, mo_push⟩ (
  And.intro ⟨ok_iadd dL_law_1203 rfl, mo_bin⟩ (
  And.intro ⟨ok_ialdF dL_law_1204 rfl, mo_iald⟩ (
  And.intro ⟨ok_aload_n dL_law_1205 rfl rfl, mo_aload⟩ (
  And.intro ⟨ok_iload_n dL_law_1206 rfl rfl, mo_iload⟩ (
  And.intro ⟨ok_iconst dL_law_1207 rfl ic_4, mo_push⟩ (
  And.intro ⟨ok_iadd dL_law_1208 rfl, mo_bin⟩ (
  And.intro ⟨ok_ialdF dL_law_1209 rfl, mo_iald⟩ (
  And.intro ⟨ok_aload_n dL_law_1210 rfl rfl, mo_aload⟩ (
  And.intro ⟨ok_iload_n dL_law_1211 rfl rfl, mo_iload⟩ (
  And.intro ⟨ok_iconst dL_law_1212 rfl ic_5, mo_push⟩ (
  And.intro ⟨ok_iadd dL_law_1213 rfl, mo_bin⟩ (
  And.intro ⟨ok_ialdF dL_law_1214 rfl, mo_iald⟩ (
  And.intro ⟨ok_cv (z := 95) dL_law_1215 hclX7 (by decide) wd_829 wd_830 wd_831 wd_1 wd_832 rfl (by decide) ⟨rfl, hy_X7_copy⟩ rfl, mo_cv⟩ (
  trivial))))))))))))))))
theorem rL_law_76 : am_allR (fun pc o => am_ok am_tb0 cL_law RL 4 (some .boolean) false pc o ∧ am_mo o) 1216 (am_nth [] tL_law 76) :=
  And.intro ⟨ok_nop, mo_nop⟩ (
  And.intro ⟨ok_nop, mo_nop⟩ (
  And.intro ⟨ok_aload_n dL_law_1218 rfl rfl, mo_aload⟩ (
  And.intro ⟨ok_aload_n dL_law_1219 rfl rfl, mo_aload⟩ (
  And.intro ⟨ok_iload_n dL_law_1220 rfl rfl, mo_iload⟩ (
  And.intro ⟨ok_iconst dL_law_1221 rfl ic_1, mo_push⟩ (
  And.intro ⟨ok_iadd dL_law_1222 rfl, mo_bin⟩ (
  And.intro ⟨ok_ialdF dL_law_1223 rfl, mo_iald⟩ (
  And.intro ⟨ok_aload_n dL_law_1224 rfl rfl, mo_aload⟩ (
  And.intro ⟨ok_iload_n dL_law_1225 rfl rfl, mo_iload⟩ (
  And.intro ⟨ok_iconst dL_law_1226 rfl ic_2, mo_push⟩ (
  And.intro ⟨ok_iadd dL_law_1227 rfl, mo_bin⟩ (
  And.intro ⟨ok_ialdF dL_law_1228 rfl, mo_iald⟩ (
  And.intro ⟨ok_aload_n dL_law_1229 rfl rfl, mo_aload⟩ (
  And.intro ⟨ok_iload_n dL_law_1230 rfl rfl, mo_iload⟩ (
  And.intro ⟨ok_iconst dL_law_1231 rfl ic_3, mo_push⟩ (
  trivial))))))))))))))))
theorem rL_law_77 : am_allR (fun pc o => am_ok am_tb0 cL_law RL 4 (some .boolean) false pc o ∧ am_mo o) 1232 (am_nth [] tL_law 77) :=
  And.intro ⟨ok_iadd dL_law_1232 rfl, mo_bin⟩ (
  And.intro ⟨ok_ialdF dL_law_1233 rfl, mo_iald⟩ (
  And.intro ⟨ok_aload_n dL_law_1234 rfl rfl, mo_aload⟩ (
  And.intro ⟨ok_iload_n dL_law_1235 rfl rfl, mo_iload⟩ (
  And.intro ⟨ok_iconst dL_law_1236 rfl ic_4, mo_push⟩ (
  And.intro ⟨ok_iadd dL_law_1237 rfl, mo_bin⟩ (
  And.intro ⟨ok_ialdF dL_law_1238 rfl, mo_iald⟩ (
  And.intro ⟨ok_aload_n dL_law_1239 rfl rfl, mo_aload⟩ (
  And.intro ⟨ok_iload_n dL_law_1240 rfl rfl, mo_iload⟩ (
  And.intro ⟨ok_iconst dL_law_1241 rfl ic_5, mo_push⟩ (
  And.intro ⟨ok_iadd dL_law_1242 rfl, mo_bin⟩ (
  And.intro ⟨ok_ialdF dL_law_1243 rfl, mo_iald⟩ (
  And.intro ⟨ok_cv (z := 195) dL_law_1244 hclX8 (by decide) wd_1329 wd_1330 wd_1331 wd_8 wd_1332 rfl (by decide) ⟨rfl, hy_X8_copy⟩ rfl, mo_cv⟩ (
  And.intro ⟨ok_nop, mo_nop⟩ (
  And.intro ⟨ok_nop, mo_nop⟩ (
  And.intro ⟨ok_icmp_eq dL_law_1247 (by decide) rfl, mo_icmp⟩ (
  trivial))))))))))))))))
theorem rL_law_78 : am_allR (fun pc o => am_ok am_tb0 cL_law RL 4 (some .boolean) false pc o ∧ am_mo o) 1248 (am_nth [] tL_law 78) :=
  And.intro ⟨ok_nop, mo_nop⟩ (
  And.intro ⟨ok_nop, mo_nop⟩ (
  And.intro ⟨ok_iconst dL_law_1250 rfl ic_0, mo_push⟩ (
  And.intro ⟨ok_nret dL_law_1251 rfl, mo_nret⟩ (
  And.intro ⟨ok_aload_n dL_law_1252 rfl rfl, mo_aload⟩ (
  And.intro ⟨ok_aload_n dL_law_1253 rfl rfl, mo_aload⟩ (
  And.intro ⟨ok_iload_n dL_law_1254 rfl rfl, mo_iload⟩ (
  And.intro ⟨ok_iconst dL_law_1255 rfl ic_1, mo_push⟩ (
  And.intro ⟨ok_iadd dL_law_1256 rfl, mo_bin⟩ (
  And.intro ⟨ok_ialdF dL_law_1257 rfl, mo_iald⟩ (
  And.intro ⟨ok_aload_n dL_law_1258 rfl rfl, mo_aload⟩ (
  And.intro ⟨ok_iload_n dL_law_1259 rfl rfl, mo_iload⟩ (
  And.intro ⟨ok_iconst dL_law_1260 rfl ic_2, mo_push⟩ (
  And.intro ⟨ok_iadd dL_law_1261 rfl, mo_bin⟩ (
  And.intro ⟨ok_ialdF dL_law_1262 rfl, mo_iald⟩ (
  And.intro ⟨ok_aload_n dL_law_1263 rfl rfl, mo_aload⟩ (
  trivial))))))))))))))))
theorem rL_law_79 : am_allR (fun pc o => am_ok am_tb0 cL_law RL 4 (some .boolean) false pc o ∧ am_mo o) 1264 (am_nth [] tL_law 79) :=
  And.intro ⟨ok_iload_n dL_law_1264 rfl rfl, mo_iload⟩ (
  And.intro ⟨ok_iconst dL_law_1265 rfl ic_3, mo_push⟩ (
  And.intro ⟨ok_iadd dL_law_1266 rfl, mo_bin⟩ (
  And.intro ⟨ok_ialdF dL_law_1267 rfl, mo_iald⟩ (
  And.intro ⟨ok_cv (z := 96) dL_law_1268 hclX7 (by decide) wd_838 wd_839 wd_840 wd_1 wd_841 rfl (by decide) ⟨rfl, hy_X7_lay⟩ rfl, mo_cv⟩ (
  And.intro ⟨ok_nop, mo_nop⟩ (
  And.intro ⟨ok_nop, mo_nop⟩ (
  And.intro ⟨ok_aload_n dL_law_1271 rfl rfl, mo_aload⟩ (
  And.intro ⟨ok_aload_n dL_law_1272 rfl rfl, mo_aload⟩ (
  And.intro ⟨ok_iload_n dL_law_1273 rfl rfl, mo_iload⟩ (
  And.intro ⟨ok_iconst dL_law_1274 rfl ic_1, mo_push⟩ (
  And.intro ⟨ok_iadd dL_law_1275 rfl, mo_bin⟩ (
  And.intro ⟨ok_ialdF dL_law_1276 rfl, mo_iald⟩ (
  And.intro ⟨ok_aload_n dL_law_1277 rfl rfl, mo_aload⟩ (
  And.intro ⟨ok_iload_n dL_law_1278 rfl rfl, mo_iload⟩ (
  And.intro ⟨ok_iconst dL_law_1279 rfl ic_2, mo_push⟩ (
  trivial))))))))))))))))
theorem rL_law_80 : am_allR (fun pc o => am_ok am_tb0 cL_law RL 4 (some .boolean) false pc o ∧ am_mo o) 1280 (am_nth [] tL_law 80) :=
  And.intro ⟨ok_iadd dL_law_1280 rfl, mo_bin⟩ (
  And.intro ⟨ok_ialdF dL_law_1281 rfl, mo_iald⟩ (
  And.intro ⟨ok_aload_n dL_law_1282 rfl rfl, mo_aload⟩ (
  And.intro ⟨ok_iload_n dL_law_1283 rfl rfl, mo_iload⟩ (
  And.intro ⟨ok_iconst dL_law_1284 rfl ic_3, mo_push⟩ (
  And.intro ⟨ok_iadd dL_law_1285 rfl, mo_bin⟩ (
  And.intro ⟨ok_ialdF dL_law_1286 rfl, mo_iald⟩ (
  And.intro ⟨ok_cv (z := 196) dL_law_1287 hclX8 (by decide) wd_1333 wd_1334 wd_1335 wd_8 wd_1336 rfl (by decide) ⟨rfl, hy_X8_lay⟩ rfl, mo_cv⟩ (
  And.intro ⟨ok_nop, mo_nop⟩ (
  And.intro ⟨ok_nop, mo_nop⟩ (
  And.intro ⟨ok_icmp_eq dL_law_1290 (by decide) rfl, mo_icmp⟩ (
  And.intro ⟨ok_nop, mo_nop⟩ (
  And.intro ⟨ok_nop, mo_nop⟩ (
  And.intro ⟨ok_iconst dL_law_1293 rfl ic_0, mo_push⟩ (
  And.intro ⟨ok_nret dL_law_1294 rfl, mo_nret⟩ (
  And.intro ⟨ok_aload_n dL_law_1295 rfl rfl, mo_aload⟩ (
  trivial))))))))))))))))
theorem rL_law_81 : am_allR (fun pc o => am_ok am_tb0 cL_law RL 4 (some .boolean) false pc o ∧ am_mo o) 1296 (am_nth [] tL_law 81) :=
  And.intro ⟨ok_aload_n dL_law_1296 rfl rfl, mo_aload⟩ (
  And.intro ⟨ok_iload_n dL_law_1297 rfl rfl, mo_iload⟩ (
  And.intro ⟨ok_iconst dL_law_1298 rfl ic_1, mo_push⟩ (
  And.intro ⟨ok_iadd dL_law_1299 rfl, mo_bin⟩ (
  And.intro ⟨ok_ialdF dL_law_1300 rfl, mo_iald⟩ (
  And.intro ⟨ok_aload_n dL_law_1301 rfl rfl, mo_aload⟩ (
  And.intro ⟨ok_iload_n dL_law_1302 rfl rfl, mo_iload⟩ (
  And.intro ⟨ok_iconst dL_law_1303 rfl ic_2, mo_push⟩ (
  And.intro ⟨ok_iadd dL_law_1304 rfl, mo_bin⟩ (
  And.intro ⟨ok_ialdF dL_law_1305 rfl, mo_iald⟩ (
  And.intro ⟨ok_cv (z := 97) dL_law_1306 hclX7 (by decide) wd_852 wd_853 wd_854 wd_1 wd_855 rfl (by decide) ⟨rfl, hy_X7_ask⟩ rfl, mo_cv⟩ (
  And.intro ⟨ok_nop, mo_nop⟩ (
  And.intro ⟨ok_nop, mo_nop⟩ (
  And.intro ⟨ok_aload_n dL_law_1309 rfl rfl, mo_aload⟩ (
  And.intro ⟨ok_aload_n dL_law_1310 rfl rfl, mo_aload⟩ (
  And.intro ⟨ok_iload_n dL_law_1311 rfl rfl, mo_iload⟩ (
  trivial))))))))))))))))
theorem rL_law_82 : am_allR (fun pc o => am_ok am_tb0 cL_law RL 4 (some .boolean) false pc o ∧ am_mo o) 1312 (am_nth [] tL_law 82) :=
  And.intro ⟨ok_iconst dL_law_1312 rfl ic_1, mo_push⟩ (
  And.intro ⟨ok_iadd dL_law_1313 rfl, mo_bin⟩ (
  And.intro ⟨ok_ialdF dL_law_1314 rfl, mo_iald⟩ (
  And.intro ⟨ok_aload_n dL_law_1315 rfl rfl, mo_aload⟩ (
  And.intro ⟨ok_iload_n dL_law_1316 rfl rfl, mo_iload⟩ (
  And.intro ⟨ok_iconst dL_law_1317 rfl ic_2, mo_push⟩ (
  And.intro ⟨ok_iadd dL_law_1318 rfl, mo_bin⟩ (
  And.intro ⟨ok_ialdF dL_law_1319 rfl, mo_iald⟩ (
  And.intro ⟨ok_cv (z := 197) dL_law_1320 hclX8 (by decide) wd_1340 wd_1341 wd_1342 wd_8 wd_1343 rfl (by decide) ⟨rfl, hy_X8_ask⟩ rfl, mo_cv⟩ (
  And.intro ⟨ok_nop, mo_nop⟩ (
  And.intro ⟨ok_nop, mo_nop⟩ (
  And.intro ⟨ok_icmp_eq dL_law_1323 (by decide) rfl, mo_icmp⟩ (
  And.intro ⟨ok_nop, mo_nop⟩ (
  And.intro ⟨ok_nop, mo_nop⟩ (
  And.intro ⟨ok_iconst dL_law_1326 rfl ic_0, mo_push⟩ (
  And.intro ⟨ok_nret dL_law_1327 rfl, mo_nret⟩ (
  trivial))))))))))))))))
theorem rL_law_83 : am_allR (fun pc o => am_ok am_tb0 cL_law RL 4 (some .boolean) false pc o ∧ am_mo o) 1328 (am_nth [] tL_law 83) :=
  And.intro ⟨ok_aload_n dL_law_1328 rfl rfl, mo_aload⟩ (
  And.intro ⟨ok_aload_n dL_law_1329 rfl rfl, mo_aload⟩ (
  And.intro ⟨ok_iload_n dL_law_1330 rfl rfl, mo_iload⟩ (
  And.intro ⟨ok_iconst dL_law_1331 rfl ic_1, mo_push⟩ (
  And.intro ⟨ok_iadd dL_law_1332 rfl, mo_bin⟩ (
  And.intro ⟨ok_ialdF dL_law_1333 rfl, mo_iald⟩ (
  And.intro ⟨ok_aload_n dL_law_1334 rfl rfl, mo_aload⟩ (
  And.intro ⟨ok_iload_n dL_law_1335 rfl rfl, mo_iload⟩ (
  And.intro ⟨ok_iconst dL_law_1336 rfl ic_2, mo_push⟩ (
  And.intro ⟨ok_iadd dL_law_1337 rfl, mo_bin⟩ (
  And.intro ⟨ok_ialdF dL_law_1338 rfl, mo_iald⟩ (
  And.intro ⟨ok_cv (z := 98) dL_law_1339 hclX7 (by decide) wd_857 wd_858 wd_859 wd_1 wd_860 rfl (by decide) ⟨rfl, hy_X7_item⟩ rfl, mo_cv⟩ (
  And.intro ⟨ok_nop, mo_nop⟩ (
  And.intro ⟨ok_nop, mo_nop⟩ (
  And.intro ⟨ok_aload_n dL_law_1342 rfl rfl, mo_aload⟩ (
  And.intro ⟨ok_aload_n dL_law_1343 rfl rfl, mo_aload⟩ (
  trivial))))))))))))))))
theorem rL_law_84 : am_allR (fun pc o => am_ok am_tb0 cL_law RL 4 (some .boolean) false pc o ∧ am_mo o) 1344 (am_nth [] tL_law 84) :=
  And.intro ⟨ok_iload_n dL_law_1344 rfl rfl, mo_iload⟩ (
  And.intro ⟨ok_iconst dL_law_1345 rfl ic_1, mo_push⟩ (
  And.intro ⟨ok_iadd dL_law_1346 rfl, mo_bin⟩ (
  And.intro ⟨ok_ialdF dL_law_1347 rfl, mo_iald⟩ (
  And.intro ⟨ok_aload_n dL_law_1348 rfl rfl, mo_aload⟩ (
  And.intro ⟨ok_iload_n dL_law_1349 rfl rfl, mo_iload⟩ (
  And.intro ⟨ok_iconst dL_law_1350 rfl ic_2, mo_push⟩ (
  And.intro ⟨ok_iadd dL_law_1351 rfl, mo_bin⟩ (
  And.intro ⟨ok_ialdF dL_law_1352 rfl, mo_iald⟩ (
  And.intro ⟨ok_cv (z := 198) dL_law_1353 hclX8 (by decide) wd_1344 wd_1345 wd_1346 wd_8 wd_1347 rfl (by decide) ⟨rfl, hy_X8_item⟩ rfl, mo_cv⟩ (
  And.intro ⟨ok_nop, mo_nop⟩ (
  And.intro ⟨ok_nop, mo_nop⟩ (
  And.intro ⟨ok_icmp_eq dL_law_1356 (by decide) rfl, mo_icmp⟩ (
  And.intro ⟨ok_nop, mo_nop⟩ (
  And.intro ⟨ok_nop, mo_nop⟩ (
  And.intro ⟨ok_iconst dL_law_1359 rfl ic_0, mo_push⟩ (
  trivial))))))))))))))))
theorem rL_law_85 : am_allR (fun pc o => am_ok am_tb0 cL_law RL 4 (some .boolean) false pc o ∧ am_mo o) 1360 (am_nth [] tL_law 85) :=
  And.intro ⟨ok_nret dL_law_1360 rfl, mo_nret⟩ (
  And.intro ⟨ok_aload_n dL_law_1361 rfl rfl, mo_aload⟩ (
  And.intro ⟨ok_aload_n dL_law_1362 rfl rfl, mo_aload⟩ (
  And.intro ⟨ok_iload_n dL_law_1363 rfl rfl, mo_iload⟩ (
  And.intro ⟨ok_iconst dL_law_1364 rfl ic_1, mo_push⟩ (
  And.intro ⟨ok_iadd dL_law_1365 rfl, mo_bin⟩ (
  And.intro ⟨ok_ialdF dL_law_1366 rfl, mo_iald⟩ (
  And.intro ⟨ok_aload_n dL_law_1367 rfl rfl, mo_aload⟩ (
  And.intro ⟨ok_iload_n dL_law_1368 rfl rfl, mo_iload⟩ (
  And.intro ⟨ok_iconst dL_law_1369 rfl ic_2, mo_push⟩ (
  And.intro ⟨ok_iadd dL_law_1370 rfl, mo_bin⟩ (
  And.intro ⟨ok_ialdF dL_law_1371 rfl, mo_iald⟩ (
  And.intro ⟨ok_cv (z := 99) dL_law_1372 hclX7 (by decide) wd_861 wd_862 wd_863 wd_1 wd_864 rfl (by decide) ⟨rfl, hy_X7_rest⟩ rfl, mo_cv⟩ (
  And.intro ⟨ok_nop, mo_nop⟩ (
  And.intro ⟨ok_nop, mo_nop⟩ (
  And.intro ⟨ok_aload_n dL_law_1375 rfl rfl, mo_aload⟩ (
  trivial))))))))))))))))
theorem rL_law_86 : am_allR (fun pc o => am_ok am_tb0 cL_law RL 4 (some .boolean) false pc o ∧ am_mo o) 1376 (am_nth [] tL_law 86) :=
  And.intro ⟨ok_aload_n dL_law_1376 rfl rfl, mo_aload⟩ (
  And.intro ⟨ok_iload_n dL_law_1377 rfl rfl, mo_iload⟩ (
  And.intro ⟨ok_iconst dL_law_1378 rfl ic_1, mo_push⟩ (
  And.intro ⟨ok_iadd dL_law_1379 rfl, mo_bin⟩ (
  And.intro ⟨ok_ialdF dL_law_1380 rfl, mo_iald⟩ (
  And.intro ⟨ok_aload_n dL_law_1381 rfl rfl, mo_aload⟩ (
  And.intro ⟨ok_iload_n dL_law_1382 rfl rfl, mo_iload⟩ (
  And.intro ⟨ok_iconst dL_law_1383 rfl ic_2, mo_push⟩ (
  And.intro ⟨ok_iadd dL_law_1384 rfl, mo_bin⟩ (
  And.intro ⟨ok_ialdF dL_law_1385 rfl, mo_iald⟩ (
  And.intro ⟨ok_cv (z := 199) dL_law_1386 hclX8 (by decide) wd_1348 wd_1349 wd_1350 wd_8 wd_1351 rfl (by decide) ⟨rfl, hy_X8_rest⟩ rfl, mo_cv⟩ (
  And.intro ⟨ok_nop, mo_nop⟩ (
  And.intro ⟨ok_nop, mo_nop⟩ (
  And.intro ⟨ok_icmp_eq dL_law_1389 (by decide) rfl, mo_icmp⟩ (
  And.intro ⟨ok_nop, mo_nop⟩ (
  And.intro ⟨ok_nop, mo_nop⟩ (
  trivial))))))))))))))))
theorem rL_law_87 : am_allR (fun pc o => am_ok am_tb0 cL_law RL 4 (some .boolean) false pc o ∧ am_mo o) 1392 (am_nth [] tL_law 87) :=
  And.intro ⟨ok_iconst dL_law_1392 rfl ic_0, mo_push⟩ (
  And.intro ⟨ok_nret dL_law_1393 rfl, mo_nret⟩ (
  And.intro ⟨ok_aload_n dL_law_1394 rfl rfl, mo_aload⟩ (
  And.intro ⟨ok_aload_n dL_law_1395 rfl rfl, mo_aload⟩ (
  And.intro ⟨ok_iload_n dL_law_1396 rfl rfl, mo_iload⟩ (
  And.intro ⟨ok_iconst dL_law_1397 rfl ic_1, mo_push⟩ (
  And.intro ⟨ok_iadd dL_law_1398 rfl, mo_bin⟩ (
  And.intro ⟨ok_ialdF dL_law_1399 rfl, mo_iald⟩ (
  And.intro ⟨ok_cv (z := 100) dL_law_1400 hclX7 (by decide) wd_865 wd_866 wd_867 wd_1 wd_868 rfl (by decide) ⟨rfl, hy_X7_tell⟩ rfl, mo_cv⟩ (
  And.intro ⟨ok_nop, mo_nop⟩ (
  And.intro ⟨ok_nop, mo_nop⟩ (
  And.intro ⟨ok_aload_n dL_law_1403 rfl rfl, mo_aload⟩ (
  And.intro ⟨ok_aload_n dL_law_1404 rfl rfl, mo_aload⟩ (
  And.intro ⟨ok_iload_n dL_law_1405 rfl rfl, mo_iload⟩ (
  And.intro ⟨ok_iconst dL_law_1406 rfl ic_1, mo_push⟩ (
  And.intro ⟨ok_iadd dL_law_1407 rfl, mo_bin⟩ (
  trivial))))))))))))))))
theorem rL_law_88 : am_allR (fun pc o => am_ok am_tb0 cL_law RL 4 (some .boolean) false pc o ∧ am_mo o) 1408 (am_nth [] tL_law 88) :=
  And.intro ⟨ok_ialdF dL_law_1408 rfl, mo_iald⟩ (
  And.intro ⟨ok_cv (z := 200) dL_law_1409 hclX8 (by decide) wd_1352 wd_1353 wd_1354 wd_8 wd_1355 rfl (by decide) ⟨rfl, hy_X8_tell⟩ rfl, mo_cv⟩ (
  And.intro ⟨ok_nop, mo_nop⟩ (
  And.intro ⟨ok_nop, mo_nop⟩ (
  And.intro ⟨ok_icmp_eq dL_law_1412 (by decide) rfl, mo_icmp⟩ (
  And.intro ⟨ok_nop, mo_nop⟩ (
  And.intro ⟨ok_nop, mo_nop⟩ (
  And.intro ⟨ok_iconst dL_law_1415 rfl ic_0, mo_push⟩ (
  And.intro ⟨ok_nret dL_law_1416 rfl, mo_nret⟩ (
  And.intro ⟨ok_aload_n dL_law_1417 rfl rfl, mo_aload⟩ (
  And.intro ⟨ok_aload_n dL_law_1418 rfl rfl, mo_aload⟩ (
  And.intro ⟨ok_iload_n dL_law_1419 rfl rfl, mo_iload⟩ (
  And.intro ⟨ok_iconst dL_law_1420 rfl ic_1, mo_push⟩ (
  And.intro ⟨ok_iadd dL_law_1421 rfl, mo_bin⟩ (
  And.intro ⟨ok_ialdF dL_law_1422 rfl, mo_iald⟩ (
  And.intro ⟨ok_cv (z := 101) dL_law_1423 hclX7 (by decide) wd_869 wd_870 wd_871 wd_1 wd_872 rfl (by decide) ⟨rfl, hy_X7_check⟩ rfl, mo_cv⟩ (
  trivial))))))))))))))))
theorem rL_law_89 : am_allR (fun pc o => am_ok am_tb0 cL_law RL 4 (some .boolean) false pc o ∧ am_mo o) 1424 (am_nth [] tL_law 89) :=
  And.intro ⟨ok_nop, mo_nop⟩ (
  And.intro ⟨ok_nop, mo_nop⟩ (
  And.intro ⟨ok_aload_n dL_law_1426 rfl rfl, mo_aload⟩ (
  And.intro ⟨ok_aload_n dL_law_1427 rfl rfl, mo_aload⟩ (
  And.intro ⟨ok_iload_n dL_law_1428 rfl rfl, mo_iload⟩ (
  And.intro ⟨ok_iconst dL_law_1429 rfl ic_1, mo_push⟩ (
  And.intro ⟨ok_iadd dL_law_1430 rfl, mo_bin⟩ (
  And.intro ⟨ok_ialdF dL_law_1431 rfl, mo_iald⟩ (
  And.intro ⟨ok_cv (z := 201) dL_law_1432 hclX8 (by decide) wd_1356 wd_1357 wd_1358 wd_8 wd_1359 rfl (by decide) ⟨rfl, hy_X8_check⟩ rfl, mo_cv⟩ (
  And.intro ⟨ok_nop, mo_nop⟩ (
  And.intro ⟨ok_nop, mo_nop⟩ (
  And.intro ⟨ok_icmp_eq dL_law_1435 (by decide) rfl, mo_icmp⟩ (
  And.intro ⟨ok_nop, mo_nop⟩ (
  And.intro ⟨ok_nop, mo_nop⟩ (
  And.intro ⟨ok_iconst dL_law_1438 rfl ic_0, mo_push⟩ (
  And.intro ⟨ok_nret dL_law_1439 rfl, mo_nret⟩ (
  trivial))))))))))))))))
theorem rL_law_90 : am_allR (fun pc o => am_ok am_tb0 cL_law RL 4 (some .boolean) false pc o ∧ am_mo o) 1440 (am_nth [] tL_law 90) :=
  And.intro ⟨ok_aload_n dL_law_1440 rfl rfl, mo_aload⟩ (
  And.intro ⟨ok_cv (z := 102) dL_law_1441 hclX7 (by decide) wd_873 wd_874 wd_875 wd_1 wd_876 rfl (by decide) ⟨rfl, hy_X7_keep⟩ rfl, mo_cv⟩ (
  And.intro ⟨ok_nop, mo_nop⟩ (
  And.intro ⟨ok_nop, mo_nop⟩ (
  And.intro ⟨ok_aload_n dL_law_1444 rfl rfl, mo_aload⟩ (
  And.intro ⟨ok_cv (z := 202) dL_law_1445 hclX8 (by decide) wd_1363 wd_1364 wd_1365 wd_8 wd_1366 rfl (by decide) ⟨rfl, hy_X8_keep⟩ rfl, mo_cv⟩ (
  And.intro ⟨ok_nop, mo_nop⟩ (
  And.intro ⟨ok_nop, mo_nop⟩ (
  And.intro ⟨ok_icmp_eq dL_law_1448 (by decide) rfl, mo_icmp⟩ (
  And.intro ⟨ok_nop, mo_nop⟩ (
  And.intro ⟨ok_nop, mo_nop⟩ (
  And.intro ⟨ok_iconst dL_law_1451 rfl ic_0, mo_push⟩ (
  And.intro ⟨ok_nret dL_law_1452 rfl, mo_nret⟩ (
  And.intro ⟨ok_aload_n dL_law_1453 rfl rfl, mo_aload⟩ (
  And.intro ⟨ok_cv (z := 103) dL_law_1454 hclX7 (by decide) wd_877 wd_878 wd_879 wd_1 wd_880 rfl (by decide) ⟨rfl, hy_X7_back⟩ rfl, mo_cv⟩ (
  And.intro ⟨ok_nop, mo_nop⟩ (
  trivial))))))))))))))))
theorem rL_law_91 : am_allR (fun pc o => am_ok am_tb0 cL_law RL 4 (some .boolean) false pc o ∧ am_mo o) 1456 (am_nth [] tL_law 91) :=
  And.intro ⟨ok_nop, mo_nop⟩ (
  And.intro ⟨ok_aload_n dL_law_1457 rfl rfl, mo_aload⟩ (
  And.intro ⟨ok_cv (z := 203) dL_law_1458 hclX8 (by decide) wd_1367 wd_1368 wd_1369 wd_8 wd_1370 rfl (by decide) ⟨rfl, hy_X8_back⟩ rfl, mo_cv⟩ (
  And.intro ⟨ok_nop, mo_nop⟩ (
  And.intro ⟨ok_nop, mo_nop⟩ (
  And.intro ⟨ok_icmp_eq dL_law_1461 (by decide) rfl, mo_icmp⟩ (
  And.intro ⟨ok_nop, mo_nop⟩ (
  And.intro ⟨ok_nop, mo_nop⟩ (
  And.intro ⟨ok_iconst dL_law_1464 rfl ic_0, mo_push⟩ (
  And.intro ⟨ok_nret dL_law_1465 rfl, mo_nret⟩ (
  And.intro ⟨ok_aload_n dL_law_1466 rfl rfl, mo_aload⟩ (
  And.intro ⟨ok_aload_n dL_law_1467 rfl rfl, mo_aload⟩ (
  And.intro ⟨ok_iload_n dL_law_1468 rfl rfl, mo_iload⟩ (
  And.intro ⟨ok_iconst dL_law_1469 rfl ic_1, mo_push⟩ (
  And.intro ⟨ok_iadd dL_law_1470 rfl, mo_bin⟩ (
  And.intro ⟨ok_ialdF dL_law_1471 rfl, mo_iald⟩ (
  trivial))))))))))))))))
theorem rL_law_92 : am_allR (fun pc o => am_ok am_tb0 cL_law RL 4 (some .boolean) false pc o ∧ am_mo o) 1472 (am_nth [] tL_law 92) :=
  And.intro ⟨ok_cv (z := 104) dL_law_1472 hclX7 (by decide) wd_881 wd_882 wd_883 wd_1 wd_884 rfl (by decide) ⟨rfl, hy_X7_count⟩ rfl, mo_cv⟩ (
  And.intro ⟨ok_nop, mo_nop⟩ (
  And.intro ⟨ok_nop, mo_nop⟩ (
  And.intro ⟨ok_aload_n dL_law_1475 rfl rfl, mo_aload⟩ (
  And.intro ⟨ok_aload_n dL_law_1476 rfl rfl, mo_aload⟩ (
  And.intro ⟨ok_iload_n dL_law_1477 rfl rfl, mo_iload⟩ (
  And.intro ⟨ok_iconst dL_law_1478 rfl ic_1, mo_push⟩ (
  And.intro ⟨ok_iadd dL_law_1479 rfl, mo_bin⟩ (
  And.intro ⟨ok_ialdF dL_law_1480 rfl, mo_iald⟩ (
  And.intro ⟨ok_cv (z := 204) dL_law_1481 hclX8 (by decide) wd_1371 wd_1372 wd_1373 wd_8 wd_1374 rfl (by decide) ⟨rfl, hy_X8_count⟩ rfl, mo_cv⟩ (
  And.intro ⟨ok_nop, mo_nop⟩ (
  And.intro ⟨ok_nop, mo_nop⟩ (
  And.intro ⟨ok_icmp_eq dL_law_1484 (by decide) rfl, mo_icmp⟩ (
  And.intro ⟨ok_nop, mo_nop⟩ (
  And.intro ⟨ok_nop, mo_nop⟩ (
  And.intro ⟨ok_iconst dL_law_1487 rfl ic_0, mo_push⟩ (
  trivial))))))))))))))))
theorem rL_law_93 : am_allR (fun pc o => am_ok am_tb0 cL_law RL 4 (some .boolean) false pc o ∧ am_mo o) 1488 (am_nth [] tL_law 93) :=
  And.intro ⟨ok_nret dL_law_1488 rfl, mo_nret⟩ (
  And.intro ⟨ok_iinc dL_law_1489 ic_6 (by decide) rfl, mo_iinc⟩ (
  And.intro ⟨ok_nop, mo_nop⟩ (
  And.intro ⟨ok_nop, mo_nop⟩ (
  And.intro ⟨ok_goto dL_law_1492 (by decide), mo_goto⟩ (
  And.intro ⟨ok_nop, mo_nop⟩ (
  And.intro ⟨ok_nop, mo_nop⟩ (
  And.intro ⟨ok_iconst dL_law_1495 rfl ic_1, mo_push⟩ (
  And.intro ⟨ok_nret dL_law_1496 rfl, mo_nret⟩ (
  And.intro ⟨ok_nop, mo_nop⟩ (
  And.intro ⟨ok_nop, mo_nop⟩ (
  And.intro ⟨ok_nop, mo_nop⟩ (
  And.intro ⟨ok_nop, mo_nop⟩ (
  And.intro ⟨ok_nop, mo_nop⟩ (
  And.intro ⟨ok_nop, mo_nop⟩ (
  And.intro ⟨ok_nop, mo_nop⟩ (
  trivial))))))))))))))))
theorem kL_law : am_M1 am_tb0 cL_law RL 4 (some .boolean) false tL_law := And.intro rL_law_0 (And.intro rL_law_1 (And.intro rL_law_2 (And.intro rL_law_3 (And.intro rL_law_4 (And.intro rL_law_5 (And.intro rL_law_6 (And.intro rL_law_7 (And.intro rL_law_8 (And.intro rL_law_9 (And.intro rL_law_10 (And.intro rL_law_11 (And.intro rL_law_12 (And.intro rL_law_13 (And.intro rL_law_14 (And.intro rL_law_15 (And.intro rL_law_16 (And.intro rL_law_17 (And.intro rL_law_18 (And.intro rL_law_19 (And.intro rL_law_20 (And.intro rL_law_21 (And.intro rL_law_22 (And.intro rL_law_23 (And.intro rL_law_24 (And.intro rL_law_25 (And.intro rL_law_26 (And.intro rL_law_27 (And.intro rL_law_28 (And.intro rL_law_29 (And.intro rL_law_30 (And.intro rL_law_31 (And.intro rL_law_32 (And.intro rL_law_33 (And.intro rL_law_34 (And.intro rL_law_35 (And.intro rL_law_36 (And.intro rL_law_37 (And.intro rL_law_38 (And.intro rL_law_39 (And.intro rL_law_40 (And.intro rL_law_41 (And.intro rL_law_42 (And.intro rL_law_43 (And.intro rL_law_44 (And.intro rL_law_45 (And.intro rL_law_46 (And.intro rL_law_47 (And.intro rL_law_48 (And.intro rL_law_49 (And.intro rL_law_50 (And.intro rL_law_51 (And.intro rL_law_52 (And.intro rL_law_53 (And.intro rL_law_54 (And.intro rL_law_55 (And.intro rL_law_56 (And.intro rL_law_57 (And.intro rL_law_58 (And.intro rL_law_59 (And.intro rL_law_60 (And.intro rL_law_61 (And.intro rL_law_62 (And.intro rL_law_63 (And.intro rL_law_64 (And.intro rL_law_65 (And.intro rL_law_66 (And.intro rL_law_67 (And.intro rL_law_68 (And.intro rL_law_69 (And.intro rL_law_70 (And.intro rL_law_71 (And.intro rL_law_72 (And.intro rL_law_73 (And.intro rL_law_74 (And.intro rL_law_75 (And.intro rL_law_76 (And.intro rL_law_77 (And.intro rL_law_78 (And.intro rL_law_79 (And.intro rL_law_80 (And.intro rL_law_81 (And.intro rL_law_82 (And.intro rL_law_83 (And.intro rL_law_84 (And.intro rL_law_85 (And.intro rL_law_86 (And.intro rL_law_87 (And.intro rL_law_88 (And.intro rL_law_89 (And.intro rL_law_90 (And.intro rL_law_91 (And.intro rL_law_92 (And.intro rL_law_93 (trivial))))))))))))))))))))))))))))))))))))))))))))))))))))))))))))))))))))))))))))))))))))))))))))))
def am_ct : List (List (List (List am_Op))) := [[tX0_init, tX0_solve, tX0_price, tX0_offer, tX0_miles, tX0_holeOf, tX1_init, tX1_start, tX1_become, tX1_part, tX1_change, tX1_isOf, tX1_worth, tX2_init, tX2_become, tX2_find],
  [tX2_open, tX2_openByLot, tX2_draw, tX2_roomAfter, tX2_earthOf, tX2_canFill, tX2_isOldEnough, tX2_sinks, tX2_sinksPlain, tX2_passDay, tX2_filledCount, tX2_depthSum, tX2_debtOf, tX2_fineOf, tX2_findText, tX2_textFor],
  [tX2_addText, tX3_init, tX3_clear, tX3_become, tX3_has, tX3_hasAll, tX3_isNumber, tX4_init, tX5_init, tX5_putBytes, tX5_read, tX5_step, tX5_sortOf, tX5_keyHere, tX5_isHere, tX5_joinedBy],
  [tX5_partOf, tX5_joins, tX5_piece, tX5_number, tX5_name, tX5_namesOf, tX5_not, tX5_brackets, tX5_put, tX6_init, tX6_value, tX6_plain, tX6_joined, tX7_init, tX7_hole, tX7_told],
  [tX7_as, tX7_turns, tX7_set, tX7_settles, tX7_rule, tX7_deal, tX7_seed, tX7_takes, tX7_dig, tX7_want, tX7_forget, tX7_dealing, tX7_adds, tX7_frees, tX7_days, tX7_behind],
  [tX7_paid, tX7_best, tX7_owes, tX7_debtor, tX7_dug, tX7_fine, tX7_feed, tX7_trim, tX7_text, tX7_textTold, tX7_why, tX7_sheet, tX7_mark, tX7_pour, tX7_reads, tX7_copy],
  [tX7_lay, tX7_ask, tX7_item, tX7_rest, tX7_tell, tX7_check, tX7_keep, tX7_back, tX7_count, tX7_within, tX7_isSpades, tX7_held, tX7_mostOf, tX7_addDifferences, tX7_sheetAt, tX7_slotAt],
  [tX8_init, tX8_in, tX8_within, tX8_copyAll, tX8_told0, tX8_isHole, tX8_isPlace, tX8_isOwner, tX8_isDug, tX8_of, tX8_put, tX8_becomes, tX8_lays, tX8_comes, tX8_hole, tX8_worthOf],
  [tX8_told, tX8_isUnder, tX8_as, tX8_turns, tX8_set, tX8_settlesBy, tX8_settles, tX8_rule, tX8_draw, tX8_deal, tX8_seed, tX8_earthOf, tX8_apart, tX8_lawOf, tX8_doesTake, tX8_takes],
  [tX8_dig, tX8_want, tX8_forget, tX8_doesMeet, tX8_findsHole, tX8_metBut, tX8_scoreOf, tX8_findDealing, tX8_dealing, tX8_adds, tX8_frees, tX8_filled, tX8_depthAll, tX8_day, tX8_goesOn, tX8_days],
  [tX8_thinks, tX8_putsBack, tX8_behind, tX8_paid, tX8_best, tX8_owedBy, tX8_owes, tX8_debtor, tX8_dug, tX8_fine, tX8_feed, tX8_trim, tX8_isLetter, tX8_isFigure, tX8_go, tX8_takesKey],
  [tX8_nameOf, tX8_rank, tX8_settle, tX8_signHere, tX8_takesPart, tX8_takesE, tX8_notsOpen, tX8_text, tX8_textTold, tX8_counts, tX8_why, tX8_two, tX8_worksOut, tX8_isSheet, tX8_isSlot, tX8_sheet],
  [tX8_mark, tX8_pour, tX8_reads, tX8_copy, tX8_lay, tX8_ask, tX8_item, tX8_rest, tX8_tell, tX8_check, tX8_keep, tX8_back, tX8_count, tJ0_length_8abf5, tJ0_charAt_5068e, tJ0_indexOf_0f7a4],
  [tJ0_indexOf_7cf53, tJ0_coder_7d493, tJ0_isLatin1_aae02, tJ0_checkIndex_df160, tJ1_charAt_3b067, tJ1_canEncode_9a6ad, tJ1_indexOf_4cfef, tJ1_indexOfChar_4cfef, tJ7_fill_d0a16, tJ7_fill_53178, tJ7_copyOf_59c91, tJ3_checkIndex_8e157, tL_law]]
def am_C (z pc : Nat) : am_Op := am_ix2 am_nop (am_ix2 [] am_ct z) pc
end AM14E
