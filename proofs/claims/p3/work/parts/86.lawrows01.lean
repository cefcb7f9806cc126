set_option maxRecDepth 20000 in
theorem gk_X12_town_4 : GoodIn wsR wsX12_town_r3 := goodIn_r _ [503, 504, 505, 506, 507, 508, 509, 510, 511, 512, 513, 514, 515, 516, 517, 518, 519, 520, 521, 522, 523, 524, 525, 526] (by decide +kernel) (by decide +kernel)
set_option maxRecDepth 20000 in
theorem gk_X12_town_5 : GoodIn wsR wsX12_town_r4 := goodIn_r _ [527, 528, 529, 530, 531, 532, 533, 534, 535, 536, 537, 538, 539, 540, 541, 542, 543, 544, 545, 546, 547, 548, 549, 550] (by decide +kernel) (by decide +kernel)
set_option maxRecDepth 20000 in
theorem gk_X12_town_6 : GoodIn wsR wsX12_town_r5 := goodIn_r _ [551, 552, 553, 554, 555, 162, 161, 556, 557, 558, 559, 560, 561, 562, 563, 564, 565, 566, 567, 568, 166, 569, 570, 571] (by decide +kernel) (by decide +kernel)
set_option maxRecDepth 20000 in
theorem gk_X12_town_7 : GoodIn wsR wsX12_town_r6 := goodIn_r _ [572, 573, 574, 575, 576, 577, 578, 579, 580, 581, 582, 583, 584, 585, 586, 587, 588, 589, 590, 591, 592, 593, 594, 595] (by decide +kernel) (by decide +kernel)
set_option maxRecDepth 20000 in
theorem gk_X12_town_8 : GoodIn wsR wsX12_town_r7 := goodIn_r _ [596, 597, 598, 599, 600, 601, 602, 159, 603, 604, 605, 606, 607, 608, 609, 610, 611, 612, 613, 614, 615, 616, 617, 618] (by decide +kernel) (by decide +kernel)
set_option maxRecDepth 20000 in
theorem gk_X12_town_9 : GoodIn wsR wsX12_town_r8 := goodIn_r _ [619, 620, 621, 622, 623, 624, 625, 626, 627, 628, 629, 630, 631] (by decide +kernel) (by decide +kernel)
theorem ggL_law_X12_town : GoodIn wsR wsX12_town := goodIn_app gk_X12_town_1 (goodIn_app (goodIn_app (gk_X12_town_2) (goodIn_app (gk_X12_town_3) (goodIn_app (gk_X12_town_4) (goodIn_app (gk_X12_town_5) (goodIn_app (gk_X12_town_6) (goodIn_app (gk_X12_town_7) (goodIn_app (gk_X12_town_8) (gk_X12_town_9)))))))) (gc_X120))
theorem gL_law_X12_town : GoodIn wsR (wsV RL 27 RX12 yX12_town wsX12_town) := goodIn_app (goodIn_r _ [459, 460, 461, 5] (by decide +kernel) (by decide +kernel)) ggL_law_X12_town
set_option maxRecDepth 20000 in
theorem gk_X11_rule_1 : GoodIn wsR [Cond.code yX11_rule cX11_rule 2 (some .int)] := goodIn_r _ [635] (by decide +kernel) (by decide +kernel)
set_option maxRecDepth 20000 in
theorem gk_X11_rule_2 : GoodIn wsR wsX11_rule_r1 := goodIn_r _ [636, 27, 21, 15, 216, 185, 637, 638, 639, 26, 640, 641, 642, 84, 643, 644, 645, 646, 23, 647, 648, 649, 650, 651] (by decide +kernel) (by decide +kernel)
set_option maxRecDepth 20000 in
theorem gk_X11_rule_3 : GoodIn wsR wsX11_rule_r2 := goodIn_r _ [229, 230, 14, 231, 232, 233, 234, 652, 236, 237, 238, 60, 239, 240, 241, 242, 190, 243, 244, 245, 246, 247, 248, 249] (by decide +kernel) (by decide +kernel)
set_option maxRecDepth 20000 in
theorem gk_X11_rule_4 : GoodIn wsR wsX11_rule_r3 := goodIn_r _ [250, 251, 252, 253, 254, 255, 256, 257, 258, 259, 260, 261, 262, 263, 264, 265, 266, 267, 268, 269, 270, 271, 272, 273] (by decide +kernel) (by decide +kernel)
set_option maxRecDepth 20000 in
theorem gk_X11_rule_5 : GoodIn wsR wsX11_rule_r4 := goodIn_r _ [274, 275, 276, 277, 278, 279, 280, 281, 282, 283, 284, 285, 286, 287, 288, 289, 290, 291, 292, 293, 294, 295, 296, 297] (by decide +kernel) (by decide +kernel)
set_option maxRecDepth 20000 in
theorem gk_X11_rule_6 : GoodIn wsR wsX11_rule_r5 := goodIn_r _ [298, 299, 653, 654, 655, 656, 657, 658, 659, 660, 661, 77, 78, 662, 663, 310, 311, 312, 664, 665, 666, 667, 668, 669] (by decide +kernel) (by decide +kernel)
set_option maxRecDepth 20000 in
theorem gk_X11_rule_7 : GoodIn wsR wsX11_rule_r6 := goodIn_r _ [670, 671, 672, 673, 674, 675, 676, 677, 678, 79, 679, 680, 681, 682, 683, 684, 424, 425, 426, 427, 404, 405, 406, 685] (by decide +kernel) (by decide +kernel)
set_option maxRecDepth 20000 in
theorem gk_X11_rule_8 : GoodIn wsR wsX11_rule_r7 := goodIn_r _ [686, 687, 688, 689, 690, 691, 692, 693, 694, 695, 319, 320, 696, 314, 315, 316, 317, 318, 697, 698, 699, 700, 701, 702] (by decide +kernel) (by decide +kernel)
set_option maxRecDepth 20000 in
theorem gk_X11_rule_9 : GoodIn wsR wsX11_rule_r8 := goodIn_r _ [703, 704, 705, 706, 707, 708, 709, 710, 400, 401, 402, 711, 335, 336, 337, 712, 420, 421, 422, 423, 428, 429] (by decide +kernel) (by decide +kernel)
theorem ggL_law_X11_rule : GoodIn wsR wsX11_rule := goodIn_app gk_X11_rule_1 (goodIn_app (goodIn_app (goodIn_app (goodIn_app (goodIn_app (gk_X11_rule_2) (goodIn_app (gk_X11_rule_3) (goodIn_app (gk_X11_rule_4) (goodIn_app (gk_X11_rule_5) (goodIn_app (gk_X11_rule_6) (goodIn_app (gk_X11_rule_7) (goodIn_app (gk_X11_rule_8) (gk_X11_rule_9)))))))) (gc_X110)) (gc_X60)) (gc_X30)) (gc_X20))
theorem gL_law_X11_rule : GoodIn wsR (wsV RL 28 RX11 yX11_rule wsX11_rule) := goodIn_app (goodIn_r _ [632, 633, 634, 2] (by decide +kernel) (by decide +kernel)) ggL_law_X11_rule
set_option maxRecDepth 20000 in
theorem gk_X12_rule_1 : GoodIn wsR [Cond.code yX12_rule cX12_rule 1 (some .int)] := goodIn_r _ [716] (by decide +kernel) (by decide +kernel)
set_option maxRecDepth 20000 in
theorem gk_X12_rule_2 : GoodIn wsR wsX12_rule_r1 := goodIn_r _ [717, 463, 162, 468, 469, 470, 471, 5, 472, 160, 473, 474, 475, 199, 476, 477, 478, 479, 480, 481, 482, 483, 484, 485] (by decide +kernel) (by decide +kernel)
set_option maxRecDepth 20000 in
theorem gk_X12_rule_3 : GoodIn wsR wsX12_rule_r2 := goodIn_r _ [486, 487, 158, 488, 489, 490, 491, 492, 493, 494, 495, 496, 497, 498, 499, 500, 501, 502, 503, 504, 505, 506, 507, 508] (by decide +kernel) (by decide +kernel)
set_option maxRecDepth 20000 in
theorem gk_X12_rule_4 : GoodIn wsR wsX12_rule_r3 := goodIn_r _ [509, 510, 511, 464, 512, 513, 514, 515, 516, 517, 518, 519, 520, 521, 522, 523, 524, 525, 526, 527, 528, 529, 530, 531] (by decide +kernel) (by decide +kernel)
set_option maxRecDepth 20000 in
theorem gk_X12_rule_5 : GoodIn wsR wsX12_rule_r4 := goodIn_r _ [532, 533, 534, 535, 465, 163, 536, 537, 538, 539, 540, 541, 542, 543, 544, 545, 546, 547, 466, 164, 548, 549, 550, 551] (by decide +kernel) (by decide +kernel)
set_option maxRecDepth 20000 in
theorem gk_X12_rule_6 : GoodIn wsR wsX12_rule_r5 := goodIn_r _ [467, 165, 552, 553, 554, 555, 161, 556, 557, 558, 559, 560, 561, 562, 563, 564, 565, 566, 567, 568, 166, 569, 570, 571] (by decide +kernel) (by decide +kernel)
set_option maxRecDepth 20000 in
theorem gk_X12_rule_7 : GoodIn wsR wsX12_rule_r6 := goodIn_r _ [572, 573, 574, 575, 576, 577, 578, 579, 580, 581, 582, 583, 584, 585, 586, 587, 588, 589, 590, 591, 592, 593, 594, 595] (by decide +kernel) (by decide +kernel)
set_option maxRecDepth 20000 in
theorem gk_X12_rule_8 : GoodIn wsR wsX12_rule_r7 := goodIn_r _ [596, 597, 598, 599, 600, 601, 602, 159, 603, 604, 605, 606, 607, 608, 609, 610, 611, 612, 613, 614, 615, 616, 617, 618] (by decide +kernel) (by decide +kernel)
set_option maxRecDepth 20000 in
theorem gk_X12_rule_9 : GoodIn wsR wsX12_rule_r8 := goodIn_r _ [619, 620, 621, 622, 623, 624, 625, 626, 627, 628, 629, 630, 631] (by decide +kernel) (by decide +kernel)
theorem ggL_law_X12_rule : GoodIn wsR wsX12_rule := goodIn_app gk_X12_rule_1 (goodIn_app (goodIn_app (gk_X12_rule_2) (goodIn_app (gk_X12_rule_3) (goodIn_app (gk_X12_rule_4) (goodIn_app (gk_X12_rule_5) (goodIn_app (gk_X12_rule_6) (goodIn_app (gk_X12_rule_7) (goodIn_app (gk_X12_rule_8) (gk_X12_rule_9)))))))) (gc_X120))
theorem gL_law_X12_rule : GoodIn wsR (wsV RL 31 RX12 yX12_rule wsX12_rule) := goodIn_app (goodIn_r _ [713, 714, 715, 5] (by decide +kernel) (by decide +kernel)) ggL_law_X12_rule
set_option maxRecDepth 20000 in
theorem gk_X11_street_1 : GoodIn wsR [Cond.code yX11_street cX11_street 4 (some .int)] := goodIn_r _ [721] (by decide +kernel) (by decide +kernel)
set_option maxRecDepth 20000 in
theorem gk_X11_street_2 : GoodIn wsR ([Cond.fieldLink RX11 42 "MondayMaps" "state" "LMondayMaps$State;", Cond.fieldLink RX11 120 "MondayMaps$State" "town" "LMondayMaps$Town;", Cond.fieldLink RX11 137 "MondayMaps$Town" "ends" "[I", Cond.fieldLink RX11 141 "MondayMaps$Town" "hours" "[I", Cond.methodLink RX11 133 yX7_hasStreet, Cond.instanceMethod yX7_hasStreet, Cond.selects RX7 yX7_hasStreet yX7_hasStreet, Cond.initialized RX7, Cond.code yX7_hasStreet cX7_hasStreet 2 (some .boolean), Cond.fieldLink RX7 46 "MondayMaps$Town" "streets" "I", Cond.methodLink RX11 144 yX7_signOn, Cond.instanceMethod yX7_signOn, Cond.selects RX7 yX7_signOn yX7_signOn, Cond.code yX7_signOn cX7_signOn 3 (some .int), Cond.fieldLink RX7 18 "MondayMaps$Town" "signs" "[I"] : List Cond) := goodIn_r _ [31, 217, 722, 723, 724, 725, 726, 18, 727, 224, 728, 729, 730, 731, 67] (by decide +kernel) (by decide +kernel)
theorem ggL_law_X11_street : GoodIn wsR wsX11_street := goodIn_app gk_X11_street_1 (goodIn_app (goodIn_app (goodIn_app (gk_X11_street_2) (gc_X110)) (gc_X50)) (gc_X70))
theorem gL_law_X11_street : GoodIn wsR (wsV RL 32 RX11 yX11_street wsX11_street) := goodIn_app (goodIn_r _ [718, 719, 720, 2] (by decide +kernel) (by decide +kernel)) ggL_law_X11_street
set_option maxRecDepth 20000 in
theorem gk_X12_street_1 : GoodIn wsR [Cond.code yX12_street cX12_street 3 (some .int)] := goodIn_r _ [735] (by decide +kernel) (by decide +kernel)
set_option maxRecDepth 20000 in
theorem gk_X12_street_2 : GoodIn wsR ([Cond.constantLong RX12 326 (9), Cond.methodLink RX12 323 yX12_isStreet, Cond.instanceMethod yX12_isStreet, Cond.selects RX12 yX12_isStreet yX12_isStreet, Cond.initialized RX12, Cond.code yX12_isStreet cX12_isStreet 2 (some .boolean), Cond.fieldLink RX12 45 "MondayMapsModel" "said" "[I", Cond.methodLink RX12 122 yX12_in, Cond.static yX12_in, Cond.code yX12_in cX12_in 6 (some .boolean), Cond.methodLink RX12 300 yX12_streetOf, Cond.instanceMethod yX12_streetOf, Cond.selects RX12 yX12_streetOf yX12_streetOf, Cond.code yX12_streetOf cX12_streetOf 3 (some .int)] : List Cond) := goodIn_r _ [736, 737, 738, 739, 5, 740, 169, 529, 530, 531, 741, 742, 743, 744] (by decide +kernel) (by decide +kernel)
theorem ggL_law_X12_street : GoodIn wsR wsX12_street := goodIn_app gk_X12_street_1 (goodIn_app (gk_X12_street_2) (gc_X120))
theorem gL_law_X12_street : GoodIn wsR (wsV RL 36 RX12 yX12_street wsX12_street) := goodIn_app (goodIn_r _ [732, 733, 734, 5] (by decide +kernel) (by decide +kernel)) ggL_law_X12_street
set_option maxRecDepth 20000 in
theorem gk_X11_open_1 : GoodIn wsR [Cond.code yX11_open cX11_open 6 (some .int)] := goodIn_r _ [748] (by decide +kernel) (by decide +kernel)
set_option maxRecDepth 20000 in
theorem gk_X11_open_2 : GoodIn wsR wsX11_open_r1 := goodIn_r _ [31, 217, 724, 725, 726, 18, 727, 224, 749, 435, 436, 437, 65, 750, 751, 752, 753, 754, 755, 756, 757, 758, 69, 759] (by decide +kernel) (by decide +kernel)
set_option maxRecDepth 20000 in
theorem gk_X11_open_3 : GoodIn wsR wsX11_open_r2 := goodIn_r _ [72, 71, 760, 761, 68] (by decide +kernel) (by decide +kernel)
theorem ggL_law_X11_open : GoodIn wsR wsX11_open := goodIn_app gk_X11_open_1 (goodIn_app (goodIn_app (goodIn_app (goodIn_app (gk_X11_open_2) (gk_X11_open_3)) (gc_X110)) (gc_X50)) (gc_X70))
theorem gL_law_X11_open : GoodIn wsR (wsV RL 37 RX11 yX11_open wsX11_open) := goodIn_app (goodIn_r _ [745, 746, 747, 2] (by decide +kernel) (by decide +kernel)) ggL_law_X11_open
set_option maxRecDepth 20000 in
theorem gk_X12_open_1 : GoodIn wsR [Cond.code yX12_open cX12_open 4 (some .int)] := goodIn_r _ [765] (by decide +kernel) (by decide +kernel)
set_option maxRecDepth 20000 in
theorem gk_X12_open_2 : GoodIn wsR wsX12_open_r1 := goodIn_r _ [737, 738, 739, 5, 740, 169, 766, 767, 768, 769, 770, 771, 772, 773, 741, 742, 743, 744, 774, 775, 776, 594, 777, 778] (by decide +kernel) (by decide +kernel)
set_option maxRecDepth 20000 in
theorem gk_X12_open_3 : GoodIn wsR wsX12_open_r2 := goodIn_r _ [779, 780, 781, 782, 783, 784, 785, 786, 787, 788, 789, 790, 791, 792, 793, 794, 795, 170, 796, 797, 798, 799] (by decide +kernel) (by decide +kernel)
theorem ggL_law_X12_open : GoodIn wsR wsX12_open := goodIn_app gk_X12_open_1 (goodIn_app (goodIn_app (gk_X12_open_2) (gk_X12_open_3)) (gc_X120))
theorem gL_law_X12_open : GoodIn wsR (wsV RL 41 RX12 yX12_open wsX12_open) := goodIn_app (goodIn_r _ [762, 763, 764, 5] (by decide +kernel) (by decide +kernel)) ggL_law_X12_open
set_option maxRecDepth 20000 in
theorem gk_X11_print_1 : GoodIn wsR [Cond.code yX11_print cX11_print 4 (some .int)] := goodIn_r _ [803] (by decide +kernel) (by decide +kernel)
set_option maxRecDepth 20000 in
theorem gk_X11_print_2 : GoodIn wsR wsX11_print_r1 := goodIn_r _ [31, 804, 217, 218, 805, 38, 806, 807, 2, 808, 809, 810, 811, 30, 812, 90, 813, 728, 729, 730, 18, 731, 67, 814] (by decide +kernel) (by decide +kernel)
set_option maxRecDepth 20000 in
theorem gk_X11_print_3 : GoodIn wsR wsX11_print_r2 := goodIn_r _ [815, 816, 37, 817, 112] (by decide +kernel) (by decide +kernel)
theorem ggL_law_X11_print : GoodIn wsR wsX11_print := goodIn_app gk_X11_print_1 (goodIn_app (goodIn_app (goodIn_app (goodIn_app (goodIn_app (gk_X11_print_2) (gk_X11_print_3)) (gc_X110)) (gc_X50)) (gc_X70)) (gc_X00))
theorem gL_law_X11_print : GoodIn wsR (wsV RL 42 RX11 yX11_print wsX11_print) := goodIn_app (goodIn_r _ [800, 801, 802, 2] (by decide +kernel) (by decide +kernel)) ggL_law_X11_print
set_option maxRecDepth 20000 in
theorem gk_X12_print_1 : GoodIn wsR [Cond.code yX12_print cX12_print 3 (some .int)] := goodIn_r _ [821] (by decide +kernel) (by decide +kernel)
set_option maxRecDepth 20000 in
theorem gk_X12_print_2 : GoodIn wsR ([Cond.constantLong RX12 340 (6), Cond.fieldLink RX12 45 "MondayMapsModel" "said" "[I", Cond.methodLink RX12 337 yX12_isTown, Cond.instanceMethod yX12_isTown, Cond.selects RX12 yX12_isTown yX12_isTown, Cond.initialized RX12, Cond.code yX12_isTown cX12_isTown 1 (some .boolean), Cond.methodLink RX12 122 yX12_in, Cond.static yX12_in, Cond.code yX12_in cX12_in 6 (some .boolean), Cond.methodLink RX12 300 yX12_streetOf, Cond.instanceMethod yX12_streetOf, Cond.selects RX12 yX12_streetOf yX12_streetOf, Cond.code yX12_streetOf cX12_streetOf 3 (some .int)] : List Cond) := goodIn_r _ [822, 169, 823, 824, 825, 5, 826, 529, 530, 531, 741, 742, 743, 744] (by decide +kernel) (by decide +kernel)
theorem ggL_law_X12_print : GoodIn wsR wsX12_print := goodIn_app gk_X12_print_1 (goodIn_app (gk_X12_print_2) (gc_X120))
theorem gL_law_X12_print : GoodIn wsR (wsV RL 45 RX12 yX12_print wsX12_print) := goodIn_app (goodIn_r _ [818, 819, 820, 5] (by decide +kernel) (by decide +kernel)) ggL_law_X12_print
set_option maxRecDepth 20000 in
theorem gk_X11_misprint_1 : GoodIn wsR [Cond.code yX11_misprint cX11_misprint 6 (some .int)] := goodIn_r _ [830] (by decide +kernel) (by decide +kernel)
set_option maxRecDepth 20000 in
theorem gk_X11_misprint_2 : GoodIn wsR wsX11_misprint_r1 := goodIn_r _ [31, 217, 805, 38, 831, 832, 833, 2, 834, 804, 724, 725, 726, 18, 727, 224, 835, 836, 837, 814, 815, 816, 37, 817] (by decide +kernel) (by decide +kernel)
set_option maxRecDepth 20000 in
theorem gk_X11_misprint_3 : GoodIn wsR wsX11_misprint_r2 := goodIn_r _ [112] (by decide +kernel) (by decide +kernel)
