set_option maxRecDepth 20000 in
theorem gc_X110 : GoodIn wsR wsX110 := goodIn_r _ [1679, 1680, 1681, 1682, 1683, 1684, 1685, 1686, 1687, 1688, 1689, 1690, 1691] (by decide +kernel) (by decide +kernel)
set_option maxRecDepth 20000 in
theorem gc_X120 : GoodIn wsR wsX120 := goodIn_r _ [1692, 1693, 1694, 1695, 1696, 1697, 1698, 1699, 1700, 1701, 1702, 1703, 1704, 1705, 1706, 1707, 1708, 1709, 1710, 1711, 1712, 1713, 1714, 1715, 1716, 1717, 1718, 1719, 1720, 1721, 1722, 1723, 1724, 1725, 1726, 1727, 1728, 1729, 1730, 1731, 1732, 1733] (by decide +kernel) (by decide +kernel)
set_option maxRecDepth 20000 in
theorem gc_X60 : GoodIn wsR wsX60 := goodIn_r _ [1734, 1735, 1736, 1737, 1738] (by decide +kernel) (by decide +kernel)
set_option maxRecDepth 20000 in
theorem gc_X70 : GoodIn wsR wsX70 := goodIn_r _ [1739, 1740, 1741, 1742, 1743, 1744, 1745, 1746, 1747, 1748, 1749, 1750] (by decide +kernel) (by decide +kernel)
set_option maxRecDepth 20000 in
theorem gc_X20 : GoodIn wsR wsX20 := goodIn_r _ [1751, 1752, 1753, 1754, 1755, 1756] (by decide +kernel) (by decide +kernel)
set_option maxRecDepth 20000 in
theorem gc_X30 : GoodIn wsR wsX30 := goodIn_r _ [1757, 1758, 1759] (by decide +kernel) (by decide +kernel)
set_option maxRecDepth 20000 in
theorem gc_X50 : GoodIn wsR wsX50 := goodIn_r _ [1760, 1761, 1762, 1763, 1764, 1765, 1766, 1767, 1768, 1769, 1770, 1771, 1772, 1773] (by decide +kernel) (by decide +kernel)
set_option maxRecDepth 20000 in
theorem gc_X00 : GoodIn wsR wsX00 := goodIn_r _ [1774, 1775, 1776, 1777] (by decide +kernel) (by decide +kernel)
set_option maxRecDepth 20000 in
theorem gc_X10 : GoodIn wsR wsX10 := goodIn_r _ [1778, 1779, 1780, 1781, 1782, 1783, 1784, 1785, 1786, 1787] (by decide +kernel) (by decide +kernel)
set_option maxRecDepth 20000 in
theorem gc_X80 : GoodIn wsR wsX80 := goodIn_r _ [1788, 1789, 1790, 1791, 1792, 1793, 1794, 1795] (by decide +kernel) (by decide +kernel)
set_option maxRecDepth 20000 in
theorem gc_X40 : GoodIn wsR wsX40 := goodIn_r _ [1796, 1797, 1798, 1799] (by decide +kernel) (by decide +kernel)
set_option maxRecDepth 20000 in
theorem gc_X100 : GoodIn wsR wsX100 := goodIn_r _ [1800, 1801, 1802, 1803, 1804] (by decide +kernel) (by decide +kernel)
set_option maxRecDepth 20000 in
theorem gc_X90 : GoodIn wsR wsX90 := goodIn_r _ [1805, 1806, 1807, 1808, 1809, 1810, 1811, 1812, 1813] (by decide +kernel) (by decide +kernel)
set_option maxRecDepth 20000 in
theorem gk_X11_init_1 : GoodIn wsR [Cond.code yX11_init cX11_init 2 none] := goodIn_r _ [8] (by decide +kernel) (by decide +kernel)
set_option maxRecDepth 20000 in
theorem gk_X11_init_2 : GoodIn wsR wsX11_init_r1 := goodIn_r _ [9, 10, 11, 12, 13, 14, 15, 16, 17, 18, 19, 20, 21, 22, 23, 24, 25, 26, 27, 28, 29, 30, 31, 32] (by decide +kernel) (by decide +kernel)
set_option maxRecDepth 20000 in
theorem gk_X11_init_3 : GoodIn wsR wsX11_init_r2 := goodIn_r _ [33, 34, 35, 36, 37, 38, 39, 40, 41, 42, 43, 44, 45, 46, 47, 48, 49, 50, 51, 52, 53, 54, 55, 56] (by decide +kernel) (by decide +kernel)
set_option maxRecDepth 20000 in
theorem gk_X11_init_4 : GoodIn wsR wsX11_init_r3 := goodIn_r _ [57, 58, 59, 60, 61, 62, 63, 64, 65, 66, 67, 68, 69, 70, 71, 72, 73, 74, 75, 76, 77, 78, 79, 80] (by decide +kernel) (by decide +kernel)
set_option maxRecDepth 20000 in
theorem gk_X11_init_5 : GoodIn wsR wsX11_init_r4 := goodIn_r _ [81, 82, 83, 84, 85, 86, 87, 88, 89, 90, 91, 92, 93, 94, 95, 96, 97, 98, 99, 100, 101, 102, 103, 104] (by decide +kernel) (by decide +kernel)
set_option maxRecDepth 20000 in
theorem gk_X11_init_6 : GoodIn wsR wsX11_init_r5 := goodIn_r _ [105, 106, 107, 108, 109, 110, 111, 112, 113, 114, 115, 116, 117, 118, 119, 120, 121, 122, 123, 124, 125, 126, 127, 128] (by decide +kernel) (by decide +kernel)
set_option maxRecDepth 20000 in
theorem gk_X11_init_7 : GoodIn wsR wsX11_init_r6 := goodIn_r _ [129, 130, 131, 132, 133, 134, 135, 136, 137, 138, 139, 140, 141, 142, 143, 144, 145, 146, 147, 148, 149, 150, 151, 152] (by decide +kernel) (by decide +kernel)
theorem ggL_law_X11_init : GoodIn wsR wsX11_init := goodIn_app gk_X11_init_1 (goodIn_app (goodIn_app (goodIn_app (goodIn_app (goodIn_app (goodIn_app (goodIn_app (goodIn_app (goodIn_app (goodIn_app (goodIn_app (goodIn_app (goodIn_app (gk_X11_init_2) (goodIn_app (gk_X11_init_3) (goodIn_app (gk_X11_init_4) (goodIn_app (gk_X11_init_5) (goodIn_app (gk_X11_init_6) (gk_X11_init_7)))))) (gc_X60)) (gc_X110)) (gc_X70)) (gc_X20)) (gc_X30)) (gc_X50)) (gc_X00)) (gc_X10)) (gc_X80)) (gc_X40)) (gc_X100)) (gc_X90))
theorem gL_law_X11_init : GoodIn wsR wsX11_init := ggL_law_X11_init
set_option maxRecDepth 20000 in
theorem gk_X12_init_1 : GoodIn wsR [Cond.code yX12_init cX12_init 1 none] := goodIn_r _ [155] (by decide +kernel) (by decide +kernel)
set_option maxRecDepth 20000 in
theorem gk_X12_init_2 : GoodIn wsR wsX12_init_r1 := goodIn_r _ [156, 10, 11, 157, 158, 59, 159, 160, 161, 162, 163, 164, 165, 166, 118, 167, 168, 169, 170, 171, 172, 173, 174, 175] (by decide +kernel) (by decide +kernel)
set_option maxRecDepth 20000 in
theorem gk_X12_init_3 : GoodIn wsR wsX12_init_r2 := goodIn_r _ [176, 33, 177, 178, 179, 180] (by decide +kernel) (by decide +kernel)
theorem ggL_law_X12_init : GoodIn wsR wsX12_init := goodIn_app gk_X12_init_1 (goodIn_app (goodIn_app (gk_X12_init_2) (gk_X12_init_3)) (gc_X120))
theorem gL_law_X12_init : GoodIn wsR wsX12_init := ggL_law_X12_init
set_option maxRecDepth 20000 in
theorem gk_X11_feed_1 : GoodIn wsR [Cond.code yX11_feed cX11_feed 6 (some .int)] := goodIn_r _ [184] (by decide +kernel) (by decide +kernel)
set_option maxRecDepth 20000 in
theorem gk_X11_feed_2 : GoodIn wsR ([Cond.fieldLink RX11 10 "MondayMaps" "tape" "LMondayMaps$Tape;", Cond.fieldLink RX11 103 "MondayMaps$Tape" "length" "I", Cond.methodLink RX11 95 yX6_hasRoom, Cond.instanceMethod yX6_hasRoom, Cond.selects RX6 yX6_hasRoom yX6_hasRoom, Cond.initialized RX6, Cond.code yX6_hasRoom cX6_hasRoom 1 (some .boolean), Cond.fieldLink RX6 15 "MondayMaps$Tape" "length" "I", Cond.methodLink RX11 99 yX6_append, Cond.instanceMethod yX6_append, Cond.selects RX6 yX6_append yX6_append, Cond.code yX6_append cX6_append 3 none, Cond.fieldLink RX6 9 "MondayMaps$Tape" "bytes" "[I"] : List Cond) := goodIn_r _ [15, 185, 186, 187, 188, 14, 189, 190, 191, 192, 193, 194, 60] (by decide +kernel) (by decide +kernel)
theorem ggL_law_X11_feed : GoodIn wsR wsX11_feed := goodIn_app gk_X11_feed_1 (goodIn_app (goodIn_app (gk_X11_feed_2) (gc_X110)) (gc_X60))
theorem gL_law_X11_feed : GoodIn wsR (wsV RL 13 RX11 yX11_feed wsX11_feed) := goodIn_app (goodIn_r _ [181, 182, 183, 2] (by decide +kernel) (by decide +kernel)) ggL_law_X11_feed
set_option maxRecDepth 20000 in
theorem gk_X12_feed_1 : GoodIn wsR [Cond.code yX12_feed cX12_feed 6 (some .int)] := goodIn_r _ [198] (by decide +kernel) (by decide +kernel)
set_option maxRecDepth 20000 in
theorem gk_X12_feed_2 : GoodIn wsR ([Cond.fieldLink RX12 83 "MondayMapsModel" "taped" "I", Cond.methodLink RX12 87 yX12_four, Cond.instanceMethod yX12_four, Cond.selects RX12 yX12_four yX12_four, Cond.initialized RX12, Cond.code yX12_four cX12_four 3 none, Cond.fieldLink RX12 7 "MondayMapsModel" "tape" "[B"] : List Cond) := goodIn_r _ [199, 200, 201, 202, 5, 203, 158] (by decide +kernel) (by decide +kernel)
theorem ggL_law_X12_feed : GoodIn wsR wsX12_feed := goodIn_app gk_X12_feed_1 (goodIn_app (gk_X12_feed_2) (gc_X120))
theorem gL_law_X12_feed : GoodIn wsR (wsV RL 17 RX12 yX12_feed wsX12_feed) := goodIn_app (goodIn_r _ [195, 196, 197, 5] (by decide +kernel) (by decide +kernel)) ggL_law_X12_feed
set_option maxRecDepth 20000 in
theorem gk_X11_end_1 : GoodIn wsR [Cond.code yX11_end cX11_end 2 (some .int)] := goodIn_r _ [207] (by decide +kernel) (by decide +kernel)
set_option maxRecDepth 20000 in
theorem gk_X11_end_2 : GoodIn wsR ([Cond.fieldLink RX11 10 "MondayMaps" "tape" "LMondayMaps$Tape;", Cond.fieldLink RX11 103 "MondayMaps$Tape" "length" "I"] : List Cond) := goodIn_r _ [15, 185] (by decide +kernel) (by decide +kernel)
theorem ggL_law_X11_end : GoodIn wsR wsX11_end := goodIn_app gk_X11_end_1 (goodIn_app (goodIn_app (gk_X11_end_2) (gc_X110)) (gc_X60))
theorem gL_law_X11_end : GoodIn wsR (wsV RL 18 RX11 yX11_end wsX11_end) := goodIn_app (goodIn_r _ [204, 205, 206, 2] (by decide +kernel) (by decide +kernel)) ggL_law_X11_end
set_option maxRecDepth 20000 in
theorem gk_X12_end_1 : GoodIn wsR [Cond.code yX12_end cX12_end 2 (some .int)] := goodIn_r _ [211] (by decide +kernel) (by decide +kernel)
set_option maxRecDepth 20000 in
theorem gk_X12_end_2 : GoodIn wsR ([Cond.fieldLink RX12 83 "MondayMapsModel" "taped" "I"] : List Cond) := goodIn_r _ [199] (by decide +kernel) (by decide +kernel)
theorem ggL_law_X12_end : GoodIn wsR wsX12_end := goodIn_app gk_X12_end_1 (goodIn_app (gk_X12_end_2) (gc_X120))
theorem gL_law_X12_end : GoodIn wsR (wsV RL 22 RX12 yX12_end wsX12_end) := goodIn_app (goodIn_r _ [208, 209, 210, 5] (by decide +kernel) (by decide +kernel)) ggL_law_X12_end
set_option maxRecDepth 20000 in
theorem gk_X11_town_1 : GoodIn wsR [Cond.code yX11_town cX11_town 2 (some .int)] := goodIn_r _ [215] (by decide +kernel) (by decide +kernel)
set_option maxRecDepth 20000 in
theorem gk_X11_town_2 : GoodIn wsR wsX11_town_r1 := goodIn_r _ [19, 15, 216, 185, 31, 38, 217, 218, 219, 220, 221, 18, 222, 223, 224, 225, 226, 227, 228, 229, 230, 14, 231, 232] (by decide +kernel) (by decide +kernel)
set_option maxRecDepth 20000 in
theorem gk_X11_town_3 : GoodIn wsR wsX11_town_r2 := goodIn_r _ [233, 234, 235, 236, 237, 238, 60, 239, 240, 241, 242, 190, 243, 244, 245, 246, 247, 248, 249, 250, 251, 252, 253, 254] (by decide +kernel) (by decide +kernel)
set_option maxRecDepth 20000 in
theorem gk_X11_town_4 : GoodIn wsR wsX11_town_r3 := goodIn_r _ [255, 256, 257, 258, 259, 260, 261, 262, 263, 264, 265, 266, 267, 268, 269, 270, 271, 272, 273, 274, 275, 276, 277, 278] (by decide +kernel) (by decide +kernel)
set_option maxRecDepth 20000 in
theorem gk_X11_town_5 : GoodIn wsR wsX11_town_r4 := goodIn_r _ [279, 280, 281, 282, 283, 284, 285, 286, 287, 288, 289, 290, 291, 292, 293, 294, 295, 296, 297, 298, 299, 300, 301, 302] (by decide +kernel) (by decide +kernel)
set_option maxRecDepth 20000 in
theorem gk_X11_town_6 : GoodIn wsR wsX11_town_r5 := goodIn_r _ [303, 304, 305, 306, 307, 308, 309, 310, 311, 312, 313, 314, 315, 316, 317, 318, 319, 320, 321, 322, 323, 324, 325, 326] (by decide +kernel) (by decide +kernel)
set_option maxRecDepth 20000 in
theorem gk_X11_town_7 : GoodIn wsR wsX11_town_r6 := goodIn_r _ [327, 328, 65, 66, 68, 69, 329, 330, 331, 332, 333, 334, 335, 336, 337, 338, 339, 340, 341, 342, 343, 344, 345, 346] (by decide +kernel) (by decide +kernel)
set_option maxRecDepth 20000 in
theorem gk_X11_town_8 : GoodIn wsR wsX11_town_r7 := goodIn_r _ [347, 348, 349, 350, 351, 352, 353, 354, 355, 356, 357, 358, 359, 360, 361, 362, 363, 364, 365, 366, 367, 368, 369, 370] (by decide +kernel) (by decide +kernel)
set_option maxRecDepth 20000 in
theorem gk_X11_town_9 : GoodIn wsR wsX11_town_r8 := goodIn_r _ [371, 372, 373, 374, 375, 376, 377, 378, 379, 380, 381, 382, 383, 384, 385, 386, 387, 388, 389, 390, 391, 392, 393, 394] (by decide +kernel) (by decide +kernel)
set_option maxRecDepth 20000 in
theorem gk_X11_town_10 : GoodIn wsR wsX11_town_r9 := goodIn_r _ [395, 396, 397, 398, 399, 400, 401, 402, 403, 404, 405, 406, 407, 408, 409, 410, 67, 411, 412, 413, 414, 70, 71, 415] (by decide +kernel) (by decide +kernel)
set_option maxRecDepth 20000 in
theorem gk_X11_town_11 : GoodIn wsR wsX11_town_r10 := goodIn_r _ [416, 417, 418, 419, 420, 421, 422, 423, 424, 425, 426, 427, 428, 429, 430, 431, 432, 433, 72, 434, 435, 436, 437, 438] (by decide +kernel) (by decide +kernel)
set_option maxRecDepth 20000 in
theorem gk_X11_town_12 : GoodIn wsR wsX11_town_r11 := goodIn_r _ [439, 440, 30, 441, 90, 442, 443, 444, 445, 446, 447, 448, 449, 450, 451, 452, 453, 454, 455, 456, 457, 37, 458, 112] (by decide +kernel) (by decide +kernel)
theorem ggL_law_X11_town : GoodIn wsR wsX11_town := goodIn_app gk_X11_town_1 (goodIn_app (goodIn_app (goodIn_app (goodIn_app (goodIn_app (goodIn_app (gk_X11_town_2) (goodIn_app (gk_X11_town_3) (goodIn_app (gk_X11_town_4) (goodIn_app (gk_X11_town_5) (goodIn_app (gk_X11_town_6) (goodIn_app (gk_X11_town_7) (goodIn_app (gk_X11_town_8) (goodIn_app (gk_X11_town_9) (goodIn_app (gk_X11_town_10) (goodIn_app (gk_X11_town_11) (gk_X11_town_12))))))))))) (gc_X110)) (gc_X60)) (gc_X50)) (gc_X70)) (gc_X00))
theorem gL_law_X11_town : GoodIn wsR (wsV RL 23 RX11 yX11_town wsX11_town) := goodIn_app (goodIn_r _ [212, 213, 214, 2] (by decide +kernel) (by decide +kernel)) ggL_law_X11_town
set_option maxRecDepth 20000 in
theorem gk_X12_town_1 : GoodIn wsR [Cond.code yX12_town cX12_town 3 (some .int)] := goodIn_r _ [462] (by decide +kernel) (by decide +kernel)
set_option maxRecDepth 20000 in
theorem gk_X12_town_2 : GoodIn wsR wsX12_town_r1 := goodIn_r _ [463, 464, 465, 466, 467, 468, 169, 163, 164, 165, 469, 470, 471, 5, 472, 160, 473, 474, 475, 199, 476, 477, 478, 479] (by decide +kernel) (by decide +kernel)
set_option maxRecDepth 20000 in
theorem gk_X12_town_3 : GoodIn wsR wsX12_town_r2 := goodIn_r _ [480, 481, 482, 483, 484, 485, 486, 487, 158, 488, 489, 490, 491, 492, 493, 494, 495, 496, 497, 498, 499, 500, 501, 502] (by decide +kernel) (by decide +kernel)
