set_option maxRecDepth 20000 in
theorem ggL_law_X11_open : GoodIn wsL_law wsX11_open := goodIn_r _ [748, 31, 217, 724, 725, 726, 18, 727, 224, 749, 435, 436, 437, 65, 750, 751, 752, 753, 754, 755, 756, 757, 758, 69, 759, 72, 71, 760, 761, 68, 1679, 1680, 1681, 1682, 1683, 1684, 1685, 1686, 1687, 1688, 1689, 1690, 1691, 1760, 1761, 1762, 1763, 1764, 1765, 1766, 1767, 1768, 1769, 1770, 1771, 1772, 1773, 1739, 1740, 1741, 1742, 1743, 1744, 1745, 1746, 1747, 1748, 1749, 1750] (by decide +kernel) (by decide +kernel)
set_option maxRecDepth 20000 in
theorem gL_law_X11_open : GoodIn wsL_law (wsV RL 37 RX11 yX11_open wsX11_open) := goodIn_app (goodIn_of _ (by decide +kernel)) ggL_law_X11_open
set_option maxRecDepth 20000 in
theorem ggL_law_X12_open : GoodIn wsL_law wsX12_open := goodIn_r _ [765, 737, 738, 739, 5, 740, 169, 766, 767, 768, 769, 770, 771, 772, 773, 741, 742, 743, 744, 774, 775, 776, 594, 777, 778, 779, 780, 781, 782, 783, 784, 785, 786, 787, 788, 789, 790, 791, 792, 793, 794, 795, 170, 796, 797, 798, 799, 1692, 1693, 1694, 1695, 1696, 1697, 1698, 1699, 1700, 1701, 1702, 1703, 1704, 1705, 1706, 1707, 1708, 1709, 1710, 1711, 1712, 1713, 1714, 1715, 1716, 1717, 1718, 1719, 1720, 1721, 1722, 1723, 1724, 1725, 1726, 1727, 1728, 1729, 1730, 1731, 1732, 1733] (by decide +kernel) (by decide +kernel)
set_option maxRecDepth 20000 in
theorem gL_law_X12_open : GoodIn wsL_law (wsV RL 41 RX12 yX12_open wsX12_open) := goodIn_app (goodIn_of _ (by decide +kernel)) ggL_law_X12_open
set_option maxRecDepth 20000 in
theorem ggL_law_X11_print : GoodIn wsL_law wsX11_print := goodIn_r _ [803, 31, 804, 217, 218, 805, 38, 806, 807, 2, 808, 809, 810, 811, 30, 812, 90, 813, 728, 729, 730, 18, 731, 67, 814, 815, 816, 37, 817, 112, 1679, 1680, 1681, 1682, 1683, 1684, 1685, 1686, 1687, 1688, 1689, 1690, 1691, 1760, 1761, 1762, 1763, 1764, 1765, 1766, 1767, 1768, 1769, 1770, 1771, 1772, 1773, 1739, 1740, 1741, 1742, 1743, 1744, 1745, 1746, 1747, 1748, 1749, 1750, 1774, 1775, 1776, 1777] (by decide +kernel) (by decide +kernel)
set_option maxRecDepth 20000 in
theorem gL_law_X11_print : GoodIn wsL_law (wsV RL 42 RX11 yX11_print wsX11_print) := goodIn_app (goodIn_of _ (by decide +kernel)) ggL_law_X11_print
set_option maxRecDepth 20000 in
theorem ggL_law_X12_print : GoodIn wsL_law wsX12_print := goodIn_r _ [821, 822, 169, 823, 824, 825, 5, 826, 529, 530, 531, 741, 742, 743, 744, 1692, 1693, 1694, 1695, 1696, 1697, 1698, 1699, 1700, 1701, 1702, 1703, 1704, 1705, 1706, 1707, 1708, 1709, 1710, 1711, 1712, 1713, 1714, 1715, 1716, 1717, 1718, 1719, 1720, 1721, 1722, 1723, 1724, 1725, 1726, 1727, 1728, 1729, 1730, 1731, 1732, 1733] (by decide +kernel) (by decide +kernel)
set_option maxRecDepth 20000 in
theorem gL_law_X12_print : GoodIn wsL_law (wsV RL 45 RX12 yX12_print wsX12_print) := goodIn_app (goodIn_of _ (by decide +kernel)) ggL_law_X12_print
set_option maxRecDepth 20000 in
theorem ggL_law_X11_misprint : GoodIn wsL_law wsX11_misprint := goodIn_r _ [830, 31, 217, 805, 38, 831, 832, 833, 2, 834, 804, 724, 725, 726, 18, 727, 224, 835, 836, 837, 814, 815, 816, 37, 817, 112, 1679, 1680, 1681, 1682, 1683, 1684, 1685, 1686, 1687, 1688, 1689, 1690, 1691, 1760, 1761, 1762, 1763, 1764, 1765, 1766, 1767, 1768, 1769, 1770, 1771, 1772, 1773, 1739, 1740, 1741, 1742, 1743, 1744, 1745, 1746, 1747, 1748, 1749, 1750, 1774, 1775, 1776, 1777] (by decide +kernel) (by decide +kernel)
set_option maxRecDepth 20000 in
theorem gL_law_X11_misprint : GoodIn wsL_law (wsV RL 46 RX11 yX11_misprint wsX11_misprint) := goodIn_app (goodIn_of _ (by decide +kernel)) ggL_law_X11_misprint
set_option maxRecDepth 20000 in
theorem ggL_law_X12_misprint : GoodIn wsL_law wsX12_misprint := goodIn_r _ [841, 842, 169, 843, 844, 845, 5, 846, 737, 738, 739, 740, 529, 530, 531, 1692, 1693, 1694, 1695, 1696, 1697, 1698, 1699, 1700, 1701, 1702, 1703, 1704, 1705, 1706, 1707, 1708, 1709, 1710, 1711, 1712, 1713, 1714, 1715, 1716, 1717, 1718, 1719, 1720, 1721, 1722, 1723, 1724, 1725, 1726, 1727, 1728, 1729, 1730, 1731, 1732, 1733] (by decide +kernel) (by decide +kernel)
set_option maxRecDepth 20000 in
theorem gL_law_X12_misprint : GoodIn wsL_law (wsV RL 49 RX12 yX12_misprint wsX12_misprint) := goodIn_app (goodIn_of _ (by decide +kernel)) ggL_law_X12_misprint
set_option maxRecDepth 20000 in
theorem ggL_law_X11_shown : GoodIn wsL_law wsX11_shown := goodIn_r _ [850, 31, 217, 805, 831, 832, 833, 2, 834, 804, 724, 725, 726, 18, 727, 224, 1679, 1680, 1681, 1682, 1683, 1684, 1685, 1686, 1687, 1688, 1689, 1690, 1691, 1760, 1761, 1762, 1763, 1764, 1765, 1766, 1767, 1768, 1769, 1770, 1771, 1772, 1773, 1739, 1740, 1741, 1742, 1743, 1744, 1745, 1746, 1747, 1748, 1749, 1750] (by decide +kernel) (by decide +kernel)
set_option maxRecDepth 20000 in
theorem gL_law_X11_shown : GoodIn wsL_law (wsV RL 50 RX11 yX11_shown wsX11_shown) := goodIn_app (goodIn_of _ (by decide +kernel)) ggL_law_X11_shown
set_option maxRecDepth 20000 in
theorem ggL_law_X12_shown : GoodIn wsL_law wsX12_shown := goodIn_r _ [854, 169, 843, 844, 845, 5, 846, 737, 738, 739, 740, 1692, 1693, 1694, 1695, 1696, 1697, 1698, 1699, 1700, 1701, 1702, 1703, 1704, 1705, 1706, 1707, 1708, 1709, 1710, 1711, 1712, 1713, 1714, 1715, 1716, 1717, 1718, 1719, 1720, 1721, 1722, 1723, 1724, 1725, 1726, 1727, 1728, 1729, 1730, 1731, 1732, 1733] (by decide +kernel) (by decide +kernel)
set_option maxRecDepth 20000 in
theorem gL_law_X12_shown : GoodIn wsL_law (wsV RL 53 RX12 yX12_shown wsX12_shown) := goodIn_app (goodIn_of _ (by decide +kernel)) ggL_law_X12_shown
set_option maxRecDepth 20000 in
theorem ggL_law_X11_by : GoodIn wsL_law wsX11_by := goodIn_r _ [858, 38, 831, 832, 833, 2, 834, 31, 804, 859, 860, 861, 862, 217, 863, 864, 865, 866, 37, 867, 112, 868, 869, 870, 871, 110, 872, 111, 113, 873, 874, 875, 876, 877, 878, 879, 880, 881, 882, 883, 884, 729, 730, 18, 731, 67, 885, 886, 887, 888, 65, 889, 890, 891, 892, 893, 894, 895, 896, 897, 898, 899, 900, 901, 902, 903, 904, 905, 906, 907, 908, 909, 1679, 1680, 1681, 1682, 1683, 1684, 1685, 1686, 1687, 1688, 1689, 1690, 1691, 1760, 1761, 1762, 1763, 1764, 1765, 1766, 1767, 1768, 1769, 1770, 1771, 1772, 1773, 1739, 1740, 1741, 1742, 1743, 1744, 1745, 1746, 1747, 1748, 1749, 1750, 1774, 1775, 1776, 1777] (by decide +kernel) (by decide +kernel)
set_option maxRecDepth 20000 in
theorem gL_law_X11_by : GoodIn wsL_law (wsV RL 54 RX11 yX11_by wsX11_by) := goodIn_app (goodIn_of _ (by decide +kernel)) ggL_law_X11_by
set_option maxRecDepth 20000 in
theorem ggL_law_X12_by : GoodIn wsL_law wsX12_by := goodIn_r _ [913, 172, 914, 843, 844, 845, 5, 846, 169, 766, 767, 768, 769, 529, 530, 531, 915, 916, 917, 918, 171, 919, 920, 921, 922, 741, 742, 743, 744, 789, 790, 791, 923, 924, 925, 926, 770, 771, 772, 773, 785, 786, 787, 788, 927, 928, 929, 930, 1692, 1693, 1694, 1695, 1696, 1697, 1698, 1699, 1700, 1701, 1702, 1703, 1704, 1705, 1706, 1707, 1708, 1709, 1710, 1711, 1712, 1713, 1714, 1715, 1716, 1717, 1718, 1719, 1720, 1721, 1722, 1723, 1724, 1725, 1726, 1727, 1728, 1729, 1730, 1731, 1732, 1733] (by decide +kernel) (by decide +kernel)
set_option maxRecDepth 20000 in
theorem gL_law_X12_by : GoodIn wsL_law (wsV RL 58 RX12 yX12_by wsX12_by) := goodIn_app (goodIn_of _ (by decide +kernel)) ggL_law_X12_by
set_option maxRecDepth 20000 in
theorem ggL_law_X11_walker : GoodIn wsL_law wsX11_walker := goodIn_r _ [934, 31, 935, 936, 859, 860, 861, 2, 862, 217, 863, 831, 832, 833, 834, 804, 937, 938, 939, 940, 636, 941, 942, 943, 100, 944, 945, 946, 947, 948, 949, 950, 951, 952, 953, 954, 1679, 1680, 1681, 1682, 1683, 1684, 1685, 1686, 1687, 1688, 1689, 1690, 1691, 1760, 1761, 1762, 1763, 1764, 1765, 1766, 1767, 1768, 1769, 1770, 1771, 1772, 1773, 1739, 1740, 1741, 1742, 1743, 1744, 1745, 1746, 1747, 1748, 1749, 1750, 1805, 1806, 1807, 1808, 1809, 1810, 1811, 1812, 1813] (by decide +kernel) (by decide +kernel)
set_option maxRecDepth 20000 in
theorem gL_law_X11_walker : GoodIn wsL_law (wsV RL 59 RX11 yX11_walker wsX11_walker) := goodIn_app (goodIn_of _ (by decide +kernel)) ggL_law_X11_walker
set_option maxRecDepth 20000 in
theorem ggL_law_X12_walker : GoodIn wsL_law wsX12_walker := goodIn_r _ [958, 169, 766, 767, 768, 5, 769, 843, 844, 845, 846, 959, 960, 961, 962, 717, 774, 775, 776, 594, 963, 964, 965, 966, 1692, 1693, 1694, 1695, 1696, 1697, 1698, 1699, 1700, 1701, 1702, 1703, 1704, 1705, 1706, 1707, 1708, 1709, 1710, 1711, 1712, 1713, 1714, 1715, 1716, 1717, 1718, 1719, 1720, 1721, 1722, 1723, 1724, 1725, 1726, 1727, 1728, 1729, 1730, 1731, 1732, 1733] (by decide +kernel) (by decide +kernel)
set_option maxRecDepth 20000 in
theorem gL_law_X12_walker : GoodIn wsL_law (wsV RL 62 RX12 yX12_walker wsX12_walker) := goodIn_app (goodIn_of _ (by decide +kernel)) ggL_law_X12_walker
