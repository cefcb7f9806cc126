set_option maxRecDepth 20000 in
theorem ggL_law_X11_questions : GoodIn wsL_law wsX11_questions := goodIn_r _ [1337, 38, 46, 31, 936, 971, 972, 973, 2, 974, 935, 997, 998, 999, 37, 1000, 113, 1001, 1002, 865, 866, 867, 112, 868, 869, 870, 871, 110, 872, 111, 873, 874, 875, 876, 877, 878, 879, 880, 881, 882, 883, 884, 729, 730, 18, 731, 67, 885, 886, 887, 888, 65, 889, 890, 891, 892, 893, 894, 895, 896, 897, 898, 899, 900, 901, 1338, 1339, 1340, 45, 1341, 1342, 130, 1343, 1323, 131, 1344, 1345, 1346, 1347, 1348, 1349, 1350, 1351, 1037, 1038, 100, 1039, 954, 1040, 1041, 1042, 1043, 949, 1044, 1352, 1353, 1354, 1355, 1282, 1356, 1357, 132, 1358, 1359, 1360, 1361, 1362, 1363, 355, 352, 356, 1364, 1047, 1048, 1049, 1365, 907, 908, 909, 1366, 435, 436, 437, 1367, 751, 752, 753, 754, 755, 756, 757, 758, 69, 759, 72, 71, 760, 761, 68, 1368, 1679, 1680, 1681, 1682, 1683, 1684, 1685, 1686, 1687, 1688, 1689, 1690, 1691, 1760, 1761, 1762, 1763, 1764, 1765, 1766, 1767, 1768, 1769, 1770, 1771, 1772, 1773, 1774, 1775, 1776, 1777, 1739, 1740, 1741, 1742, 1743, 1744, 1745, 1746, 1747, 1748, 1749, 1750, 1788, 1789, 1790, 1791, 1792, 1793, 1794, 1795, 1805, 1806, 1807, 1808, 1809, 1810, 1811, 1812, 1813] (by decide +kernel) (by decide +kernel)
set_option maxRecDepth 20000 in
theorem gL_law_X11_questions : GoodIn wsL_law (wsV RL 87 RX11 yX11_questions wsX11_questions) := goodIn_app (goodIn_of _ (by decide +kernel)) ggL_law_X11_questions
set_option maxRecDepth 20000 in
theorem ggL_law_X12_questions : GoodIn wsL_law wsX12_questions := goodIn_r _ [1372, 1373, 175, 914, 169, 984, 985, 986, 5, 987, 529, 530, 531, 988, 989, 990, 991, 1133, 1134, 1135, 1136, 1374, 1375, 1376, 1377, 1378, 1379, 1380, 1381, 1382, 1383, 1384, 1385, 1137, 1138, 1139, 1140, 171, 741, 742, 743, 744, 915, 916, 917, 918, 919, 920, 921, 922, 172, 789, 790, 791, 923, 924, 925, 926, 770, 771, 772, 773, 785, 786, 787, 788, 927, 928, 929, 930, 777, 778, 779, 780, 781, 782, 783, 784, 792, 793, 794, 795, 170, 796, 797, 798, 799, 1692, 1693, 1694, 1695, 1696, 1697, 1698, 1699, 1700, 1701, 1702, 1703, 1704, 1705, 1706, 1707, 1708, 1709, 1710, 1711, 1712, 1713, 1714, 1715, 1716, 1717, 1718, 1719, 1720, 1721, 1722, 1723, 1724, 1725, 1726, 1727, 1728, 1729, 1730, 1731, 1732, 1733] (by decide +kernel) (by decide +kernel)
set_option maxRecDepth 20000 in
theorem gL_law_X12_questions : GoodIn wsL_law (wsV RL 90 RX12 yX12_questions wsX12_questions) := goodIn_app (goodIn_of _ (by decide +kernel)) ggL_law_X12_questions
set_option maxRecDepth 20000 in
theorem ggL_law_X11_cheap : GoodIn wsL_law wsX11_cheap := goodIn_r _ [1389, 31, 217, 724, 725, 726, 18, 727, 224, 1390, 1391, 1392, 1393, 1394, 1395, 1396, 1397, 1398, 729, 730, 731, 67, 1679, 1680, 1681, 1682, 1683, 1684, 1685, 1686, 1687, 1688, 1689, 1690, 1691, 1760, 1761, 1762, 1763, 1764, 1765, 1766, 1767, 1768, 1769, 1770, 1771, 1772, 1773, 1739, 1740, 1741, 1742, 1743, 1744, 1745, 1746, 1747, 1748, 1749, 1750] (by decide +kernel) (by decide +kernel)
set_option maxRecDepth 20000 in
theorem gL_law_X11_cheap : GoodIn wsL_law (wsV RL 91 RX11 yX11_cheap wsX11_cheap) := goodIn_app (goodIn_of _ (by decide +kernel)) ggL_law_X11_cheap
set_option maxRecDepth 20000 in
theorem ggL_law_X12_cheap : GoodIn wsL_law wsX12_cheap := goodIn_r _ [1402, 737, 738, 739, 5, 740, 169, 1403, 1404, 1405, 1406, 741, 742, 743, 744, 1692, 1693, 1694, 1695, 1696, 1697, 1698, 1699, 1700, 1701, 1702, 1703, 1704, 1705, 1706, 1707, 1708, 1709, 1710, 1711, 1712, 1713, 1714, 1715, 1716, 1717, 1718, 1719, 1720, 1721, 1722, 1723, 1724, 1725, 1726, 1727, 1728, 1729, 1730, 1731, 1732, 1733] (by decide +kernel) (by decide +kernel)
set_option maxRecDepth 20000 in
theorem gL_law_X12_cheap : GoodIn wsL_law (wsV RL 94 RX12 yX12_cheap wsX12_cheap) := goodIn_app (goodIn_of _ (by decide +kernel)) ggL_law_X12_cheap
set_option maxRecDepth 20000 in
theorem ggL_law_X11_wrong : GoodIn wsL_law wsX11_wrong := goodIn_r _ [1410, 31, 217, 218, 809, 810, 811, 30, 812, 90, 813, 1411, 1412, 1413, 18, 1414, 1415, 1391, 1392, 1393, 1394, 1395, 1396, 1397, 1398, 729, 730, 731, 67, 1679, 1680, 1681, 1682, 1683, 1684, 1685, 1686, 1687, 1688, 1689, 1690, 1691, 1760, 1761, 1762, 1763, 1764, 1765, 1766, 1767, 1768, 1769, 1770, 1771, 1772, 1773, 1739, 1740, 1741, 1742, 1743, 1744, 1745, 1746, 1747, 1748, 1749, 1750] (by decide +kernel) (by decide +kernel)
set_option maxRecDepth 20000 in
theorem gL_law_X11_wrong : GoodIn wsL_law (wsV RL 95 RX11 yX11_wrong wsX11_wrong) := goodIn_app (goodIn_of _ (by decide +kernel)) ggL_law_X11_wrong
set_option maxRecDepth 20000 in
theorem ggL_law_X12_wrong : GoodIn wsL_law wsX12_wrong := goodIn_r _ [1419, 983, 169, 823, 824, 825, 5, 826, 529, 530, 531, 741, 742, 743, 744, 1403, 1404, 1405, 1406, 1692, 1693, 1694, 1695, 1696, 1697, 1698, 1699, 1700, 1701, 1702, 1703, 1704, 1705, 1706, 1707, 1708, 1709, 1710, 1711, 1712, 1713, 1714, 1715, 1716, 1717, 1718, 1719, 1720, 1721, 1722, 1723, 1724, 1725, 1726, 1727, 1728, 1729, 1730, 1731, 1732, 1733] (by decide +kernel) (by decide +kernel)
set_option maxRecDepth 20000 in
theorem gL_law_X12_wrong : GoodIn wsL_law (wsV RL 98 RX12 yX12_wrong wsX12_wrong) := goodIn_app (goodIn_of _ (by decide +kernel)) ggL_law_X12_wrong
set_option maxRecDepth 20000 in
theorem ggL_law_X11_errand : GoodIn wsL_law wsX11_errand := goodIn_r _ [1423, 31, 1424, 1425, 1426, 859, 860, 861, 2, 862, 217, 863, 1679, 1680, 1681, 1682, 1683, 1684, 1685, 1686, 1687, 1688, 1689, 1690, 1691, 1760, 1761, 1762, 1763, 1764, 1765, 1766, 1767, 1768, 1769, 1770, 1771, 1772, 1773, 1739, 1740, 1741, 1742, 1743, 1744, 1745, 1746, 1747, 1748, 1749, 1750] (by decide +kernel) (by decide +kernel)
set_option maxRecDepth 20000 in
theorem gL_law_X11_errand : GoodIn wsL_law (wsV RL 99 RX11 yX11_errand wsX11_errand) := goodIn_app (goodIn_of _ (by decide +kernel)) ggL_law_X11_errand
set_option maxRecDepth 20000 in
theorem ggL_law_X12_errand : GoodIn wsL_law wsX12_errand := goodIn_r _ [1430, 169, 766, 767, 768, 5, 769, 1692, 1693, 1694, 1695, 1696, 1697, 1698, 1699, 1700, 1701, 1702, 1703, 1704, 1705, 1706, 1707, 1708, 1709, 1710, 1711, 1712, 1713, 1714, 1715, 1716, 1717, 1718, 1719, 1720, 1721, 1722, 1723, 1724, 1725, 1726, 1727, 1728, 1729, 1730, 1731, 1732, 1733] (by decide +kernel) (by decide +kernel)
set_option maxRecDepth 20000 in
theorem gL_law_X12_errand : GoodIn wsL_law (wsV RL 102 RX12 yX12_errand wsX12_errand) := goodIn_app (goodIn_of _ (by decide +kernel)) ggL_law_X12_errand
set_option maxRecDepth 20000 in
theorem ggL_law_X11_ways : GoodIn wsL_law wsX11_ways := goodIn_r _ [1434, 31, 54, 809, 810, 811, 30, 812, 90, 813, 806, 807, 2, 808, 1435, 1436, 1437, 53, 1438, 1439, 152, 1440, 148, 1441, 729, 730, 18, 731, 67, 1442, 1443, 1444, 1445, 150, 1446, 1447, 1448, 1449, 1450, 149, 1451, 1452, 1453, 1454, 1455, 1456, 1457, 1458, 1459, 1460, 1461, 1462, 1463, 1464, 1465, 1466, 1467, 1468, 1469, 1470, 1471, 1472, 1473, 1474, 1475, 1476, 1477, 1478, 1679, 1680, 1681, 1682, 1683, 1684, 1685, 1686, 1687, 1688, 1689, 1690, 1691, 1760, 1761, 1762, 1763, 1764, 1765, 1766, 1767, 1768, 1769, 1770, 1771, 1772, 1773, 1739, 1740, 1741, 1742, 1743, 1744, 1745, 1746, 1747, 1748, 1749, 1750, 1800, 1801, 1802, 1803, 1804] (by decide +kernel) (by decide +kernel)
set_option maxRecDepth 20000 in
theorem gL_law_X11_ways : GoodIn wsL_law (wsV RL 103 RX11 yX11_ways wsX11_ways) := goodIn_app (goodIn_of _ (by decide +kernel)) ggL_law_X11_ways
set_option maxRecDepth 20000 in
theorem ggL_law_X12_ways : GoodIn wsL_law wsX12_ways := goodIn_r _ [1482, 822, 169, 178, 823, 824, 825, 5, 826, 529, 530, 531, 741, 742, 743, 744, 1483, 1484, 1485, 1486, 1487, 1488, 1489, 1490, 789, 790, 791, 1491, 1492, 1493, 1494, 1495, 1496, 1497, 1692, 1693, 1694, 1695, 1696, 1697, 1698, 1699, 1700, 1701, 1702, 1703, 1704, 1705, 1706, 1707, 1708, 1709, 1710, 1711, 1712, 1713, 1714, 1715, 1716, 1717, 1718, 1719, 1720, 1721, 1722, 1723, 1724, 1725, 1726, 1727, 1728, 1729, 1730, 1731, 1732, 1733] (by decide +kernel) (by decide +kernel)
set_option maxRecDepth 20000 in
theorem gL_law_X12_ways : GoodIn wsL_law (wsV RL 106 RX12 yX12_ways wsX12_ways) := goodIn_app (goodIn_of _ (by decide +kernel)) ggL_law_X12_ways
set_option maxRecDepth 20000 in
theorem ggL_law_X11_sight : GoodIn wsL_law wsX11_sight := goodIn_r _ [1501, 31, 1502, 217, 1503, 1504, 724, 725, 726, 18, 727, 224, 835, 836, 2, 837, 1679, 1680, 1681, 1682, 1683, 1684, 1685, 1686, 1687, 1688, 1689, 1690, 1691, 1760, 1761, 1762, 1763, 1764, 1765, 1766, 1767, 1768, 1769, 1770, 1771, 1772, 1773, 1739, 1740, 1741, 1742, 1743, 1744, 1745, 1746, 1747, 1748, 1749, 1750] (by decide +kernel) (by decide +kernel)
set_option maxRecDepth 20000 in
theorem gL_law_X11_sight : GoodIn wsL_law (wsV RL 107 RX11 yX11_sight wsX11_sight) := goodIn_app (goodIn_of _ (by decide +kernel)) ggL_law_X11_sight
set_option maxRecDepth 20000 in
theorem ggL_law_X12_sight : GoodIn wsL_law wsX12_sight := goodIn_r _ [1508, 169, 842, 737, 738, 739, 5, 740, 529, 530, 531, 1692, 1693, 1694, 1695, 1696, 1697, 1698, 1699, 1700, 1701, 1702, 1703, 1704, 1705, 1706, 1707, 1708, 1709, 1710, 1711, 1712, 1713, 1714, 1715, 1716, 1717, 1718, 1719, 1720, 1721, 1722, 1723, 1724, 1725, 1726, 1727, 1728, 1729, 1730, 1731, 1732, 1733] (by decide +kernel) (by decide +kernel)
set_option maxRecDepth 20000 in
theorem gL_law_X12_sight : GoodIn wsL_law (wsV RL 110 RX12 yX12_sight wsX12_sight) := goodIn_app (goodIn_of _ (by decide +kernel)) ggL_law_X12_sight
