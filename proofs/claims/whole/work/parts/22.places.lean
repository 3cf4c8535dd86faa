/-! CHECKS of the tables, by program (wip/tools/checks.py): places among the tables' words -/
def mx_ : Nat × Nat × Nat × Nat × Nat := (303, 304, 474, 475, 72)
def I_RJ13 : mIx := ([], [], [], [(314, 1125), (316, 1126), (318, 1127)], [])
set_option maxRecDepth 100000 in
theorem pk_RJ13 : poolB RJ13 P_RJ13 I_RJ13 M_ mx_ = true := by decide +kernel
def I_RX0 : mIx := ([(9, 132), (15, 133), (19, 134), (22, 135), (25, 136), (28, 137), (31, 1240), (37, 1188)], [], [], [], [(40, 772), (44, 781), (48, 784)])
set_option maxRecDepth 100000 in
theorem pk_RX0 : poolB RX0 P_RX0 I_RX0 M_ mx_ = true := by decide +kernel
def I_RX1 : mIx := ([(9, 974)], [], [], [], [(15, 302), (21, 1122), (27, 305)])
set_option maxRecDepth 100000 in
theorem pk_RX1 : poolB RX1 P_RX1 I_RX1 M_ mx_ = true := by decide +kernel
def I_RX2 : mIx := ([(12, 161), (18, 163), (22, 164), (25, 165), (29, 166), (47, 1243)], [(45, 339)], [], [], [(57, 745)])
set_option maxRecDepth 100000 in
theorem pk_RX2 : poolB RX2 P_RX2 I_RX2 M_ mx_ = true := by decide +kernel
def I_RX3 : mIx := ([(18, 982), (21, 984), (25, 985), (28, 986), (32, 987), (35, 988), (38, 989)], [], [], [], [(44, 295), (48, 1149), (52, 1162), (56, 924), (60, 928), (64, 932), (67, 936), (71, 321), (77, 326)])
set_option maxRecDepth 100000 in
theorem pk_RX3 : poolB RX3 P_RX3 I_RX3 M_ mx_ = true := by decide +kernel
def I_RX4 : mIx := ([(9, 1247), (15, 1249), (19, 1250), (26, 1242), (30, 1245)], [], [], [], [(33, 856), (39, 857), (42, 862)])
set_option maxRecDepth 100000 in
theorem pk_RX4 : poolB RX4 P_RX4 I_RX4 M_ mx_ = true := by decide +kernel
def I_RX5 : mIx := ([(9, 1186), (15, 1187)], [], [], [], [])
set_option maxRecDepth 100000 in
theorem pk_RX5 : poolB RX5 P_RX5 I_RX5 M_ mx_ = true := by decide +kernel
def I_RX6 : mIx := ([(10, 178), (16, 179), (19, 180), (25, 181), (32, 182), (36, 183), (40, 184), (43, 185), (88, 1244), (95, 1248), (148, 981), (190, 983), (225, 1189), (228, 1191), (321, 1241), (338, 1246), (361, 979), (387, 138), (393, 162)], [(82, 253), (103, 274), (218, 1180)], [], [], [(58, 908), (66, 912), (69, 916), (84, 258), (91, 262), (99, 816), (105, 920), (116, 1045), (120, 1052), (123, 1056), (126, 1060), (132, 1062), (136, 1071), (142, 1091), (152, 1107), (156, 309), (160, 283), (163, 287), (166, 1118), (171, 1129), (180, 1143), (185, 1145), (193, 1158), (198, 1171), (199, 270), (221, 1206), (234, 1212), (239, 1224), (244, 1229), (253, 1272), (257, 1277), (261, 1281), (266, 275), (275, 266), (278, 792), (281, 808), (287, 844), (290, 764), (296, 211), (299, 254), (302, 331), (305, 741), (308, 749), (312, 828), (331, 852), (335, 796), (341, 812), (344, 800), (347, 788), (350, 279), (353, 291), (357, 298), (364, 313), (368, 317), (371, 322), (375, 768), (378, 773), (381, 777), (384, 804), (390, 752), (396, 756), (399, 760), (402, 820), (405, 824), (408, 832), (413, 1376), (416, 867), (419, 876), (431, 848), (435, 863), (438, 858), (441, 871), (445, 875)])
set_option maxRecDepth 100000 in
theorem pk_RX6 : poolB RX6 P_RX6 I_RX6 M_ mx_ = true := by decide +kernel
def I_RX7 : mIx := ([(7, 1459), (13, 1460), (16, 1462), (20, 1463), (23, 1464), (26, 1465), (29, 1466), (33, 1467), (36, 1468), (39, 1469), (42, 1470), (45, 1471), (48, 1472), (51, 1473), (54, 1474), (57, 1475), (60, 1476), (63, 1477), (66, 1478), (69, 1479), (72, 1480), (75, 1481), (78, 1482), (81, 1483), (84, 1484), (87, 1485), (90, 1486), (93, 1454), (96, 1455), (103, 1457), (106, 1458), (141, 1456), (179, 1461)], [], [(201, 1736)], [], [(99, 1563), (109, 1566), (113, 1570), (117, 1574), (121, 1578), (125, 1617), (128, 1641), (131, 1598), (135, 1586), (138, 1590), (144, 1681), (147, 1606), (151, 1614), (155, 1610), (159, 1594), (163, 1602), (166, 1582), (170, 1693), (173, 1697), (176, 1709), (182, 1721), (186, 1717), (189, 1741), (192, 1729), (195, 1733), (202, 1737), (205, 1781)])
set_option maxRecDepth 100000 in
theorem pk_RX7 : poolB RX7 P_RX7 I_RX7 M_ mx_ = true := by decide +kernel
set_option maxRecDepth 100000 in
theorem tk_RX6_0 : thrB RX6 (46, 50, 1) (889, 67, [64, 375, 384, 392, 395, 397, 376, 377, 98, 99, 378, 383, 393, 644, 365, 645, 367, 646, 369, 379, 381, 371, 640, 641, 643, 371, 631, 632, 633, 634, 357, 634, 635, 636, 637, 359, 637, 638, 639, 640, 361, 891, 616, 617, 618, 388, 619, 620, 621, 622, 374, 373, 623]) = true := by decide +kernel
set_option maxRecDepth 100000 in
theorem tk_RX6_1 : thrB RX6 (53, 57, 2) (892, 68, [64, 375, 384, 392, 395, 397, 376, 377, 98, 99, 378, 383, 393, 644, 365, 645, 367, 646, 369, 379, 381, 371, 640, 641, 643, 371, 903, 904, 905, 634, 357, 634, 635, 636, 637, 359, 637, 638, 639, 640, 361, 902, 893, 894, 895, 389, 896, 897, 898, 899, 374, 373, 900]) = true := by decide +kernel
set_option maxRecDepth 100000 in
theorem tk_RX6_2 : thrB RX6 (202, 206, 3) (1049, 77, [64, 375, 384, 392, 395, 397, 376, 377, 98, 99, 378, 383, 393, 644, 365, 645, 367, 646, 369, 379, 381, 371, 640, 641, 643, 371, 680, 681, 682, 634, 357, 634, 635, 636, 637, 359, 637, 638, 639, 640, 361, 1051, 354, 355, 362, 363, 364, 366, 368, 370, 374, 373, 372]) = true := by decide +kernel
set_option maxRecDepth 100000 in
theorem tk_RX6_3 : thrB RX6 (211, 215, 4) (1074, 80, [64, 375, 384, 392, 395, 397, 376, 377, 98, 99, 378, 383, 393, 644, 365, 645, 367, 646, 369, 379, 381, 371, 640, 641, 643, 371, 1085, 1086, 1087, 634, 357, 634, 635, 636, 637, 359, 637, 638, 639, 640, 361, 1084, 1075, 1076, 1077, 391, 1078, 1079, 1080, 1081, 374, 373, 1082]) = true := by decide +kernel
set_option maxRecDepth 100000 in
theorem tk_RX6_4 : thrB RX6 (270, 274, 5) (1286, 85, [64, 375, 384, 392, 395, 397, 376, 377, 98, 99, 378, 383, 393, 644, 365, 645, 367, 646, 369, 379, 381, 371, 640, 641, 643, 371, 1297, 1298, 1299, 634, 357, 634, 635, 636, 637, 359, 637, 638, 639, 640, 361, 1296, 1287, 1288, 1289, 390, 1290, 1291, 1292, 1293, 374, 373, 1294]) = true := by decide +kernel
set_option maxRecDepth 100000 in
theorem tk_RX6_5 : thrB RX6 (424, 428, 6) (1437, 91, [64, 375, 384, 392, 395, 397, 376, 377, 98, 99, 378, 383, 393, 644, 365, 645, 367, 646, 369, 379, 381, 371, 640, 641, 643, 371, 1421, 1422, 1423, 634, 357, 634, 635, 636, 637, 359, 637, 638, 639, 640, 361, 1439, 1420, 1431, 1432, 386, 1426, 1427, 1429, 1425, 374, 373, 1424]) = true := by decide +kernel
set_option maxRecDepth 100000 in
theorem mk_1 : methB q_1 (1558, 63, 1556, 1557) = true := by decide +kernel
set_option maxRecDepth 100000 in
theorem mk_2 : methB q_2 (1569, 63, 1568, 32) = true := by decide +kernel
set_option maxRecDepth 100000 in
theorem mk_3 : methB q_3 (1565, 63, 1564, 0) = true := by decide +kernel
set_option maxRecDepth 100000 in
theorem mk_4 : methB q_4 (1644, 63, 1643, 45) = true := by decide +kernel
set_option maxRecDepth 100000 in
theorem mk_5 : methB q_5 (1696, 63, 1695, 47) = true := by decide +kernel
set_option maxRecDepth 100000 in
theorem mk_6 : methB q_6 (1573, 63, 1572, 33) = true := by decide +kernel
set_option maxRecDepth 100000 in
theorem mk_7 : methB q_7 (1577, 63, 1576, 34) = true := by decide +kernel
set_option maxRecDepth 100000 in
theorem mk_8 : methB q_8 (1562, 63, 1560, 1561) = true := by decide +kernel
set_option maxRecDepth 100000 in
theorem mk_9 : methB q_9 (1624, 63, 1622, 1623) = true := by decide +kernel
set_option maxRecDepth 100000 in
theorem mk_10 : methB q_10 (1628, 63, 1626, 1627) = true := by decide +kernel
set_option maxRecDepth 100000 in
theorem mk_11 : methB q_11 (1632, 63, 1630, 1631) = true := by decide +kernel
set_option maxRecDepth 100000 in
theorem mk_12 : methB q_12 (1636, 63, 1634, 1635) = true := by decide +kernel
set_option maxRecDepth 100000 in
theorem mk_13 : methB q_13 (1640, 63, 1638, 1639) = true := by decide +kernel
set_option maxRecDepth 100000 in
theorem mk_14 : methB q_14 (1648, 63, 1646, 1647) = true := by decide +kernel
set_option maxRecDepth 100000 in
theorem mk_15 : methB q_15 (1652, 63, 1650, 1651) = true := by decide +kernel
set_option maxRecDepth 100000 in
theorem mk_16 : methB q_16 (1601, 63, 1600, 40) = true := by decide +kernel
set_option maxRecDepth 100000 in
theorem mk_17 : methB q_17 (1589, 63, 1588, 37) = true := by decide +kernel
set_option maxRecDepth 100000 in
theorem mk_18 : methB q_18 (1593, 63, 1592, 38) = true := by decide +kernel
set_option maxRecDepth 100000 in
theorem mk_19 : methB q_19 (1656, 63, 1654, 1655) = true := by decide +kernel
set_option maxRecDepth 100000 in
theorem mk_20 : methB q_20 (1660, 63, 1658, 1659) = true := by decide +kernel
set_option maxRecDepth 100000 in
theorem mk_21 : methB q_21 (1664, 63, 1662, 1663) = true := by decide +kernel
set_option maxRecDepth 100000 in
theorem mk_22 : methB q_22 (1668, 63, 1666, 1667) = true := by decide +kernel
set_option maxRecDepth 100000 in
theorem mk_23 : methB q_23 (1672, 63, 1670, 1671) = true := by decide +kernel
set_option maxRecDepth 100000 in
theorem mk_24 : methB q_24 (1676, 63, 1674, 1675) = true := by decide +kernel
set_option maxRecDepth 100000 in
theorem mk_25 : methB q_25 (1684, 63, 1683, 46) = true := by decide +kernel
set_option maxRecDepth 100000 in
theorem mk_26 : methB q_26 (1680, 63, 1678, 1679) = true := by decide +kernel
set_option maxRecDepth 100000 in
theorem mk_27 : methB q_27 (1688, 63, 1686, 1687) = true := by decide +kernel
set_option maxRecDepth 100000 in
theorem mk_28 : methB q_28 (1597, 63, 1596, 39) = true := by decide +kernel
set_option maxRecDepth 100000 in
theorem mk_29 : methB q_29 (1609, 63, 1608, 42) = true := by decide +kernel
set_option maxRecDepth 100000 in
theorem mk_30 : methB q_30 (1616, 63, 1615, 0) = true := by decide +kernel
set_option maxRecDepth 100000 in
theorem mk_31 : methB q_31 (1613, 63, 1612, 43) = true := by decide +kernel
set_option maxRecDepth 100000 in
theorem mk_32 : methB q_32 (1605, 63, 1604, 41) = true := by decide +kernel
set_option maxRecDepth 100000 in
theorem mk_33 : methB q_33 (1585, 63, 1584, 36) = true := by decide +kernel
set_option maxRecDepth 100000 in
theorem mk_34 : methB q_34 (1581, 63, 1580, 35) = true := by decide +kernel
set_option maxRecDepth 100000 in
theorem mk_35 : methB q_35 (1620, 63, 1619, 44) = true := by decide +kernel
set_option maxRecDepth 100000 in
theorem mk_36 : methB q_36 (1700, 63, 1699, 48) = true := by decide +kernel
set_option maxRecDepth 100000 in
theorem mk_37 : methB q_37 (1692, 63, 1690, 1691) = true := by decide +kernel
set_option maxRecDepth 100000 in
theorem mk_38 : methB q_38 (1704, 63, 1702, 1703) = true := by decide +kernel
set_option maxRecDepth 100000 in
theorem mk_39 : methB q_39 (1712, 63, 1711, 49) = true := by decide +kernel
set_option maxRecDepth 100000 in
theorem mk_40 : methB q_40 (1708, 63, 1706, 1707) = true := by decide +kernel
set_option maxRecDepth 100000 in
theorem mk_41 : methB q_41 (1724, 63, 1723, 51) = true := by decide +kernel
set_option maxRecDepth 100000 in
theorem mk_42 : methB q_42 (1720, 63, 1719, 50) = true := by decide +kernel
set_option maxRecDepth 100000 in
theorem mk_43 : methB q_43 (1716, 63, 1714, 1715) = true := by decide +kernel
set_option maxRecDepth 100000 in
theorem mk_44 : methB q_44 (1735, 63, 1734, 0) = true := by decide +kernel
set_option maxRecDepth 100000 in
theorem mk_45 : methB q_45 (1732, 63, 1731, 52) = true := by decide +kernel
set_option maxRecDepth 100000 in
theorem mk_46 : methB q_46 (1740, 63, 1739, 53) = true := by decide +kernel
set_option maxRecDepth 100000 in
theorem mk_47 : methB q_47 (1744, 63, 1743, 54) = true := by decide +kernel
set_option maxRecDepth 100000 in
theorem mk_48 : methB q_48 (1728, 63, 1726, 1727) = true := by decide +kernel
set_option maxRecDepth 100000 in
theorem mk_49 : methB q_49 (1748, 63, 1746, 1747) = true := by decide +kernel
set_option maxRecDepth 100000 in
theorem mk_50 : methB q_50 (1752, 63, 1750, 1751) = true := by decide +kernel
set_option maxRecDepth 100000 in
theorem mk_51 : methB q_51 (1756, 63, 1754, 1755) = true := by decide +kernel
set_option maxRecDepth 100000 in
theorem mk_52 : methB q_52 (1760, 63, 1758, 1759) = true := by decide +kernel
set_option maxRecDepth 100000 in
theorem mk_53 : methB q_53 (1764, 63, 1762, 1763) = true := by decide +kernel
set_option maxRecDepth 100000 in
theorem mk_54 : methB q_54 (1768, 63, 1766, 1767) = true := by decide +kernel
set_option maxRecDepth 100000 in
theorem mk_55 : methB q_55 (1772, 63, 1770, 1771) = true := by decide +kernel
set_option maxRecDepth 100000 in
theorem mk_56 : methB q_56 (1776, 63, 1774, 1775) = true := by decide +kernel
set_option maxRecDepth 100000 in
theorem mk_57 : methB q_57 (1784, 63, 1783, 55) = true := by decide +kernel
set_option maxRecDepth 100000 in
theorem mk_58 : methB q_58 (1780, 63, 1778, 1779) = true := by decide +kernel
set_option maxRecDepth 100000 in
theorem mk_59 : methB q_59 (1788, 63, 1786, 1787) = true := by decide +kernel
set_option maxRecDepth 100000 in
theorem mk_60 : methB q_60 (1792, 63, 1790, 1791) = true := by decide +kernel
set_option maxRecDepth 100000 in
theorem mk_61 : methB q_61 (1796, 63, 1794, 1795) = true := by decide +kernel
set_option maxRecDepth 100000 in
theorem mk_62 : methB q_62 (1800, 63, 1798, 1799) = true := by decide +kernel
set_option maxRecDepth 100000 in
theorem mk_63 : methB q_63 (1804, 63, 1802, 1803) = true := by decide +kernel
set_option maxRecDepth 100000 in
theorem mk_64 : methB q_64 (1808, 63, 1806, 1807) = true := by decide +kernel
set_option maxRecDepth 100000 in
theorem mk_65 : methB q_65 (1812, 63, 1810, 1811) = true := by decide +kernel
set_option maxRecDepth 100000 in
theorem mk_66 : methB q_66 (1110, 73, 1108, 1109) = true := by decide +kernel
set_option maxRecDepth 100000 in
theorem mk_67 : methB q_67 (1132, 73, 1130, 1131) = true := by decide +kernel
set_option maxRecDepth 100000 in
theorem mk_68 : methB q_68 (1121, 73, 1119, 1120) = true := by decide +kernel
set_option maxRecDepth 100000 in
theorem mk_69 : methB q_69 (308, 73, 306, 307) = true := by decide +kernel
set_option maxRecDepth 100000 in
theorem mk_70 : methB q_70 (301, 73, 299, 300) = true := by decide +kernel
set_option maxRecDepth 100000 in
theorem mk_71 : methB q_71 (261, 84, 259, 260) = true := by decide +kernel
set_option maxRecDepth 100000 in
theorem mk_72 : methB q_72 (286, 84, 284, 285) = true := by decide +kernel
set_option maxRecDepth 100000 in
theorem mk_73 : methB q_73 (290, 84, 288, 289) = true := by decide +kernel
set_option maxRecDepth 100000 in
theorem mk_74 : methB q_74 (855, 84, 853, 854) = true := by decide +kernel
set_option maxRecDepth 100000 in
theorem mk_75 : methB q_75 (269, 84, 267, 268) = true := by decide +kernel
set_option maxRecDepth 100000 in
theorem mk_76 : methB q_76 (799, 84, 797, 798) = true := by decide +kernel
set_option maxRecDepth 100000 in
theorem mk_77 : methB q_77 (748, 84, 746, 747) = true := by decide +kernel
set_option maxRecDepth 100000 in
theorem mk_78 : methB q_78 (827, 84, 825, 826) = true := by decide +kernel
set_option maxRecDepth 100000 in
theorem mk_79 : methB q_79 (312, 84, 310, 311) = true := by decide +kernel
set_option maxRecDepth 100000 in
theorem mk_80 : methB q_80 (847, 84, 845, 846) = true := by decide +kernel
set_option maxRecDepth 100000 in
theorem mk_81 : methB q_81 (861, 84, 859, 860) = true := by decide +kernel
set_option maxRecDepth 100000 in
theorem mk_82 : methB q_82 (1215, 83, 1213, 1214) = true := by decide +kernel
set_option maxRecDepth 100000 in
theorem mk_83 : methB q_83 (282, 83, 280, 281) = true := by decide +kernel
set_option maxRecDepth 100000 in
theorem mk_84 : methB q_84 (771, 61, 769, 770) = true := by decide +kernel
set_option maxRecDepth 100000 in
theorem mk_85 : methB q_85 (776, 61, 774, 775) = true := by decide +kernel
set_option maxRecDepth 100000 in
theorem mk_86 : methB q_86 (780, 61, 778, 779) = true := by decide +kernel
set_option maxRecDepth 100000 in
theorem mk_87 : methB q_87 (807, 61, 805, 806) = true := by decide +kernel
set_option maxRecDepth 100000 in
theorem mk_88 : methB q_88 (783, 61, 782, 0) = true := by decide +kernel
set_option maxRecDepth 100000 in
theorem mk_89 : methB q_89 (787, 61, 786, 13) = true := by decide +kernel
set_option maxRecDepth 100000 in
theorem mk_90 : methB q_90 (214, 62, 212, 213) = true := by decide +kernel
set_option maxRecDepth 100000 in
theorem mk_91 : methB q_91 (334, 62, 332, 333) = true := by decide +kernel
set_option maxRecDepth 100000 in
theorem mk_92 : methB q_92 (744, 62, 742, 743) = true := by decide +kernel
set_option maxRecDepth 100000 in
theorem mk_93 : methB q_93 (763, 62, 761, 762) = true := by decide +kernel
set_option maxRecDepth 100000 in
theorem mk_94 : methB q_94 (835, 62, 833, 834) = true := by decide +kernel
set_option maxRecDepth 100000 in
theorem mk_95 : methB q_95 (755, 62, 753, 754) = true := by decide +kernel
set_option maxRecDepth 100000 in
theorem mk_96 : methB q_96 (759, 62, 757, 758) = true := by decide +kernel
set_option maxRecDepth 100000 in
theorem mk_97 : methB q_97 (297, 71, 296, 0) = true := by decide +kernel
set_option maxRecDepth 100000 in
theorem mk_98 : methB q_98 (931, 71, 929, 930) = true := by decide +kernel
set_option maxRecDepth 100000 in
theorem mk_99 : methB q_99 (939, 71, 937, 938) = true := by decide +kernel
set_option maxRecDepth 100000 in
theorem mk_100 : methB q_100 (935, 71, 933, 934) = true := by decide +kernel
set_option maxRecDepth 100000 in
theorem mk_101 : methB q_101 (294, 71, 292, 293) = true := by decide +kernel
set_option maxRecDepth 100000 in
theorem mk_102 : methB q_102 (927, 71, 925, 926) = true := by decide +kernel
set_option maxRecDepth 100000 in
theorem mk_103 : methB q_103 (1148, 71, 1146, 1147) = true := by decide +kernel
set_option maxRecDepth 100000 in
theorem mk_104 : methB q_104 (1161, 71, 1159, 1160) = true := by decide +kernel
set_option maxRecDepth 100000 in
theorem mk_105 : methB q_105 (923, 71, 921, 922) = true := by decide +kernel
set_option maxRecDepth 100000 in
theorem mk_106 : methB q_106 (815, 71, 813, 814) = true := by decide +kernel
set_option maxRecDepth 100000 in
theorem mk_107 : methB q_107 (803, 71, 801, 802) = true := by decide +kernel
set_option maxRecDepth 100000 in
theorem mk_108 : methB q_108 (330, 71, 328, 5) = true := by decide +kernel
set_option maxRecDepth 100000 in
theorem mk_109 : methB q_109 (1379, 71, 1377, 1378) = true := by decide +kernel
set_option maxRecDepth 100000 in
theorem mk_110 : methB q_110 (320, 71, 318, 319) = true := by decide +kernel
set_option maxRecDepth 100000 in
theorem mk_111 : methB q_111 (325, 71, 323, 324) = true := by decide +kernel
set_option maxRecDepth 100000 in
theorem mk_112 : methB q_112 (879, 71, 877, 878) = true := by decide +kernel
set_option maxRecDepth 100000 in
theorem mk_113 : methB q_113 (888, 57, 886, 887) = true := by decide +kernel
set_option maxRecDepth 100000 in
theorem mk_114 : methB q_114 (206, 57, 204, 205) = true := by decide +kernel
set_option maxRecDepth 100000 in
theorem mk_115 : methB q_115 (946, 57, 944, 945) = true := by decide +kernel
set_option maxRecDepth 100000 in
theorem mk_116 : methB q_116 (954, 57, 952, 953) = true := by decide +kernel
set_option maxRecDepth 100000 in
theorem mk_117 : methB q_117 (915, 57, 914, 25) = true := by decide +kernel
set_option maxRecDepth 100000 in
theorem mk_118 : methB q_118 (911, 57, 910, 24) = true := by decide +kernel
set_option maxRecDepth 100000 in
theorem mk_119 : methB q_119 (919, 57, 918, 26) = true := by decide +kernel
set_option maxRecDepth 100000 in
theorem mk_120 : methB q_120 (962, 57, 960, 961) = true := by decide +kernel
set_option maxRecDepth 100000 in
theorem mk_121 : methB q_121 (1044, 57, 1042, 1043) = true := by decide +kernel
set_option maxRecDepth 100000 in
theorem mk_122 : methB q_122 (1070, 57, 1068, 1069) = true := by decide +kernel
set_option maxRecDepth 100000 in
theorem mk_123 : methB q_123 (1098, 57, 1096, 1097) = true := by decide +kernel
set_option maxRecDepth 100000 in
theorem mk_124 : methB q_124 (1105, 57, 1103, 1104) = true := by decide +kernel
set_option maxRecDepth 100000 in
theorem mk_125 : methB q_125 (1117, 57, 1115, 1116) = true := by decide +kernel
set_option maxRecDepth 100000 in
theorem mk_126 : methB q_126 (1139, 57, 1137, 1138) = true := by decide +kernel
set_option maxRecDepth 100000 in
theorem mk_127 : methB q_127 (1156, 57, 1154, 1155) = true := by decide +kernel
set_option maxRecDepth 100000 in
theorem mk_128 : methB q_128 (1169, 57, 1167, 1168) = true := by decide +kernel
set_option maxRecDepth 100000 in
theorem mk_129 : methB q_129 (273, 57, 272, 2) = true := by decide +kernel
set_option maxRecDepth 100000 in
theorem mk_130 : methB q_130 (1048, 57, 1047, 28) = true := by decide +kernel
set_option maxRecDepth 100000 in
theorem mk_131 : methB q_131 (1054, 57, 1053, 0) = true := by decide +kernel
set_option maxRecDepth 100000 in
theorem mk_132 : methB q_132 (1058, 57, 1057, 0) = true := by decide +kernel
set_option maxRecDepth 100000 in
theorem mk_133 : methB q_133 (1073, 57, 1072, 0) = true := by decide +kernel
set_option maxRecDepth 100000 in
theorem mk_134 : methB q_134 (1178, 57, 1176, 1177) = true := by decide +kernel
set_option maxRecDepth 100000 in
theorem mk_135 : methB q_135 (1205, 57, 1203, 1204) = true := by decide +kernel
set_option maxRecDepth 100000 in
theorem mk_136 : methB q_136 (1222, 57, 1220, 1221) = true := by decide +kernel
set_option maxRecDepth 100000 in
theorem mk_137 : methB q_137 (1271, 57, 1269, 1270) = true := by decide +kernel
set_option maxRecDepth 100000 in
theorem mk_138 : methB q_138 (1308, 57, 1306, 1307) = true := by decide +kernel
set_option maxRecDepth 100000 in
theorem mk_139 : methB q_139 (1316, 57, 1314, 1315) = true := by decide +kernel
set_option maxRecDepth 100000 in
theorem mk_140 : methB q_140 (1323, 57, 1321, 1322) = true := by decide +kernel
set_option maxRecDepth 100000 in
theorem mk_141 : methB q_141 (210, 57, 208, 209) = true := by decide +kernel
set_option maxRecDepth 100000 in
theorem mk_142 : methB q_142 (1331, 57, 1329, 1330) = true := by decide +kernel
set_option maxRecDepth 100000 in
theorem mk_143 : methB q_143 (1338, 57, 1336, 1337) = true := by decide +kernel
set_option maxRecDepth 100000 in
theorem mk_144 : methB q_144 (1345, 57, 1343, 1344) = true := by decide +kernel
set_option maxRecDepth 100000 in
theorem mk_145 : methB q_145 (1352, 57, 1350, 1351) = true := by decide +kernel
set_option maxRecDepth 100000 in
theorem mk_146 : methB q_146 (1359, 57, 1357, 1358) = true := by decide +kernel
set_option maxRecDepth 100000 in
theorem mk_147 : methB q_147 (839, 57, 837, 838) = true := by decide +kernel
set_option maxRecDepth 100000 in
theorem mk_148 : methB q_148 (1366, 57, 1364, 1365) = true := by decide +kernel
set_option maxRecDepth 100000 in
theorem mk_149 : methB q_149 (1209, 57, 1208, 29) = true := by decide +kernel
set_option maxRecDepth 100000 in
theorem mk_150 : methB q_150 (1275, 57, 1274, 31) = true := by decide +kernel
set_option maxRecDepth 100000 in
theorem mk_151 : methB q_151 (1279, 57, 1278, 0) = true := by decide +kernel
set_option maxRecDepth 100000 in
theorem mk_152 : methB q_152 (1283, 57, 1282, 0) = true := by decide +kernel
set_option maxRecDepth 100000 in
theorem mk_153 : methB q_153 (1226, 57, 1225, 0) = true := by decide +kernel
set_option maxRecDepth 100000 in
theorem mk_154 : methB q_154 (1232, 57, 1231, 30) = true := by decide +kernel
set_option maxRecDepth 100000 in
theorem mk_155 : methB q_155 (811, 57, 810, 16) = true := by decide +kernel
set_option maxRecDepth 100000 in
theorem mk_156 : methB q_156 (795, 57, 794, 15) = true := by decide +kernel
set_option maxRecDepth 100000 in
theorem mk_157 : methB q_157 (791, 57, 790, 14) = true := by decide +kernel
set_option maxRecDepth 100000 in
theorem mk_158 : methB q_158 (819, 57, 818, 17) = true := by decide +kernel
set_option maxRecDepth 100000 in
theorem mk_159 : methB q_159 (257, 57, 256, 0) = true := by decide +kernel
set_option maxRecDepth 100000 in
theorem mk_160 : methB q_160 (265, 57, 264, 1) = true := by decide +kernel
set_option maxRecDepth 100000 in
theorem mk_161 : methB q_161 (278, 57, 277, 3) = true := by decide +kernel
set_option maxRecDepth 100000 in
theorem mk_162 : methB q_162 (316, 57, 315, 4) = true := by decide +kernel
set_option maxRecDepth 100000 in
theorem mk_163 : methB q_163 (767, 57, 766, 12) = true := by decide +kernel
set_option maxRecDepth 100000 in
theorem mk_164 : methB q_164 (751, 57, 750, 0) = true := by decide +kernel
set_option maxRecDepth 100000 in
theorem mk_165 : methB q_165 (823, 57, 822, 18) = true := by decide +kernel
set_option maxRecDepth 100000 in
theorem mk_166 : methB q_166 (831, 57, 830, 19) = true := by decide +kernel
set_option maxRecDepth 100000 in
theorem mk_167 : methB q_167 (1374, 57, 1372, 1373) = true := by decide +kernel
set_option maxRecDepth 100000 in
theorem mk_168 : methB q_168 (1386, 57, 1384, 1385) = true := by decide +kernel
set_option maxRecDepth 100000 in
theorem mk_169 : methB q_169 (1393, 57, 1391, 1392) = true := by decide +kernel
set_option maxRecDepth 100000 in
theorem mk_170 : methB q_170 (1400, 57, 1398, 1399) = true := by decide +kernel
set_option maxRecDepth 100000 in
theorem mk_171 : methB q_171 (1407, 57, 1405, 1406) = true := by decide +kernel
set_option maxRecDepth 100000 in
theorem mk_172 : methB q_172 (1414, 57, 1412, 1413) = true := by decide +kernel
set_option maxRecDepth 100000 in
theorem mk_173 : methB q_173 (1436, 57, 1434, 1435) = true := by decide +kernel
set_option maxRecDepth 100000 in
theorem mk_174 : methB q_174 (1446, 57, 1444, 1445) = true := by decide +kernel
set_option maxRecDepth 100000 in
theorem mk_175 : methB q_175 (843, 57, 841, 842) = true := by decide +kernel
set_option maxRecDepth 100000 in
theorem mk_176 : methB q_176 (851, 57, 850, 20) = true := by decide +kernel
set_option maxRecDepth 100000 in
theorem mk_177 : methB q_177 (866, 57, 865, 21) = true := by decide +kernel
set_option maxRecDepth 100000 in
theorem mk_178 : methB q_178 (870, 57, 869, 22) = true := by decide +kernel
set_option maxRecDepth 100000 in
theorem mk_179 : methB q_179 (874, 57, 873, 23) = true := by decide +kernel
set_option maxRecDepth 100000 in
theorem mk_180 : methB q_180 (1124, 82, 1123, 0) = true := by decide +kernel
