theorem mK_11_7 : mMw 11 (7, 0, 1, mX9_table) (567, 160, 564, 565, 566) = true := by decide +kernel
theorem mK_11_15 : mMw 11 (15, 0, 2, mX9_die) (763, 160, 760, 761, 762) = true := by decide +kernel
theorem mK_11_21 : mMw 11 (21, 0, 2, mX9_hand) (807, 160, 804, 805, 806) = true := by decide +kernel
theorem mK_11_24 : mMw 11 (24, 0, 1, mX9_salts) (840, 160, 837, 838, 839) = true := by decide +kernel
theorem mK_11_28 : mMw 11 (28, 0, 3, mX9_cast) (853, 160, 850, 851, 852) = true := by decide +kernel
theorem mK_11_34 : mMw 11 (34, 0, 3, mX9_shows) (912, 160, 909, 910, 911) = true := by decide +kernel
theorem mK_11_37 : mMw 11 (37, 0, 1, mX9_back) (930, 160, 927, 928, 929) = true := by decide +kernel
theorem mK_11_40 : mMw 11 (40, 0, 2, mX9_past) (942, 160, 939, 940, 941) = true := by decide +kernel
theorem mK_11_43 : mMw 11 (43, 0, 2, mX9_evening) (953, 160, 950, 951, 952) = true := by decide +kernel
theorem mK_11_46 : mMw 11 (46, 0, 2, mX9_judge) (962, 160, 959, 960, 961) = true := by decide +kernel
theorem mK_11_49 : mMw 11 (49, 0, 1, mX9_perform) (998, 160, 995, 996, 997) = true := by decide +kernel
theorem mK_11_52 : mMw 11 (52, 0, 1, mX9_ants) (1005, 160, 1002, 1003, 1004) = true := by decide +kernel
theorem mK_11_55 : mMw 11 (55, 0, 3, mX9_eaten) (1025, 160, 1022, 1023, 1024) = true := by decide +kernel
theorem mK_11_58 : mMw 11 (58, 0, 1, mX9_lasts) (1039, 160, 1036, 1037, 1038) = true := by decide +kernel
theorem mK_11_61 : mMw 11 (61, 0, 1, mX9_lastFace) (1046, 160, 1043, 1044, 1045) = true := by decide +kernel
theorem mK_11_64 : mMw 11 (64, 0, 1, mX9_rain) (1057, 160, 1054, 1055, 1056) = true := by decide +kernel
theorem mK_11_67 : mMw 11 (67, 0, 1, mX9_fan) (1066, 160, 1063, 1064, 1065) = true := by decide +kernel
theorem mK_11_70 : mMw 11 (70, 0, 1, mX9_whole) (1077, 160, 1074, 1075, 1076) = true := by decide +kernel
theorem mK_11_74 : mMw 11 (74, 0, 2, mX9_sum) (1106, 160, 1103, 1104, 1105) = true := by decide +kernel
theorem mK_11_78 : mMw 11 (78, 0, 2, mX9_least) (1129, 160, 1126, 1127, 1128) = true := by decide +kernel
theorem mK_11_81 : mMw 11 (81, 0, 1, mX9_alike) (1141, 160, 1138, 1139, 1140) = true := by decide +kernel
theorem mK_11_84 : mMw 11 (84, 0, 1, mX9_mode) (1152, 160, 1149, 1150, 1151) = true := by decide +kernel
theorem mK_11_87 : mMw 11 (87, 0, 1, mX9_sums) (1163, 160, 1160, 1161, 1162) = true := by decide +kernel
theorem mK_11_90 : mMw 11 (90, 0, 2, mX9_mean) (1174, 160, 1171, 1172, 1173) = true := by decide +kernel
theorem mK_11_93 : mMw 11 (93, 0, 2, mX9_bestSet) (1186, 160, 1183, 1184, 1185) = true := by decide +kernel
theorem mK_11_96 : mMw 11 (96, 0, 1, mX9_unlike) (1210, 160, 1207, 1208, 1209) = true := by decide +kernel
theorem mK_11_99 : mMw 11 (99, 0, 1, mX9_run) (1228, 160, 1225, 1226, 1227) = true := by decide +kernel
theorem mK_11_102 : mMw 11 (102, 0, 1, mX9_cannot) (1235, 160, 1232, 1233, 1234) = true := by decide +kernel
theorem mK_11_105 : mMw 11 (105, 0, 3, mX9_once) (1242, 160, 1239, 1240, 1241) = true := by decide +kernel
theorem mK_11_109 : mMw 11 (109, 0, 2, mX9_allFaces) (1257, 160, 1254, 1255, 1256) = true := by decide +kernel
theorem mK_11_112 : mMw 11 (112, 0, 4, mX9_coins) (1268, 160, 1265, 1266, 1267) = true := by decide +kernel
theorem mK_11_116 : mMw 11 (116, 0, 2, mX9_beats) (1279, 160, 1276, 1277, 1278) = true := by decide +kernel
theorem mK_11_119 : mMw 11 (119, 0, 2, mX9_ties) (1291, 160, 1288, 1289, 1290) = true := by decide +kernel
theorem mK_11_122 : mMw 11 (122, 0, 3, mX9_series) (1302, 160, 1299, 1300, 1301) = true := by decide +kernel
theorem mK_11_125 : mMw 11 (125, 0, 3, mX9_more) (1312, 160, 1309, 1310, 1311) = true := by decide +kernel
theorem mK_11_128 : mMw 11 (128, 0, 3, mX9_stopping) (1327, 160, 1324, 1325, 1326) = true := by decide +kernel
theorem mK_11_131 : mMw 11 (131, 0, 1, mX9_likelier) (1348, 160, 1345, 1346, 1347) = true := by decide +kernel
theorem mK_11_134 : mMw 11 (134, 0, 1, mX9_fits) (1377, 160, 1374, 1375, 1376) = true := by decide +kernel
theorem mK_11_137 : mMw 11 (137, 0, 4, mX9_worn) (1388, 160, 1385, 1386, 1387) = true := by decide +kernel
theorem mK_11_141 : mMw 11 (141, 0, 2, mX9_tally) (1411, 160, 1408, 1409, 1410) = true := by decide +kernel
theorem mK_11_144 : mMw 11 (144, 0, 1, mX9_streak) (1419, 160, 1416, 1417, 1418) = true := by decide +kernel
theorem mK_11_147 : mMw 11 (147, 0, 1, mX9_off) (1431, 160, 1428, 1429, 1430) = true := by decide +kernel
theorem mK_11_150 : mMw 11 (150, 0, 3, mX9_tray) (1439, 160, 1436, 1437, 1438) = true := by decide +kernel
theorem mK_11_154 : mMw 11 (154, 0, 3, mX9_write) (1452, 160, 1449, 1450, 1451) = true := by decide +kernel
theorem mK_11_160 : mMw 11 (160, 0, 1, mX9_pour) (1483, 160, 1480, 1481, 1482) = true := by decide +kernel
theorem mK_11_163 : mMw 11 (163, 0, 1, mX9_image) (1491, 160, 1488, 1489, 1490) = true := by decide +kernel
theorem mK_11_167 : mMw 11 (167, 0, 1, mX9_restore) (1507, 160, 1504, 1505, 1506) = true := by decide +kernel
theorem mK_11_174 : mMw 11 (174, 0, 5, mX9_feed) (427, 160, 424, 425, 426) = true := by decide +kernel
theorem mK_11_178 : mMw 11 (178, 0, 5, mX10_feed) (1608, 170, 1605, 1606, 1607) = true := by decide +kernel
theorem mK_11_184 : mMw 11 (184, 0, 1, mX10_table) (1612, 170, 1609, 1610, 1611) = true := by decide +kernel
theorem mK_11_185 : mMw 11 (185, 0, 0, mX10_thrown) (1604, 170, 1601, 1602, 1603) = true := by decide +kernel
theorem mK_11_189 : mMw 11 (189, 0, 1, mX9_fault) (439, 160, 436, 437, 438) = true := by decide +kernel
theorem mK_11_192 : mMw 11 (192, 0, 1, mX10_fault) (1671, 170, 1668, 1669, 1670) = true := by decide +kernel
theorem mK_11_196 : mMw 11 (196, 0, 2, mX10_die) (1675, 170, 1672, 1673, 1674) = true := by decide +kernel
theorem mK_11_199 : mMw 11 (199, 0, 2, mX10_hand) (1716, 170, 1713, 1714, 1715) = true := by decide +kernel
theorem mK_11_202 : mMw 11 (202, 0, 1, mX10_salts) (1729, 170, 1726, 1727, 1728) = true := by decide +kernel
theorem mK_11_206 : mMw 11 (206, 0, 3, mX10_cast) (1733, 170, 1730, 1731, 1732) = true := by decide +kernel
theorem mK_11_209 : mMw 11 (209, 0, 3, mX10_shows) (1752, 170, 1749, 1750, 1751) = true := by decide +kernel
theorem mK_11_212 : mMw 11 (212, 0, 1, mX10_back) (1760, 170, 1757, 1758, 1759) = true := by decide +kernel
theorem mK_11_215 : mMw 11 (215, 0, 2, mX10_past) (1764, 170, 1761, 1762, 1763) = true := by decide +kernel
theorem mK_11_218 : mMw 11 (218, 0, 2, mX10_evening) (1768, 170, 1765, 1766, 1767) = true := by decide +kernel
theorem mK_11_221 : mMw 11 (221, 0, 2, mX10_judge) (1773, 170, 1770, 1771, 1772) = true := by decide +kernel
theorem mK_11_224 : mMw 11 (224, 0, 1, mX10_perform) (1801, 170, 1798, 1799, 1800) = true := by decide +kernel
theorem mK_11_227 : mMw 11 (227, 0, 1, mX10_ants) (1805, 170, 1802, 1803, 1804) = true := by decide +kernel
theorem mK_11_230 : mMw 11 (230, 0, 3, mX10_eaten) (1818, 170, 1815, 1816, 1817) = true := by decide +kernel
theorem mK_11_233 : mMw 11 (233, 0, 1, mX10_lasts) (1830, 170, 1827, 1828, 1829) = true := by decide +kernel
theorem mK_11_236 : mMw 11 (236, 0, 1, mX10_lastFace) (1834, 170, 1831, 1832, 1833) = true := by decide +kernel
theorem mK_11_239 : mMw 11 (239, 0, 1, mX10_rain) (1838, 170, 1835, 1836, 1837) = true := by decide +kernel
theorem mK_11_242 : mMw 11 (242, 0, 1, mX10_fan) (1843, 170, 1840, 1841, 1842) = true := by decide +kernel
theorem mK_11_243 : mMw 11 (243, 0, 1, mX9_lot) (443, 160, 440, 441, 442) = true := by decide +kernel
theorem mK_11_246 : mMw 11 (246, 0, 1, mX10_lot) (1847, 170, 1844, 1845, 1846) = true := by decide +kernel
theorem mK_11_249 : mMw 11 (249, 0, 1, mX10_whole) (1851, 170, 1848, 1849, 1850) = true := by decide +kernel
theorem mK_11_252 : mMw 11 (252, 0, 2, mX10_sum) (1866, 170, 1863, 1864, 1865) = true := by decide +kernel
theorem mK_11_255 : mMw 11 (255, 0, 2, mX10_least) (1875, 170, 1872, 1873, 1874) = true := by decide +kernel
theorem mK_11_258 : mMw 11 (258, 0, 1, mX10_alike) (1883, 170, 1880, 1881, 1882) = true := by decide +kernel
theorem mK_11_261 : mMw 11 (261, 0, 1, mX10_mode) (1887, 170, 1884, 1885, 1886) = true := by decide +kernel
theorem mK_11_264 : mMw 11 (264, 0, 1, mX10_sums) (1891, 170, 1888, 1889, 1890) = true := by decide +kernel
theorem mK_11_267 : mMw 11 (267, 0, 2, mX10_mean) (1895, 170, 1892, 1893, 1894) = true := by decide +kernel
theorem mK_11_270 : mMw 11 (270, 0, 2, mX10_bestSet) (1939, 170, 1936, 1937, 1938) = true := by decide +kernel
theorem mK_11_273 : mMw 11 (273, 0, 1, mX10_unlike) (1899, 170, 1896, 1897, 1898) = true := by decide +kernel
theorem mK_11_276 : mMw 11 (276, 0, 1, mX10_run) (1914, 170, 1911, 1912, 1913) = true := by decide +kernel
theorem mK_11_279 : mMw 11 (279, 0, 1, mX10_cannot) (1918, 170, 1915, 1916, 1917) = true := by decide +kernel
theorem mK_11_282 : mMw 11 (282, 0, 3, mX10_once) (1922, 170, 1919, 1920, 1921) = true := by decide +kernel
theorem mK_11_285 : mMw 11 (285, 0, 2, mX10_allFaces) (1930, 170, 1927, 1928, 1929) = true := by decide +kernel
theorem mK_11_289 : mMw 11 (289, 0, 4, mX10_coins) (1934, 170, 1931, 1932, 1933) = true := by decide +kernel
theorem mK_11_292 : mMw 11 (292, 0, 2, mX10_beats) (1946, 170, 1943, 1944, 1945) = true := by decide +kernel
theorem mK_11_295 : mMw 11 (295, 0, 2, mX10_ties) (1958, 170, 1955, 1956, 1957) = true := by decide +kernel
theorem mK_11_296 : mMw 11 (296, 0, 0, mX9_strongest) (464, 160, 461, 462, 463) = true := by decide +kernel
theorem mK_11_299 : mMw 11 (299, 0, 0, mX10_strongest) (1966, 170, 1963, 1964, 1965) = true := by decide +kernel
theorem mK_11_300 : mMw 11 (300, 0, 1, mX9_ring) (497, 160, 494, 495, 496) = true := by decide +kernel
theorem mK_11_303 : mMw 11 (303, 0, 1, mX10_ring) (1974, 170, 1971, 1972, 1973) = true := by decide +kernel
theorem mK_11_306 : mMw 11 (306, 0, 3, mX10_series) (1982, 170, 1979, 1980, 1981) = true := by decide +kernel
theorem mK_11_309 : mMw 11 (309, 0, 3, mX10_more) (1990, 170, 1987, 1988, 1989) = true := by decide +kernel
theorem mK_11_310 : mMw 11 (310, 0, 0, mX9_evenest) (505, 160, 502, 503, 504) = true := by decide +kernel
theorem mK_11_313 : mMw 11 (313, 0, 0, mX10_evenest) (1998, 170, 1995, 1996, 1997) = true := by decide +kernel
theorem mK_11_316 : mMw 11 (316, 0, 3, mX10_stopping) (2003, 170, 2000, 2001, 2002) = true := by decide +kernel
theorem mK_11_319 : mMw 11 (319, 0, 1, mX10_likelier) (2009, 170, 2006, 2007, 2008) = true := by decide +kernel
theorem mK_11_322 : mMw 11 (322, 0, 1, mX10_fits) (2021, 170, 2018, 2019, 2020) = true := by decide +kernel
theorem mK_11_325 : mMw 11 (325, 0, 4, mX10_worn) (2025, 170, 2022, 2023, 2024) = true := by decide +kernel
theorem mK_11_328 : mMw 11 (328, 0, 2, mX10_tally) (2033, 170, 2030, 2031, 2032) = true := by decide +kernel
theorem mK_11_331 : mMw 11 (331, 0, 1, mX10_streak) (2037, 170, 2034, 2035, 2036) = true := by decide +kernel
theorem mK_11_334 : mMw 11 (334, 0, 1, mX10_off) (2041, 170, 2038, 2039, 2040) = true := by decide +kernel
theorem mK_11_335 : mMw 11 (335, 0, 0, mX9_loaded) (517, 160, 514, 515, 516) = true := by decide +kernel
theorem mK_11_338 : mMw 11 (338, 0, 0, mX10_loaded) (2049, 170, 2046, 2047, 2048) = true := by decide +kernel
theorem mK_11_342 : mMw 11 (342, 0, 3, mX10_tray) (2053, 170, 2050, 2051, 2052) = true := by decide +kernel
theorem mK_11_348 : mMw 11 (348, 0, 3, mX10_write) (2057, 170, 2054, 2055, 2056) = true := by decide +kernel
theorem mK_11_351 : mMw 11 (351, 0, 1, mX10_pour) (2065, 170, 2062, 2063, 2064) = true := by decide +kernel
theorem mK_11_355 : mMw 11 (355, 0, 1, mX10_image) (2069, 170, 2066, 2067, 2068) = true := by decide +kernel
theorem mK_11_358 : mMw 11 (358, 0, 1, mX10_restore) (2073, 170, 2070, 2071, 2072) = true := by decide +kernel
theorem mK_11_359 : mMw 11 (359, 0, 1, mX9_count) (550, 160, 547, 548, 549) = true := by decide +kernel
theorem mK_11_362 : mMw 11 (362, 0, 1, mX10_count) (2077, 170, 2074, 2075, 2076) = true := by decide +kernel
theorem mK_11_179 : mMw 11 (179, 8, 3, mL_table) (562, 159, 560, 561, 0) = true := by decide +kernel
theorem mK_11_193 : mMw 11 (193, 8, 4, mL_die) (758, 159, 756, 757, 0) = true := by decide +kernel
theorem mK_11_197 : mMw 11 (197, 8, 4, mL_hand) (803, 159, 801, 802, 0) = true := by decide +kernel
theorem mK_11_200 : mMw 11 (200, 8, 3, mL_salts) (836, 159, 834, 835, 0) = true := by decide +kernel
theorem mK_11_203 : mMw 11 (203, 8, 5, mL_cast) (848, 159, 846, 847, 0) = true := by decide +kernel
theorem mK_11_207 : mMw 11 (207, 8, 5, mL_shows) (908, 159, 906, 907, 0) = true := by decide +kernel
theorem mK_11_210 : mMw 11 (210, 8, 3, mL_back) (926, 159, 924, 925, 0) = true := by decide +kernel
theorem mK_11_213 : mMw 11 (213, 8, 4, mL_past) (938, 159, 936, 937, 0) = true := by decide +kernel
theorem mK_11_216 : mMw 11 (216, 8, 4, mL_evening) (949, 159, 947, 948, 0) = true := by decide +kernel
theorem mK_11_219 : mMw 11 (219, 8, 4, mL_judge) (958, 159, 956, 957, 0) = true := by decide +kernel
theorem mK_11_222 : mMw 11 (222, 8, 3, mL_perform) (994, 159, 992, 993, 0) = true := by decide +kernel
theorem mK_11_225 : mMw 11 (225, 8, 3, mL_ants) (1001, 159, 999, 1000, 0) = true := by decide +kernel
theorem mK_11_228 : mMw 11 (228, 8, 5, mL_eaten) (1021, 159, 1019, 1020, 0) = true := by decide +kernel
theorem mK_11_231 : mMw 11 (231, 8, 3, mL_lasts) (1035, 159, 1033, 1034, 0) = true := by decide +kernel
theorem mK_11_234 : mMw 11 (234, 8, 3, mL_lastFace) (1042, 159, 1040, 1041, 0) = true := by decide +kernel
theorem mK_11_237 : mMw 11 (237, 8, 3, mL_rain) (1053, 159, 1051, 1052, 0) = true := by decide +kernel
theorem mK_11_240 : mMw 11 (240, 8, 3, mL_fan) (1062, 159, 1060, 1061, 0) = true := by decide +kernel
theorem mK_11_247 : mMw 11 (247, 8, 3, mL_whole) (1073, 159, 1071, 1072, 0) = true := by decide +kernel
theorem mK_11_250 : mMw 11 (250, 8, 4, mL_sum) (1102, 159, 1100, 1101, 0) = true := by decide +kernel
theorem mK_11_253 : mMw 11 (253, 8, 4, mL_least) (1125, 159, 1123, 1124, 0) = true := by decide +kernel
theorem mK_11_256 : mMw 11 (256, 8, 3, mL_alike) (1137, 159, 1135, 1136, 0) = true := by decide +kernel
theorem mK_11_259 : mMw 11 (259, 8, 3, mL_mode) (1148, 159, 1146, 1147, 0) = true := by decide +kernel
theorem mK_11_262 : mMw 11 (262, 8, 3, mL_sums) (1159, 159, 1157, 1158, 0) = true := by decide +kernel
theorem mK_11_265 : mMw 11 (265, 8, 4, mL_mean) (1170, 159, 1168, 1169, 0) = true := by decide +kernel
theorem mK_11_268 : mMw 11 (268, 8, 4, mL_bestSet) (1182, 159, 1180, 1181, 0) = true := by decide +kernel
theorem mK_11_271 : mMw 11 (271, 8, 3, mL_unlike) (1206, 159, 1204, 1205, 0) = true := by decide +kernel
theorem mK_11_274 : mMw 11 (274, 8, 3, mL_run) (1224, 159, 1222, 1223, 0) = true := by decide +kernel
theorem mK_11_277 : mMw 11 (277, 8, 3, mL_cannot) (1231, 159, 1229, 1230, 0) = true := by decide +kernel
theorem mK_11_280 : mMw 11 (280, 8, 5, mL_once) (1238, 159, 1236, 1237, 0) = true := by decide +kernel
theorem mK_11_283 : mMw 11 (283, 8, 4, mL_allFaces) (1253, 159, 1251, 1252, 0) = true := by decide +kernel
theorem mK_11_286 : mMw 11 (286, 8, 6, mL_coins) (1264, 159, 1262, 1263, 0) = true := by decide +kernel
theorem mK_11_290 : mMw 11 (290, 8, 4, mL_beats) (1275, 159, 1273, 1274, 0) = true := by decide +kernel
theorem mK_11_293 : mMw 11 (293, 8, 4, mL_ties) (1287, 159, 1285, 1286, 0) = true := by decide +kernel
theorem mK_11_304 : mMw 11 (304, 8, 5, mL_series) (1298, 159, 1296, 1297, 0) = true := by decide +kernel
theorem mK_11_307 : mMw 11 (307, 8, 5, mL_more) (1308, 159, 1306, 1307, 0) = true := by decide +kernel
theorem mK_11_314 : mMw 11 (314, 8, 5, mL_stopping) (1323, 159, 1321, 1322, 0) = true := by decide +kernel
theorem mK_11_317 : mMw 11 (317, 8, 3, mL_likelier) (1344, 159, 1342, 1343, 0) = true := by decide +kernel
theorem mK_11_320 : mMw 11 (320, 8, 3, mL_fits) (1373, 159, 1371, 1372, 0) = true := by decide +kernel
theorem mK_11_323 : mMw 11 (323, 8, 6, mL_worn) (1384, 159, 1382, 1383, 0) = true := by decide +kernel
theorem mK_11_326 : mMw 11 (326, 8, 4, mL_tally) (1407, 159, 1405, 1406, 0) = true := by decide +kernel
theorem mK_11_329 : mMw 11 (329, 8, 3, mL_streak) (1415, 159, 1413, 1414, 0) = true := by decide +kernel
theorem mK_11_332 : mMw 11 (332, 8, 3, mL_off) (1427, 159, 1425, 1426, 0) = true := by decide +kernel
theorem mK_11_339 : mMw 11 (339, 8, 4, mL_tray) (1435, 159, 1433, 1434, 0) = true := by decide +kernel
theorem mK_11_345 : mMw 11 (345, 8, 5, mL_write) (1447, 159, 1445, 1446, 0) = true := by decide +kernel
theorem mK_11_349 : mMw 11 (349, 8, 3, mL_pour) (1479, 159, 1477, 1478, 0) = true := by decide +kernel
theorem mK_11_352 : mMw 11 (352, 8, 2, mL_image) (1487, 159, 1485, 1486, 0) = true := by decide +kernel
theorem mK_11_356 : mMw 11 (356, 8, 2, mL_restore) (1503, 159, 1501, 1502, 0) = true := by decide +kernel
theorem mK_11_170 : mMw 11 (170, 4, 0, mX9_init) (189, 160, 187, 188, 0) = true := by decide +kernel
theorem mK_11_173 : mMw 11 (173, 4, 0, mX10_init) (1513, 170, 1511, 1512, 0) = true := by decide +kernel
theorem mMt_ok11 : ∀ q ∈ mMt11, ∃ ix, mMw 11 q ix = true := List.forall_mem_cons.mpr ⟨⟨_, mK_11_7⟩, List.forall_mem_cons.mpr ⟨⟨_, mK_11_15⟩, List.forall_mem_cons.mpr ⟨⟨_, mK_11_21⟩, List.forall_mem_cons.mpr ⟨⟨_, mK_11_24⟩, List.forall_mem_cons.mpr ⟨⟨_, mK_11_28⟩, List.forall_mem_cons.mpr ⟨⟨_, mK_11_34⟩, List.forall_mem_cons.mpr ⟨⟨_, mK_11_37⟩, List.forall_mem_cons.mpr ⟨⟨_, mK_11_40⟩, List.forall_mem_cons.mpr ⟨⟨_, mK_11_43⟩, List.forall_mem_cons.mpr ⟨⟨_, mK_11_46⟩, List.forall_mem_cons.mpr ⟨⟨_, mK_11_49⟩, List.forall_mem_cons.mpr ⟨⟨_, mK_11_52⟩, List.forall_mem_cons.mpr ⟨⟨_, mK_11_55⟩, List.forall_mem_cons.mpr ⟨⟨_, mK_11_58⟩, List.forall_mem_cons.mpr ⟨⟨_, mK_11_61⟩, List.forall_mem_cons.mpr ⟨⟨_, mK_11_64⟩, List.forall_mem_cons.mpr ⟨⟨_, mK_11_67⟩, List.forall_mem_cons.mpr ⟨⟨_, mK_11_70⟩, List.forall_mem_cons.mpr ⟨⟨_, mK_11_74⟩, List.forall_mem_cons.mpr ⟨⟨_, mK_11_78⟩, List.forall_mem_cons.mpr ⟨⟨_, mK_11_81⟩, List.forall_mem_cons.mpr ⟨⟨_, mK_11_84⟩, List.forall_mem_cons.mpr ⟨⟨_, mK_11_87⟩, List.forall_mem_cons.mpr ⟨⟨_, mK_11_90⟩, List.forall_mem_cons.mpr ⟨⟨_, mK_11_93⟩, List.forall_mem_cons.mpr ⟨⟨_, mK_11_96⟩, List.forall_mem_cons.mpr ⟨⟨_, mK_11_99⟩, List.forall_mem_cons.mpr ⟨⟨_, mK_11_102⟩, List.forall_mem_cons.mpr ⟨⟨_, mK_11_105⟩, List.forall_mem_cons.mpr ⟨⟨_, mK_11_109⟩, List.forall_mem_cons.mpr ⟨⟨_, mK_11_112⟩, List.forall_mem_cons.mpr ⟨⟨_, mK_11_116⟩, List.forall_mem_cons.mpr ⟨⟨_, mK_11_119⟩, List.forall_mem_cons.mpr ⟨⟨_, mK_11_122⟩, List.forall_mem_cons.mpr ⟨⟨_, mK_11_125⟩, List.forall_mem_cons.mpr ⟨⟨_, mK_11_128⟩, List.forall_mem_cons.mpr ⟨⟨_, mK_11_131⟩, List.forall_mem_cons.mpr ⟨⟨_, mK_11_134⟩, List.forall_mem_cons.mpr ⟨⟨_, mK_11_137⟩, List.forall_mem_cons.mpr ⟨⟨_, mK_11_141⟩, List.forall_mem_cons.mpr ⟨⟨_, mK_11_144⟩, List.forall_mem_cons.mpr ⟨⟨_, mK_11_147⟩, List.forall_mem_cons.mpr ⟨⟨_, mK_11_150⟩, List.forall_mem_cons.mpr ⟨⟨_, mK_11_154⟩, List.forall_mem_cons.mpr ⟨⟨_, mK_11_160⟩, List.forall_mem_cons.mpr ⟨⟨_, mK_11_163⟩, List.forall_mem_cons.mpr ⟨⟨_, mK_11_167⟩, List.forall_mem_cons.mpr ⟨⟨_, mK_11_174⟩, List.forall_mem_cons.mpr ⟨⟨_, mK_11_178⟩, List.forall_mem_cons.mpr ⟨⟨_, mK_11_184⟩, List.forall_mem_cons.mpr ⟨⟨_, mK_11_185⟩, List.forall_mem_cons.mpr ⟨⟨_, mK_11_189⟩, List.forall_mem_cons.mpr ⟨⟨_, mK_11_192⟩, List.forall_mem_cons.mpr ⟨⟨_, mK_11_196⟩, List.forall_mem_cons.mpr ⟨⟨_, mK_11_199⟩, List.forall_mem_cons.mpr ⟨⟨_, mK_11_202⟩, List.forall_mem_cons.mpr ⟨⟨_, mK_11_206⟩, List.forall_mem_cons.mpr ⟨⟨_, mK_11_209⟩, List.forall_mem_cons.mpr ⟨⟨_, mK_11_212⟩, List.forall_mem_cons.mpr ⟨⟨_, mK_11_215⟩, List.forall_mem_cons.mpr ⟨⟨_, mK_11_218⟩, List.forall_mem_cons.mpr ⟨⟨_, mK_11_221⟩, List.forall_mem_cons.mpr ⟨⟨_, mK_11_224⟩, List.forall_mem_cons.mpr ⟨⟨_, mK_11_227⟩, List.forall_mem_cons.mpr ⟨⟨_, mK_11_230⟩, List.forall_mem_cons.mpr ⟨⟨_, mK_11_233⟩, List.forall_mem_cons.mpr ⟨⟨_, mK_11_236⟩, List.forall_mem_cons.mpr ⟨⟨_, mK_11_239⟩, List.forall_mem_cons.mpr ⟨⟨_, mK_11_242⟩, List.forall_mem_cons.mpr ⟨⟨_, mK_11_243⟩, List.forall_mem_cons.mpr ⟨⟨_, mK_11_246⟩, List.forall_mem_cons.mpr ⟨⟨_, mK_11_249⟩, List.forall_mem_cons.mpr ⟨⟨_, mK_11_252⟩, List.forall_mem_cons.mpr ⟨⟨_, mK_11_255⟩, List.forall_mem_cons.mpr ⟨⟨_, mK_11_258⟩, List.forall_mem_cons.mpr ⟨⟨_, mK_11_261⟩, List.forall_mem_cons.mpr ⟨⟨_, mK_11_264⟩, List.forall_mem_cons.mpr ⟨⟨_, mK_11_267⟩, List.forall_mem_cons.mpr ⟨⟨_, mK_11_270⟩, List.forall_mem_cons.mpr ⟨⟨_, mK_11_273⟩, List.forall_mem_cons.mpr ⟨⟨_, mK_11_276⟩, List.forall_mem_cons.mpr ⟨⟨_, mK_11_279⟩, List.forall_mem_cons.mpr ⟨⟨_, mK_11_282⟩, List.forall_mem_cons.mpr ⟨⟨_, mK_11_285⟩, List.forall_mem_cons.mpr ⟨⟨_, mK_11_289⟩, List.forall_mem_cons.mpr ⟨⟨_, mK_11_292⟩, List.forall_mem_cons.mpr ⟨⟨_, mK_11_295⟩, List.forall_mem_cons.mpr ⟨⟨_, mK_11_296⟩, List.forall_mem_cons.mpr ⟨⟨_, mK_11_299⟩, List.forall_mem_cons.mpr ⟨⟨_, mK_11_300⟩, List.forall_mem_cons.mpr ⟨⟨_, mK_11_303⟩, List.forall_mem_cons.mpr ⟨⟨_, mK_11_306⟩, List.forall_mem_cons.mpr ⟨⟨_, mK_11_309⟩, List.forall_mem_cons.mpr ⟨⟨_, mK_11_310⟩, List.forall_mem_cons.mpr ⟨⟨_, mK_11_313⟩, List.forall_mem_cons.mpr ⟨⟨_, mK_11_316⟩, List.forall_mem_cons.mpr ⟨⟨_, mK_11_319⟩, List.forall_mem_cons.mpr ⟨⟨_, mK_11_322⟩, List.forall_mem_cons.mpr ⟨⟨_, mK_11_325⟩, List.forall_mem_cons.mpr ⟨⟨_, mK_11_328⟩, List.forall_mem_cons.mpr ⟨⟨_, mK_11_331⟩, List.forall_mem_cons.mpr ⟨⟨_, mK_11_334⟩, List.forall_mem_cons.mpr ⟨⟨_, mK_11_335⟩, List.forall_mem_cons.mpr ⟨⟨_, mK_11_338⟩, List.forall_mem_cons.mpr ⟨⟨_, mK_11_342⟩, List.forall_mem_cons.mpr ⟨⟨_, mK_11_348⟩, List.forall_mem_cons.mpr ⟨⟨_, mK_11_351⟩, List.forall_mem_cons.mpr ⟨⟨_, mK_11_355⟩, List.forall_mem_cons.mpr ⟨⟨_, mK_11_358⟩, List.forall_mem_cons.mpr ⟨⟨_, mK_11_359⟩, List.forall_mem_cons.mpr ⟨⟨_, mK_11_362⟩, List.forall_mem_cons.mpr ⟨⟨_, mK_11_179⟩, List.forall_mem_cons.mpr ⟨⟨_, mK_11_193⟩, List.forall_mem_cons.mpr ⟨⟨_, mK_11_197⟩, List.forall_mem_cons.mpr ⟨⟨_, mK_11_200⟩, List.forall_mem_cons.mpr ⟨⟨_, mK_11_203⟩, List.forall_mem_cons.mpr ⟨⟨_, mK_11_207⟩, List.forall_mem_cons.mpr ⟨⟨_, mK_11_210⟩, List.forall_mem_cons.mpr ⟨⟨_, mK_11_213⟩, List.forall_mem_cons.mpr ⟨⟨_, mK_11_216⟩, List.forall_mem_cons.mpr ⟨⟨_, mK_11_219⟩, List.forall_mem_cons.mpr ⟨⟨_, mK_11_222⟩, List.forall_mem_cons.mpr ⟨⟨_, mK_11_225⟩, List.forall_mem_cons.mpr ⟨⟨_, mK_11_228⟩, List.forall_mem_cons.mpr ⟨⟨_, mK_11_231⟩, List.forall_mem_cons.mpr ⟨⟨_, mK_11_234⟩, List.forall_mem_cons.mpr ⟨⟨_, mK_11_237⟩, List.forall_mem_cons.mpr ⟨⟨_, mK_11_240⟩, List.forall_mem_cons.mpr ⟨⟨_, mK_11_247⟩, List.forall_mem_cons.mpr ⟨⟨_, mK_11_250⟩, List.forall_mem_cons.mpr ⟨⟨_, mK_11_253⟩, List.forall_mem_cons.mpr ⟨⟨_, mK_11_256⟩, List.forall_mem_cons.mpr ⟨⟨_, mK_11_259⟩, List.forall_mem_cons.mpr ⟨⟨_, mK_11_262⟩, List.forall_mem_cons.mpr ⟨⟨_, mK_11_265⟩, List.forall_mem_cons.mpr ⟨⟨_, mK_11_268⟩, List.forall_mem_cons.mpr ⟨⟨_, mK_11_271⟩, List.forall_mem_cons.mpr ⟨⟨_, mK_11_274⟩, List.forall_mem_cons.mpr ⟨⟨_, mK_11_277⟩, List.forall_mem_cons.mpr ⟨⟨_, mK_11_280⟩, List.forall_mem_cons.mpr ⟨⟨_, mK_11_283⟩, List.forall_mem_cons.mpr ⟨⟨_, mK_11_286⟩, List.forall_mem_cons.mpr ⟨⟨_, mK_11_290⟩, List.forall_mem_cons.mpr ⟨⟨_, mK_11_293⟩, List.forall_mem_cons.mpr ⟨⟨_, mK_11_304⟩, List.forall_mem_cons.mpr ⟨⟨_, mK_11_307⟩, List.forall_mem_cons.mpr ⟨⟨_, mK_11_314⟩, List.forall_mem_cons.mpr ⟨⟨_, mK_11_317⟩, List.forall_mem_cons.mpr ⟨⟨_, mK_11_320⟩, List.forall_mem_cons.mpr ⟨⟨_, mK_11_323⟩, List.forall_mem_cons.mpr ⟨⟨_, mK_11_326⟩, List.forall_mem_cons.mpr ⟨⟨_, mK_11_329⟩, List.forall_mem_cons.mpr ⟨⟨_, mK_11_332⟩, List.forall_mem_cons.mpr ⟨⟨_, mK_11_339⟩, List.forall_mem_cons.mpr ⟨⟨_, mK_11_345⟩, List.forall_mem_cons.mpr ⟨⟨_, mK_11_349⟩, List.forall_mem_cons.mpr ⟨⟨_, mK_11_352⟩, List.forall_mem_cons.mpr ⟨⟨_, mK_11_356⟩, List.forall_mem_cons.mpr ⟨⟨_, mK_11_170⟩, List.forall_mem_cons.mpr ⟨⟨_, mK_11_173⟩, fun _ h => absurd h List.not_mem_nil⟩⟩⟩⟩⟩⟩⟩⟩⟩⟩⟩⟩⟩⟩⟩⟩⟩⟩⟩⟩⟩⟩⟩⟩⟩⟩⟩⟩⟩⟩⟩⟩⟩⟩⟩⟩⟩⟩⟩⟩⟩⟩⟩⟩⟩⟩⟩⟩⟩⟩⟩⟩⟩⟩⟩⟩⟩⟩⟩⟩⟩⟩⟩⟩⟩⟩⟩⟩⟩⟩⟩⟩⟩⟩⟩⟩⟩⟩⟩⟩⟩⟩⟩⟩⟩⟩⟩⟩⟩⟩⟩⟩⟩⟩⟩⟩⟩⟩⟩⟩⟩⟩⟩⟩⟩⟩⟩⟩⟩⟩⟩⟩⟩⟩⟩⟩⟩⟩⟩⟩⟩⟩⟩⟩⟩⟩⟩⟩⟩⟩⟩⟩⟩⟩⟩⟩⟩⟩⟩⟩⟩⟩⟩⟩⟩⟩⟩⟩⟩⟩⟩⟩⟩⟩⟩⟩⟩⟩⟩⟩
theorem mMt_cd11 : ∀ q ∈ mMt11, mCode q.2.2.2 ∈ lw_tbl := List.forall_mem_cons.mpr ⟨mCd_X9_table, List.forall_mem_cons.mpr ⟨mCd_X9_die, List.forall_mem_cons.mpr ⟨mCd_X9_hand, List.forall_mem_cons.mpr ⟨mCd_X9_salts, List.forall_mem_cons.mpr ⟨mCd_X9_cast, List.forall_mem_cons.mpr ⟨mCd_X9_shows, List.forall_mem_cons.mpr ⟨mCd_X9_back, List.forall_mem_cons.mpr ⟨mCd_X9_past, List.forall_mem_cons.mpr ⟨mCd_X9_evening, List.forall_mem_cons.mpr ⟨mCd_X9_judge, List.forall_mem_cons.mpr ⟨mCd_X9_perform, List.forall_mem_cons.mpr ⟨mCd_X9_ants, List.forall_mem_cons.mpr ⟨mCd_X9_eaten, List.forall_mem_cons.mpr ⟨mCd_X9_lasts, List.forall_mem_cons.mpr ⟨mCd_X9_lastFace, List.forall_mem_cons.mpr ⟨mCd_X9_rain, List.forall_mem_cons.mpr ⟨mCd_X9_fan, List.forall_mem_cons.mpr ⟨mCd_X9_whole, List.forall_mem_cons.mpr ⟨mCd_X9_sum, List.forall_mem_cons.mpr ⟨mCd_X9_least, List.forall_mem_cons.mpr ⟨mCd_X9_alike, List.forall_mem_cons.mpr ⟨mCd_X9_mode, List.forall_mem_cons.mpr ⟨mCd_X9_sums, List.forall_mem_cons.mpr ⟨mCd_X9_mean, List.forall_mem_cons.mpr ⟨mCd_X9_bestSet, List.forall_mem_cons.mpr ⟨mCd_X9_unlike, List.forall_mem_cons.mpr ⟨mCd_X9_run, List.forall_mem_cons.mpr ⟨mCd_X9_cannot, List.forall_mem_cons.mpr ⟨mCd_X9_once, List.forall_mem_cons.mpr ⟨mCd_X9_allFaces, List.forall_mem_cons.mpr ⟨mCd_X9_coins, List.forall_mem_cons.mpr ⟨mCd_X9_beats, List.forall_mem_cons.mpr ⟨mCd_X9_ties, List.forall_mem_cons.mpr ⟨mCd_X9_series, List.forall_mem_cons.mpr ⟨mCd_X9_more, List.forall_mem_cons.mpr ⟨mCd_X9_stopping, List.forall_mem_cons.mpr ⟨mCd_X9_likelier, List.forall_mem_cons.mpr ⟨mCd_X9_fits, List.forall_mem_cons.mpr ⟨mCd_X9_worn, List.forall_mem_cons.mpr ⟨mCd_X9_tally, List.forall_mem_cons.mpr ⟨mCd_X9_streak, List.forall_mem_cons.mpr ⟨mCd_X9_off, List.forall_mem_cons.mpr ⟨mCd_X9_tray, List.forall_mem_cons.mpr ⟨mCd_X9_write, List.forall_mem_cons.mpr ⟨mCd_X9_pour, List.forall_mem_cons.mpr ⟨mCd_X9_image, List.forall_mem_cons.mpr ⟨mCd_X9_restore, List.forall_mem_cons.mpr ⟨mCd_X9_feed, List.forall_mem_cons.mpr ⟨mCd_X10_feed, List.forall_mem_cons.mpr ⟨mCd_X10_table, List.forall_mem_cons.mpr ⟨mCd_X10_thrown, List.forall_mem_cons.mpr ⟨mCd_X9_fault, List.forall_mem_cons.mpr ⟨mCd_X10_fault, List.forall_mem_cons.mpr ⟨mCd_X10_die, List.forall_mem_cons.mpr ⟨mCd_X10_hand, List.forall_mem_cons.mpr ⟨mCd_X10_salts, List.forall_mem_cons.mpr ⟨mCd_X10_cast, List.forall_mem_cons.mpr ⟨mCd_X10_shows, List.forall_mem_cons.mpr ⟨mCd_X10_back, List.forall_mem_cons.mpr ⟨mCd_X10_past, List.forall_mem_cons.mpr ⟨mCd_X10_evening, List.forall_mem_cons.mpr ⟨mCd_X10_judge, List.forall_mem_cons.mpr ⟨mCd_X10_perform, List.forall_mem_cons.mpr ⟨mCd_X10_ants, List.forall_mem_cons.mpr ⟨mCd_X10_eaten, List.forall_mem_cons.mpr ⟨mCd_X10_lasts, List.forall_mem_cons.mpr ⟨mCd_X10_lastFace, List.forall_mem_cons.mpr ⟨mCd_X10_rain, List.forall_mem_cons.mpr ⟨mCd_X10_fan, List.forall_mem_cons.mpr ⟨mCd_X9_lot, List.forall_mem_cons.mpr ⟨mCd_X10_lot, List.forall_mem_cons.mpr ⟨mCd_X10_whole, List.forall_mem_cons.mpr ⟨mCd_X10_sum, List.forall_mem_cons.mpr ⟨mCd_X10_least, List.forall_mem_cons.mpr ⟨mCd_X10_alike, List.forall_mem_cons.mpr ⟨mCd_X10_mode, List.forall_mem_cons.mpr ⟨mCd_X10_sums, List.forall_mem_cons.mpr ⟨mCd_X10_mean, List.forall_mem_cons.mpr ⟨mCd_X10_bestSet, List.forall_mem_cons.mpr ⟨mCd_X10_unlike, List.forall_mem_cons.mpr ⟨mCd_X10_run, List.forall_mem_cons.mpr ⟨mCd_X10_cannot, List.forall_mem_cons.mpr ⟨mCd_X10_once, List.forall_mem_cons.mpr ⟨mCd_X10_allFaces, List.forall_mem_cons.mpr ⟨mCd_X10_coins, List.forall_mem_cons.mpr ⟨mCd_X10_beats, List.forall_mem_cons.mpr ⟨mCd_X10_ties, List.forall_mem_cons.mpr ⟨mCd_X9_strongest, List.forall_mem_cons.mpr ⟨mCd_X10_strongest, List.forall_mem_cons.mpr ⟨mCd_X9_ring, List.forall_mem_cons.mpr ⟨mCd_X10_ring, List.forall_mem_cons.mpr ⟨mCd_X10_series, List.forall_mem_cons.mpr ⟨mCd_X10_more, List.forall_mem_cons.mpr ⟨mCd_X9_evenest, List.forall_mem_cons.mpr ⟨mCd_X10_evenest, List.forall_mem_cons.mpr ⟨mCd_X10_stopping, List.forall_mem_cons.mpr ⟨mCd_X10_likelier, List.forall_mem_cons.mpr ⟨mCd_X10_fits, List.forall_mem_cons.mpr ⟨mCd_X10_worn, List.forall_mem_cons.mpr ⟨mCd_X10_tally, List.forall_mem_cons.mpr ⟨mCd_X10_streak, List.forall_mem_cons.mpr ⟨mCd_X10_off, List.forall_mem_cons.mpr ⟨mCd_X9_loaded, List.forall_mem_cons.mpr ⟨mCd_X10_loaded, List.forall_mem_cons.mpr ⟨mCd_X10_tray, List.forall_mem_cons.mpr ⟨mCd_X10_write, List.forall_mem_cons.mpr ⟨mCd_X10_pour, List.forall_mem_cons.mpr ⟨mCd_X10_image, List.forall_mem_cons.mpr ⟨mCd_X10_restore, List.forall_mem_cons.mpr ⟨mCd_X9_count, List.forall_mem_cons.mpr ⟨mCd_X10_count, List.forall_mem_cons.mpr ⟨mCd_L_table, List.forall_mem_cons.mpr ⟨mCd_L_die, List.forall_mem_cons.mpr ⟨mCd_L_hand, List.forall_mem_cons.mpr ⟨mCd_L_salts, List.forall_mem_cons.mpr ⟨mCd_L_cast, List.forall_mem_cons.mpr ⟨mCd_L_shows, List.forall_mem_cons.mpr ⟨mCd_L_back, List.forall_mem_cons.mpr ⟨mCd_L_past, List.forall_mem_cons.mpr ⟨mCd_L_evening, List.forall_mem_cons.mpr ⟨mCd_L_judge, List.forall_mem_cons.mpr ⟨mCd_L_perform, List.forall_mem_cons.mpr ⟨mCd_L_ants, List.forall_mem_cons.mpr ⟨mCd_L_eaten, List.forall_mem_cons.mpr ⟨mCd_L_lasts, List.forall_mem_cons.mpr ⟨mCd_L_lastFace, List.forall_mem_cons.mpr ⟨mCd_L_rain, List.forall_mem_cons.mpr ⟨mCd_L_fan, List.forall_mem_cons.mpr ⟨mCd_L_whole, List.forall_mem_cons.mpr ⟨mCd_L_sum, List.forall_mem_cons.mpr ⟨mCd_L_least, List.forall_mem_cons.mpr ⟨mCd_L_alike, List.forall_mem_cons.mpr ⟨mCd_L_mode, List.forall_mem_cons.mpr ⟨mCd_L_sums, List.forall_mem_cons.mpr ⟨mCd_L_mean, List.forall_mem_cons.mpr ⟨mCd_L_bestSet, List.forall_mem_cons.mpr ⟨mCd_L_unlike, List.forall_mem_cons.mpr ⟨mCd_L_run, List.forall_mem_cons.mpr ⟨mCd_L_cannot, List.forall_mem_cons.mpr ⟨mCd_L_once, List.forall_mem_cons.mpr ⟨mCd_L_allFaces, List.forall_mem_cons.mpr ⟨mCd_L_coins, List.forall_mem_cons.mpr ⟨mCd_L_beats, List.forall_mem_cons.mpr ⟨mCd_L_ties, List.forall_mem_cons.mpr ⟨mCd_L_series, List.forall_mem_cons.mpr ⟨mCd_L_more, List.forall_mem_cons.mpr ⟨mCd_L_stopping, List.forall_mem_cons.mpr ⟨mCd_L_likelier, List.forall_mem_cons.mpr ⟨mCd_L_fits, List.forall_mem_cons.mpr ⟨mCd_L_worn, List.forall_mem_cons.mpr ⟨mCd_L_tally, List.forall_mem_cons.mpr ⟨mCd_L_streak, List.forall_mem_cons.mpr ⟨mCd_L_off, List.forall_mem_cons.mpr ⟨mCd_L_tray, List.forall_mem_cons.mpr ⟨mCd_L_write, List.forall_mem_cons.mpr ⟨mCd_L_pour, List.forall_mem_cons.mpr ⟨mCd_L_image, List.forall_mem_cons.mpr ⟨mCd_L_restore, List.forall_mem_cons.mpr ⟨mCd_X9_init, List.forall_mem_cons.mpr ⟨mCd_X10_init, fun _ h => absurd h List.not_mem_nil⟩⟩⟩⟩⟩⟩⟩⟩⟩⟩⟩⟩⟩⟩⟩⟩⟩⟩⟩⟩⟩⟩⟩⟩⟩⟩⟩⟩⟩⟩⟩⟩⟩⟩⟩⟩⟩⟩⟩⟩⟩⟩⟩⟩⟩⟩⟩⟩⟩⟩⟩⟩⟩⟩⟩⟩⟩⟩⟩⟩⟩⟩⟩⟩⟩⟩⟩⟩⟩⟩⟩⟩⟩⟩⟩⟩⟩⟩⟩⟩⟩⟩⟩⟩⟩⟩⟩⟩⟩⟩⟩⟩⟩⟩⟩⟩⟩⟩⟩⟩⟩⟩⟩⟩⟩⟩⟩⟩⟩⟩⟩⟩⟩⟩⟩⟩⟩⟩⟩⟩⟩⟩⟩⟩⟩⟩⟩⟩⟩⟩⟩⟩⟩⟩⟩⟩⟩⟩⟩⟩⟩⟩⟩⟩⟩⟩⟩⟩⟩⟩⟩⟩⟩⟩⟩⟩⟩⟩⟩⟩
theorem mMt_ok {oc : Nat} : ∀ q ∈ mMt oc, ∃ ix, mMw oc q ix = true := by
  match oc with
  | 0 => exact mMt_ok0
  | 1 => exact mMt_ok1
  | 2 => exact mMt_ok2
  | 3 => exact mMt_ok3
  | 4 => exact mMt_ok4
  | 5 => exact mMt_ok5
  | 6 => exact mMt_ok6
  | 7 => exact mMt_ok7
  | 8 => exact mMt_ok8
  | 9 => exact mMt_ok9
  | 10 => exact mMt_ok10
  | 11 => exact mMt_ok11
  | k + 12 => intro q hq; cases hq
theorem mMt_cd {oc : Nat} : ∀ q ∈ mMt oc, mCode q.2.2.2 ∈ lw_tbl := by
  match oc with
  | 0 => exact mMt_cd0
  | 1 => exact mMt_cd1
  | 2 => exact mMt_cd2
  | 3 => exact mMt_cd3
  | 4 => exact mMt_cd4
  | 5 => exact mMt_cd5
  | 6 => exact mMt_cd6
  | 7 => exact mMt_cd7
  | 8 => exact mMt_cd8
  | 9 => exact mMt_cd9
  | 10 => exact mMt_cd10
  | 11 => exact mMt_cd11
  | k + 12 => intro q hq; cases hq
