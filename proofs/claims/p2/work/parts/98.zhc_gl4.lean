/-! the law's callees' words are the law's -/
set_option maxRecDepth 20000 in
theorem gL_law_X11_shown : GoodIn wsL_law (wsV RL 151 RX11 yX11_shown wsX11_shown) := goodIn_app (goodIn_of _ (by decide +kernel)) ggL_law_X11_shown
set_option maxRecDepth 20000 in
theorem ggL_law_X10_lacks : GoodIn wsL_law wsX10_lacks := goodIn_r _ [1249, 43, 847, 848, 2, 849, 265, 266, 267, 268, 269, 270, 213, 214, 215, 246, 247, 248, 850, 851, 852, 42, 853, 151, 152, 153, 154, 854, 855, 856, 857, 858, 859, 860, 861, 155, 862, 696, 518, 697, 863, 864, 865, 866, 867, 276, 277, 56, 278, 279, 280, 74, 72, 281, 282, 283, 284, 285, 868, 869, 870, 871, 872, 693, 694, 873, 874, 875, 876, 877, 878, 879, 880, 881, 291, 292, 293, 294, 295, 296, 297, 298, 73, 882, 1250, 1251, 1252, 1253, 888, 889, 890, 891, 287, 288, 289, 75, 1254, 1255, 1256, 1257, 35, 17, 348, 349, 350, 34, 351, 130, 136, 131, 132, 134, 133, 135, 352, 353, 354, 355, 356, 357, 358, 359, 360, 361, 362, 363, 364, 560, 561, 562, 563, 527, 526, 564, 565, 521, 522, 523, 524, 525, 528, 529, 566, 531, 532, 533, 567, 568, 569, 570, 571, 1232, 1233, 1234, 60, 1235, 87, 92, 89, 90, 91, 88, 84, 85, 86, 1236, 1237, 272, 273, 274, 275, 286, 290, 1406, 1407, 1408, 1409, 1410, 1411, 1412, 1413, 1414, 1415, 1416, 1417, 1418, 1419, 1501, 1502, 1503, 1504, 1505, 1508, 1509, 1510, 1511, 1512, 1513, 1514, 1515, 1516, 1517, 1518, 1519, 1520, 1521, 1522, 1486, 1487, 1488, 1489, 1490, 1491, 1492, 1493, 1494, 1495, 1496] (by decide +kernel) (by decide +kernel)
set_option maxRecDepth 20000 in
theorem gL_law_X10_lacks : GoodIn wsL_law (wsV RL 152 RX10 yX10_lacks wsX10_lacks) := goodIn_app (goodIn_of _ (by decide +kernel)) ggL_law_X10_lacks
set_option maxRecDepth 20000 in
theorem ggL_law_X11_lacks : GoodIn wsL_law wsX11_lacks := goodIn_r _ [1261, 905, 906, 896, 897, 898, 5, 899, 303, 304, 305, 306, 307, 308, 235, 236, 237, 254, 255, 256, 230, 1262, 1263, 1264, 1190, 900, 901, 902, 903, 904, 907, 908, 313, 314, 315, 316, 317, 318, 167, 319, 320, 321, 322, 257, 258, 259, 260, 909, 910, 911, 912, 327, 328, 329, 330, 913, 914, 915, 916, 323, 324, 325, 326, 168, 184, 185, 186, 331, 332, 333, 334, 335, 921, 922, 923, 924, 336, 337, 338, 339, 169, 238, 239, 240, 241, 1265, 1266, 1267, 1268, 577, 578, 579, 580, 581, 582, 175, 233, 543, 544, 409, 410, 411, 412, 545, 546, 547, 548, 549, 550, 551, 413, 414, 415, 416, 417, 418, 419, 420, 583, 584, 585, 1242, 1243, 1244, 1245, 232, 178, 179, 180, 309, 310, 311, 312, 1420, 1421, 1422, 1423, 1424, 1425, 1426, 1427, 1428, 1429, 1430, 1431, 1432, 1433, 1434, 1435, 1436, 1437, 1438, 1439, 1440, 1441, 1442, 1443, 1444, 1445, 1446, 1447, 1448, 1449, 1450, 1451, 1452, 1453, 1454, 1455, 1456, 1457, 1458, 1459, 1460, 1461] (by decide +kernel) (by decide +kernel)
set_option maxRecDepth 20000 in
theorem gL_law_X11_lacks : GoodIn wsL_law (wsV RL 156 RX11 yX11_lacks wsX11_lacks) := goodIn_app (goodIn_of _ (by decide +kernel)) ggL_law_X11_lacks
set_option maxRecDepth 20000 in
theorem ggL_law_X10_years : GoodIn wsL_law wsX10_years := goodIn_r _ [1272, 17, 977, 693, 518, 694, 978, 696, 697, 213, 214, 2, 215, 1406, 1407, 1408, 1409, 1410, 1411, 1412, 1413, 1414, 1415, 1416, 1417, 1418, 1419, 1514, 1515, 1516, 1517, 1518, 1519, 1520, 1521, 1522] (by decide +kernel) (by decide +kernel)
set_option maxRecDepth 20000 in
theorem gL_law_X10_years : GoodIn wsL_law (wsV RL 157 RX10 yX10_years wsX10_years) := goodIn_app (goodIn_of _ (by decide +kernel)) ggL_law_X10_years
set_option maxRecDepth 20000 in
theorem ggL_law_X11_years : GoodIn wsL_law wsX11_years := goodIn_r _ [1276, 1190, 233, 232, 180, 1262, 1263, 5, 1264, 235, 236, 237, 1420, 1421, 1422, 1423, 1424, 1425, 1426, 1427, 1428, 1429, 1430, 1431, 1432, 1433, 1434, 1435, 1436, 1437, 1438, 1439, 1440, 1441, 1442, 1443, 1444, 1445, 1446, 1447, 1448, 1449, 1450, 1451, 1452, 1453, 1454, 1455, 1456, 1457, 1458, 1459, 1460, 1461] (by decide +kernel) (by decide +kernel)
set_option maxRecDepth 20000 in
theorem gL_law_X11_years : GoodIn wsL_law (wsV RL 160 RX11 yX11_years wsX11_years) := goodIn_app (goodIn_of _ (by decide +kernel)) ggL_law_X11_years
set_option maxRecDepth 20000 in
theorem ggL_law_X10_renew : GoodIn wsL_law wsX10_renew := goodIn_r _ [1280, 17, 246, 247, 2, 248, 213, 214, 215, 1406, 1407, 1408, 1409, 1410, 1411, 1412, 1413, 1414, 1415, 1416, 1417, 1418, 1419, 1514, 1515, 1516, 1517, 1518, 1519, 1520, 1521, 1522] (by decide +kernel) (by decide +kernel)
set_option maxRecDepth 20000 in
theorem gL_law_X10_renew : GoodIn wsL_law (wsV RL 161 RX10 yX10_renew wsX10_renew) := goodIn_app (goodIn_of _ (by decide +kernel)) ggL_law_X10_renew
set_option maxRecDepth 20000 in
theorem ggL_law_X11_renew : GoodIn wsL_law wsX11_renew := goodIn_r _ [1284, 232, 178, 180, 254, 255, 5, 256, 230, 235, 236, 237, 1186, 1187, 1188, 1189, 1190, 1420, 1421, 1422, 1423, 1424, 1425, 1426, 1427, 1428, 1429, 1430, 1431, 1432, 1433, 1434, 1435, 1436, 1437, 1438, 1439, 1440, 1441, 1442, 1443, 1444, 1445, 1446, 1447, 1448, 1449, 1450, 1451, 1452, 1453, 1454, 1455, 1456, 1457, 1458, 1459, 1460, 1461] (by decide +kernel) (by decide +kernel)
set_option maxRecDepth 20000 in
theorem gL_law_X11_renew : GoodIn wsL_law (wsV RL 164 RX11 yX11_renew wsX11_renew) := goodIn_app (goodIn_of _ (by decide +kernel)) ggL_law_X11_renew
set_option maxRecDepth 20000 in
theorem ggL_law_X10_oldest : GoodIn wsL_law wsX10_oldest := goodIn_r _ [1288, 17, 246, 247, 2, 248, 213, 214, 215, 1406, 1407, 1408, 1409, 1410, 1411, 1412, 1413, 1414, 1415, 1416, 1417, 1418, 1419, 1514, 1515, 1516, 1517, 1518, 1519, 1520, 1521, 1522] (by decide +kernel) (by decide +kernel)
set_option maxRecDepth 20000 in
theorem gL_law_X10_oldest : GoodIn wsL_law (wsV RL 165 RX10 yX10_oldest wsX10_oldest) := goodIn_app (goodIn_of _ (by decide +kernel)) ggL_law_X10_oldest
set_option maxRecDepth 20000 in
theorem ggL_law_X11_oldest : GoodIn wsL_law wsX11_oldest := goodIn_r _ [1292, 233, 232, 178, 180, 179, 254, 255, 5, 256, 230, 235, 236, 237, 1420, 1421, 1422, 1423, 1424, 1425, 1426, 1427, 1428, 1429, 1430, 1431, 1432, 1433, 1434, 1435, 1436, 1437, 1438, 1439, 1440, 1441, 1442, 1443, 1444, 1445, 1446, 1447, 1448, 1449, 1450, 1451, 1452, 1453, 1454, 1455, 1456, 1457, 1458, 1459, 1460, 1461] (by decide +kernel) (by decide +kernel)
set_option maxRecDepth 20000 in
theorem gL_law_X11_oldest : GoodIn wsL_law (wsV RL 168 RX11 yX11_oldest wsX11_oldest) := goodIn_app (goodIn_of _ (by decide +kernel)) ggL_law_X11_oldest
set_option maxRecDepth 20000 in
theorem ggL_law_X10_tidy : GoodIn wsL_law wsX10_tidy := goodIn_r _ [1296, 17, 1297, 1298, 1299, 60, 1300, 84, 86, 92, 85, 1301, 612, 613, 56, 614, 74, 75, 615, 353, 354, 355, 72, 73, 356, 357, 358, 286, 287, 288, 289, 616, 386, 387, 388, 617, 390, 391, 392, 1208, 1209, 1210, 1211, 88, 1178, 1179, 1180, 1181, 1406, 1407, 1408, 1409, 1410, 1411, 1412, 1413, 1414, 1415, 1416, 1417, 1418, 1419, 1514, 1515, 1516, 1517, 1518, 1519, 1520, 1521, 1522, 1508, 1509, 1510, 1511, 1512, 1513] (by decide +kernel) (by decide +kernel)
set_option maxRecDepth 20000 in
theorem gL_law_X10_tidy : GoodIn wsL_law (wsV RL 169 RX10 yX10_tidy wsX10_tidy) := goodIn_app (goodIn_of _ (by decide +kernel)) ggL_law_X10_tidy
set_option maxRecDepth 20000 in
theorem ggL_law_X11_tidy : GoodIn wsL_law wsX11_tidy := goodIn_r _ [1305, 232, 1306, 1307, 1308, 5, 1309, 178, 180, 179, 622, 623, 624, 625, 167, 168, 409, 410, 411, 412, 238, 239, 240, 241, 169, 413, 414, 415, 416, 319, 320, 321, 322, 257, 258, 259, 260, 184, 185, 186, 417, 418, 419, 420, 336, 337, 338, 339, 327, 328, 329, 330, 1216, 1217, 1218, 1219, 1199, 1200, 1201, 1202, 1420, 1421, 1422, 1423, 1424, 1425, 1426, 1427, 1428, 1429, 1430, 1431, 1432, 1433, 1434, 1435, 1436, 1437, 1438, 1439, 1440, 1441, 1442, 1443, 1444, 1445, 1446, 1447, 1448, 1449, 1450, 1451, 1452, 1453, 1454, 1455, 1456, 1457, 1458, 1459, 1460, 1461] (by decide +kernel) (by decide +kernel)
set_option maxRecDepth 20000 in
theorem gL_law_X11_tidy : GoodIn wsL_law (wsV RL 173 RX11 yX11_tidy wsX11_tidy) := goodIn_app (goodIn_of _ (by decide +kernel)) ggL_law_X11_tidy
set_option maxRecDepth 20000 in
theorem ggL_law_X10_changes : GoodIn wsL_law wsX10_changes := goodIn_r _ [1313, 16, 265, 266, 2, 267, 268, 269, 270, 213, 214, 215, 246, 247, 248, 271, 272, 273, 56, 274, 275, 276, 277, 278, 279, 280, 74, 72, 281, 282, 283, 284, 285, 286, 287, 288, 289, 75, 73, 290, 291, 292, 293, 294, 295, 296, 297, 298, 1314, 1315, 1316, 1406, 1407, 1408, 1409, 1410, 1411, 1412, 1413, 1414, 1415, 1416, 1417, 1418, 1419, 1508, 1509, 1510, 1511, 1512, 1513] (by decide +kernel) (by decide +kernel)
set_option maxRecDepth 20000 in
theorem gL_law_X10_changes : GoodIn wsL_law (wsV RL 174 RX10 yX10_changes wsX10_changes) := goodIn_app (goodIn_of _ (by decide +kernel)) ggL_law_X10_changes
set_option maxRecDepth 20000 in
theorem ggL_law_X11_changes : GoodIn wsL_law wsX11_changes := goodIn_r _ [1320, 1321, 303, 304, 5, 305, 306, 307, 308, 235, 236, 237, 254, 255, 256, 230, 309, 310, 311, 312, 313, 314, 315, 316, 317, 318, 167, 319, 320, 321, 322, 257, 258, 259, 260, 323, 324, 325, 326, 168, 327, 328, 329, 330, 184, 185, 186, 331, 332, 333, 334, 335, 336, 337, 338, 339, 169, 238, 239, 240, 241, 583, 584, 585, 1420, 1421, 1422, 1423, 1424, 1425, 1426, 1427, 1428, 1429, 1430, 1431, 1432, 1433, 1434, 1435, 1436, 1437, 1438, 1439, 1440, 1441, 1442, 1443, 1444, 1445, 1446, 1447, 1448, 1449, 1450, 1451, 1452, 1453, 1454, 1455, 1456, 1457, 1458, 1459, 1460, 1461] (by decide +kernel) (by decide +kernel)
set_option maxRecDepth 20000 in
theorem gL_law_X11_changes : GoodIn wsL_law (wsV RL 177 RX11 yX11_changes wsX11_changes) := goodIn_app (goodIn_of _ (by decide +kernel)) ggL_law_X11_changes
set_option maxRecDepth 20000 in
theorem ggL_law_X10_drawn : GoodIn wsL_law wsX10_drawn := goodIn_r _ [1325, 1326, 1327, 16, 50, 213, 214, 2, 215, 246, 247, 248, 1328, 1329, 1330, 271, 272, 273, 56, 274, 275, 276, 277, 278, 279, 280, 74, 72, 281, 282, 283, 284, 285, 286, 287, 288, 289, 75, 73, 290, 291, 292, 293, 294, 295, 296, 297, 298, 1331, 1332, 1333, 1334, 1406, 1407, 1408, 1409, 1410, 1411, 1412, 1413, 1414, 1415, 1416, 1417, 1418, 1419, 1508, 1509, 1510, 1511, 1512, 1513] (by decide +kernel) (by decide +kernel)
set_option maxRecDepth 20000 in
theorem gL_law_X10_drawn : GoodIn wsL_law (wsV RL 178 RX10 yX10_drawn wsX10_drawn) := goodIn_app (goodIn_of _ (by decide +kernel)) ggL_law_X10_drawn
set_option maxRecDepth 20000 in
theorem ggL_law_X11_drawn : GoodIn wsL_law wsX11_drawn := goodIn_r _ [1338, 1321, 1339, 1340, 1341, 181, 235, 236, 5, 237, 254, 255, 256, 230, 1342, 1343, 1344, 1345, 1346, 309, 310, 311, 312, 313, 314, 315, 316, 317, 318, 167, 319, 320, 321, 322, 257, 258, 259, 260, 323, 324, 325, 326, 168, 327, 328, 329, 330, 184, 185, 186, 331, 332, 333, 334, 335, 336, 337, 338, 339, 169, 238, 239, 240, 241, 1420, 1421, 1422, 1423, 1424, 1425, 1426, 1427, 1428, 1429, 1430, 1431, 1432, 1433, 1434, 1435, 1436, 1437, 1438, 1439, 1440, 1441, 1442, 1443, 1444, 1445, 1446, 1447, 1448, 1449, 1450, 1451, 1452, 1453, 1454, 1455, 1456, 1457, 1458, 1459, 1460, 1461] (by decide +kernel) (by decide +kernel)
set_option maxRecDepth 20000 in
theorem gL_law_X11_drawn : GoodIn wsL_law (wsV RL 181 RX11 yX11_drawn wsX11_drawn) := goodIn_app (goodIn_of _ (by decide +kernel)) ggL_law_X11_drawn
set_option maxRecDepth 20000 in
theorem ggL_law_X10_bands : GoodIn wsL_law wsX10_bands := goodIn_r _ [1350, 16, 714, 715, 716, 2, 717, 344, 345, 346, 56, 347, 75, 247, 248, 602, 287, 288, 289, 74, 72, 73, 1406, 1407, 1408, 1409, 1410, 1411, 1412, 1413, 1414, 1415, 1416, 1417, 1418, 1419, 1508, 1509, 1510, 1511, 1512, 1513] (by decide +kernel) (by decide +kernel)
set_option maxRecDepth 20000 in
theorem gL_law_X10_bands : GoodIn wsL_law (wsV RL 182 RX10 yX10_bands wsX10_bands) := goodIn_app (goodIn_of _ (by decide +kernel)) ggL_law_X10_bands
set_option maxRecDepth 20000 in
theorem ggL_law_X11_bands : GoodIn wsL_law wsX11_bands := goodIn_r _ [1354, 401, 402, 403, 5, 404, 254, 255, 256, 230, 235, 236, 237, 238, 239, 240, 241, 167, 168, 169, 413, 414, 415, 416, 319, 320, 321, 322, 257, 258, 259, 260, 184, 185, 186, 327, 328, 329, 330, 1420, 1421, 1422, 1423, 1424, 1425, 1426, 1427, 1428, 1429, 1430, 1431, 1432, 1433, 1434, 1435, 1436, 1437, 1438, 1439, 1440, 1441, 1442, 1443, 1444, 1445, 1446, 1447, 1448, 1449, 1450, 1451, 1452, 1453, 1454, 1455, 1456, 1457, 1458, 1459, 1460, 1461] (by decide +kernel) (by decide +kernel)
set_option maxRecDepth 20000 in
theorem gL_law_X11_bands : GoodIn wsL_law (wsV RL 185 RX11 yX11_bands wsX11_bands) := goodIn_app (goodIn_of _ (by decide +kernel)) ggL_law_X11_bands
set_option maxRecDepth 20000 in
theorem ggL_law_X10_count : GoodIn wsL_law wsX10_count := goodIn_r _ [1358, 17, 23, 19, 15, 1406, 1407, 1408, 1409, 1410, 1411, 1412, 1413, 1414, 1415, 1416, 1417, 1418, 1419, 1514, 1515, 1516, 1517, 1518, 1519, 1520, 1521, 1522, 1468, 1469, 1462, 1463, 1464, 1465, 1466, 1467] (by decide +kernel) (by decide +kernel)
set_option maxRecDepth 20000 in
theorem gL_law_X10_count : GoodIn wsL_law (wsV RL 186 RX10 yX10_count wsX10_count) := goodIn_app (goodIn_of _ (by decide +kernel)) ggL_law_X10_count
set_option maxRecDepth 20000 in
theorem ggL_law_X11_count : GoodIn wsL_law wsX11_count := goodIn_r _ [1362, 232, 203, 1363, 507, 508, 509, 510, 1420, 1421, 1422, 1423, 1424, 1425, 1426, 1427, 1428, 1429, 1430, 1431, 1432, 1433, 1434, 1435, 1436, 1437, 1438, 1439, 1440, 1441, 1442, 1443, 1444, 1445, 1446, 1447, 1448, 1449, 1450, 1451, 1452, 1453, 1454, 1455, 1456, 1457, 1458, 1459, 1460, 1461] (by decide +kernel) (by decide +kernel)
set_option maxRecDepth 20000 in
theorem gL_law_X11_count : GoodIn wsL_law (wsV RL 189 RX11 yX11_count wsX11_count) := goodIn_app (goodIn_of _ (by decide +kernel)) ggL_law_X11_count
set_option maxRecDepth 20000 in
theorem ggL_law_X10_keep : GoodIn wsL_law wsX10_keep := goodIn_r _ [1367, 19, 18, 15, 1368, 1369, 1370, 14, 1371, 57, 61, 62, 63, 64, 65, 1372, 1373, 1374, 56, 1375, 70, 1376, 1377, 1378, 1379, 71, 76, 77, 78, 79, 72, 73, 74, 75, 1380, 1381, 1382, 60, 1383, 84, 1384, 85, 86, 88, 1406, 1407, 1408, 1409, 1410, 1411, 1412, 1413, 1414, 1415, 1416, 1417, 1418, 1419, 1462, 1463, 1464, 1465, 1466, 1467, 1508, 1509, 1510, 1511, 1512, 1513, 1514, 1515, 1516, 1517, 1518, 1519, 1520, 1521, 1522] (by decide +kernel) (by decide +kernel)
set_option maxRecDepth 20000 in
theorem gL_law_X10_keep : GoodIn wsL_law (wsV RL 190 RX10 yX10_keep wsX10_keep) := goodIn_app (goodIn_of _ (by decide +kernel)) ggL_law_X10_keep
set_option maxRecDepth 20000 in
theorem ggL_law_X11_keep : GoodIn wsL_law wsX11_keep := goodIn_r _ [1388, 1363, 1389, 165, 166, 232, 507, 508, 509, 178, 179, 180, 183, 510, 1390, 1391, 1392, 5, 1393, 182, 1420, 1421, 1422, 1423, 1424, 1425, 1426, 1427, 1428, 1429, 1430, 1431, 1432, 1433, 1434, 1435, 1436, 1437, 1438, 1439, 1440, 1441, 1442, 1443, 1444, 1445, 1446, 1447, 1448, 1449, 1450, 1451, 1452, 1453, 1454, 1455, 1456, 1457, 1458, 1459, 1460, 1461] (by decide +kernel) (by decide +kernel)
set_option maxRecDepth 20000 in
theorem gL_law_X11_keep : GoodIn wsL_law (wsV RL 193 RX11 yX11_keep wsX11_keep) := goodIn_app (goodIn_of _ (by decide +kernel)) ggL_law_X11_keep
set_option maxRecDepth 20000 in
theorem ggL_law_X10_undo : GoodIn wsL_law wsX10_undo := goodIn_r _ [1397, 19, 15, 18, 1368, 1369, 1370, 14, 1371, 57, 61, 62, 63, 64, 65, 1372, 1373, 1374, 56, 1375, 70, 1376, 1377, 1378, 1379, 71, 76, 77, 78, 79, 72, 73, 74, 75, 1380, 1381, 1382, 60, 1383, 84, 1384, 85, 86, 88, 1406, 1407, 1408, 1409, 1410, 1411, 1412, 1413, 1414, 1415, 1416, 1417, 1418, 1419, 1462, 1463, 1464, 1465, 1466, 1467, 1508, 1509, 1510, 1511, 1512, 1513, 1514, 1515, 1516, 1517, 1518, 1519, 1520, 1521, 1522] (by decide +kernel) (by decide +kernel)
set_option maxRecDepth 20000 in
theorem gL_law_X10_undo : GoodIn wsL_law (wsV RL 194 RX10 yX10_undo wsX10_undo) := goodIn_app (goodIn_of _ (by decide +kernel)) ggL_law_X10_undo
set_option maxRecDepth 20000 in
theorem ggL_law_X11_undo : GoodIn wsL_law wsX11_undo := goodIn_r _ [1401, 1363, 1389, 165, 166, 232, 507, 508, 509, 178, 179, 180, 183, 510, 1402, 1403, 1404, 5, 1405, 182, 187, 188, 189, 190, 167, 168, 1420, 1421, 1422, 1423, 1424, 1425, 1426, 1427, 1428, 1429, 1430, 1431, 1432, 1433, 1434, 1435, 1436, 1437, 1438, 1439, 1440, 1441, 1442, 1443, 1444, 1445, 1446, 1447, 1448, 1449, 1450, 1451, 1452, 1453, 1454, 1455, 1456, 1457, 1458, 1459, 1460, 1461] (by decide +kernel) (by decide +kernel)
set_option maxRecDepth 20000 in
theorem gL_law_X11_undo : GoodIn wsL_law (wsV RL 197 RX11 yX11_undo wsX11_undo) := goodIn_app (goodIn_of _ (by decide +kernel)) ggL_law_X11_undo
