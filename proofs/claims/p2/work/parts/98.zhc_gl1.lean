/-! the law's callees' words are the law's -/
set_option maxRecDepth 20000 in
theorem ggL_law_X10_init : GoodIn wsL_law wsX10_init := goodIn_r _ [8, 9, 10, 11, 12, 13, 14, 15, 16, 17, 18, 19, 20, 21, 22, 23, 24, 25, 26, 27, 28, 29, 30, 31, 32, 33, 34, 35, 36, 37, 38, 39, 40, 41, 42, 43, 44, 45, 46, 47, 48, 49, 50, 51, 52, 53, 54, 55, 56, 57, 58, 59, 60, 61, 62, 63, 64, 65, 66, 67, 68, 69, 70, 71, 72, 73, 74, 75, 76, 77, 78, 79, 80, 81, 82, 83, 84, 85, 86, 87, 88, 89, 90, 91, 92, 93, 94, 95, 96, 97, 98, 99, 100, 101, 102, 103, 104, 105, 106, 107, 108, 109, 110, 111, 112, 113, 114, 115, 116, 117, 118, 119, 120, 121, 122, 123, 124, 125, 126, 127, 128, 129, 130, 131, 132, 133, 134, 135, 136, 137, 138, 139, 140, 141, 142, 143, 144, 145, 146, 147, 148, 149, 150, 151, 152, 153, 154, 155, 156, 157, 158, 159, 160, 1462, 1463, 1464, 1465, 1466, 1467, 1406, 1407, 1408, 1409, 1410, 1411, 1412, 1413, 1414, 1415, 1416, 1417, 1418, 1419, 1468, 1469, 1470, 1471, 1472, 1473, 1474, 1475, 1476, 1477, 1478, 1479, 1480, 1481, 1482, 1483, 1484, 1485, 1486, 1487, 1488, 1489, 1490, 1491, 1492, 1493, 1494, 1495, 1496, 1497, 1498, 1499, 1500, 1501, 1502, 1503, 1504, 1505, 1506, 1507, 1508, 1509, 1510, 1511, 1512, 1513, 1514, 1515, 1516, 1517, 1518, 1519, 1520, 1521, 1522] (by decide +kernel) (by decide +kernel)
set_option maxRecDepth 20000 in
theorem gL_law_X10_init : GoodIn wsL_law (wsX10_init) := ggL_law_X10_init
set_option maxRecDepth 20000 in
theorem ggL_law_X11_init : GoodIn wsL_law wsX11_init := goodIn_r _ [163, 164, 10, 11, 49, 165, 166, 167, 168, 169, 170, 171, 172, 173, 174, 175, 176, 177, 178, 179, 180, 181, 182, 183, 184, 185, 5, 186, 187, 188, 189, 190, 1420, 1421, 1422, 1423, 1424, 1425, 1426, 1427, 1428, 1429, 1430, 1431, 1432, 1433, 1434, 1435, 1436, 1437, 1438, 1439, 1440, 1441, 1442, 1443, 1444, 1445, 1446, 1447, 1448, 1449, 1450, 1451, 1452, 1453, 1454, 1455, 1456, 1457, 1458, 1459, 1460, 1461] (by decide +kernel) (by decide +kernel)
set_option maxRecDepth 20000 in
theorem gL_law_X11_init : GoodIn wsL_law (wsX11_init) := ggL_law_X11_init
set_option maxRecDepth 20000 in
theorem ggL_law_X10_feed : GoodIn wsL_law wsX10_feed := goodIn_r _ [194, 23, 195, 196, 197, 22, 198, 97, 96, 1406, 1407, 1408, 1409, 1410, 1411, 1412, 1413, 1414, 1415, 1416, 1417, 1418, 1419, 1468, 1469] (by decide +kernel) (by decide +kernel)
set_option maxRecDepth 20000 in
theorem gL_law_X10_feed : GoodIn wsL_law (wsV RL 13 RX10 yX10_feed wsX10_feed) := goodIn_app (goodIn_of _ (by decide +kernel)) ggL_law_X10_feed
set_option maxRecDepth 20000 in
theorem ggL_law_X11_feed : GoodIn wsL_law wsX11_feed := goodIn_r _ [202, 203, 204, 205, 206, 5, 207, 173, 1420, 1421, 1422, 1423, 1424, 1425, 1426, 1427, 1428, 1429, 1430, 1431, 1432, 1433, 1434, 1435, 1436, 1437, 1438, 1439, 1440, 1441, 1442, 1443, 1444, 1445, 1446, 1447, 1448, 1449, 1450, 1451, 1452, 1453, 1454, 1455, 1456, 1457, 1458, 1459, 1460, 1461] (by decide +kernel) (by decide +kernel)
set_option maxRecDepth 20000 in
theorem gL_law_X11_feed : GoodIn wsL_law (wsV RL 17 RX11 yX11_feed wsX11_feed) := goodIn_app (goodIn_of _ (by decide +kernel)) ggL_law_X11_feed
set_option maxRecDepth 20000 in
theorem ggL_law_X10_cut : GoodIn wsL_law wsX10_cut := goodIn_r _ [211, 17, 16, 212, 213, 214, 2, 215, 216, 217, 218, 56, 219, 220, 70, 71, 221, 222, 223, 224, 225, 76, 77, 78, 79, 72, 73, 74, 75, 1406, 1407, 1408, 1409, 1410, 1411, 1412, 1413, 1414, 1415, 1416, 1417, 1418, 1419, 1514, 1515, 1516, 1517, 1518, 1519, 1520, 1521, 1522, 1508, 1509, 1510, 1511, 1512, 1513] (by decide +kernel) (by decide +kernel)
set_option maxRecDepth 20000 in
theorem gL_law_X10_cut : GoodIn wsL_law (wsV RL 18 RX10 yX10_cut wsX10_cut) := goodIn_app (goodIn_of _ (by decide +kernel)) ggL_law_X10_cut
set_option maxRecDepth 20000 in
theorem ggL_law_X11_cut : GoodIn wsL_law wsX11_cut := goodIn_r _ [229, 230, 231, 232, 169, 165, 166, 233, 234, 235, 236, 5, 237, 187, 188, 189, 190, 167, 168, 238, 239, 240, 241, 1420, 1421, 1422, 1423, 1424, 1425, 1426, 1427, 1428, 1429, 1430, 1431, 1432, 1433, 1434, 1435, 1436, 1437, 1438, 1439, 1440, 1441, 1442, 1443, 1444, 1445, 1446, 1447, 1448, 1449, 1450, 1451, 1452, 1453, 1454, 1455, 1456, 1457, 1458, 1459, 1460, 1461] (by decide +kernel) (by decide +kernel)
set_option maxRecDepth 20000 in
theorem gL_law_X11_cut : GoodIn wsL_law (wsV RL 22 RX11 yX11_cut wsX11_cut) := goodIn_app (goodIn_of _ (by decide +kernel)) ggL_law_X11_cut
set_option maxRecDepth 20000 in
theorem ggL_law_X10_level : GoodIn wsL_law wsX10_level := goodIn_r _ [245, 16, 246, 247, 2, 248, 1406, 1407, 1408, 1409, 1410, 1411, 1412, 1413, 1414, 1415, 1416, 1417, 1418, 1419, 1508, 1509, 1510, 1511, 1512, 1513] (by decide +kernel) (by decide +kernel)
set_option maxRecDepth 20000 in
theorem gL_law_X10_level : GoodIn wsL_law (wsV RL 23 RX10 yX10_level wsX10_level) := goodIn_app (goodIn_of _ (by decide +kernel)) ggL_law_X10_level
set_option maxRecDepth 20000 in
theorem ggL_law_X11_level : GoodIn wsL_law wsX11_level := goodIn_r _ [252, 253, 165, 166, 167, 168, 254, 255, 5, 256, 230, 235, 236, 237, 238, 239, 240, 241, 169, 257, 258, 259, 260, 1420, 1421, 1422, 1423, 1424, 1425, 1426, 1427, 1428, 1429, 1430, 1431, 1432, 1433, 1434, 1435, 1436, 1437, 1438, 1439, 1440, 1441, 1442, 1443, 1444, 1445, 1446, 1447, 1448, 1449, 1450, 1451, 1452, 1453, 1454, 1455, 1456, 1457, 1458, 1459, 1460, 1461] (by decide +kernel) (by decide +kernel)
set_option maxRecDepth 20000 in
theorem gL_law_X11_level : GoodIn wsL_law (wsV RL 27 RX11 yX11_level wsX11_level) := goodIn_app (goodIn_of _ (by decide +kernel)) ggL_law_X11_level
set_option maxRecDepth 20000 in
theorem ggL_law_X10_key : GoodIn wsL_law wsX10_key := goodIn_r _ [264, 16, 265, 266, 2, 267, 268, 269, 270, 213, 214, 215, 246, 247, 248, 271, 272, 273, 56, 274, 275, 276, 277, 278, 279, 280, 74, 72, 281, 282, 283, 284, 285, 286, 287, 288, 289, 75, 73, 290, 291, 292, 293, 294, 295, 296, 297, 298, 1406, 1407, 1408, 1409, 1410, 1411, 1412, 1413, 1414, 1415, 1416, 1417, 1418, 1419, 1508, 1509, 1510, 1511, 1512, 1513] (by decide +kernel) (by decide +kernel)
set_option maxRecDepth 20000 in
theorem gL_law_X10_key : GoodIn wsL_law (wsV RL 28 RX10 yX10_key wsX10_key) := goodIn_app (goodIn_of _ (by decide +kernel)) ggL_law_X10_key
set_option maxRecDepth 20000 in
theorem ggL_law_X11_key : GoodIn wsL_law wsX11_key := goodIn_r _ [302, 303, 304, 5, 305, 306, 307, 308, 235, 236, 237, 254, 255, 256, 230, 309, 310, 311, 312, 313, 314, 315, 316, 317, 318, 167, 319, 320, 321, 322, 257, 258, 259, 260, 323, 324, 325, 326, 168, 327, 328, 329, 330, 184, 185, 186, 331, 332, 333, 334, 335, 336, 337, 338, 339, 169, 238, 239, 240, 241, 1420, 1421, 1422, 1423, 1424, 1425, 1426, 1427, 1428, 1429, 1430, 1431, 1432, 1433, 1434, 1435, 1436, 1437, 1438, 1439, 1440, 1441, 1442, 1443, 1444, 1445, 1446, 1447, 1448, 1449, 1450, 1451, 1452, 1453, 1454, 1455, 1456, 1457, 1458, 1459, 1460, 1461] (by decide +kernel) (by decide +kernel)
set_option maxRecDepth 20000 in
theorem gL_law_X11_key : GoodIn wsL_law (wsV RL 31 RX11 yX11_key wsX11_key) := goodIn_app (goodIn_of _ (by decide +kernel)) ggL_law_X11_key
set_option maxRecDepth 20000 in
theorem ggL_law_X10_name : GoodIn wsL_law wsX10_name := goodIn_r _ [343, 16, 35, 47, 344, 345, 346, 56, 347, 75, 247, 2, 248, 348, 349, 350, 34, 351, 130, 136, 131, 132, 134, 133, 135, 352, 353, 354, 355, 74, 72, 73, 356, 357, 358, 359, 287, 288, 289, 360, 296, 297, 298, 361, 362, 363, 364, 365, 366, 367, 46, 368, 160, 369, 370, 371, 372, 159, 373, 374, 375, 376, 377, 378, 379, 380, 381, 382, 383, 384, 385, 386, 387, 388, 389, 390, 391, 392, 393, 394, 395, 396, 1406, 1407, 1408, 1409, 1410, 1411, 1412, 1413, 1414, 1415, 1416, 1417, 1418, 1419, 1506, 1507, 1508, 1509, 1510, 1511, 1512, 1513, 1486, 1487, 1488, 1489, 1490, 1491, 1492, 1493, 1494, 1495, 1496] (by decide +kernel) (by decide +kernel)
set_option maxRecDepth 20000 in
theorem gL_law_X10_name : GoodIn wsL_law (wsV RL 32 RX10 yX10_name wsX10_name) := goodIn_app (goodIn_of _ (by decide +kernel)) ggL_law_X10_name
set_option maxRecDepth 20000 in
theorem ggL_law_X11_name : GoodIn wsL_law wsX11_name := goodIn_r _ [400, 170, 401, 402, 403, 5, 404, 254, 255, 256, 230, 235, 236, 237, 238, 239, 240, 241, 167, 168, 169, 405, 406, 407, 408, 409, 410, 411, 412, 413, 414, 415, 416, 319, 320, 321, 322, 257, 258, 259, 260, 184, 185, 186, 417, 418, 419, 420, 336, 337, 338, 339, 327, 328, 329, 330, 421, 422, 423, 424, 425, 426, 427, 428, 165, 166, 1420, 1421, 1422, 1423, 1424, 1425, 1426, 1427, 1428, 1429, 1430, 1431, 1432, 1433, 1434, 1435, 1436, 1437, 1438, 1439, 1440, 1441, 1442, 1443, 1444, 1445, 1446, 1447, 1448, 1449, 1450, 1451, 1452, 1453, 1454, 1455, 1456, 1457, 1458, 1459, 1460, 1461] (by decide +kernel) (by decide +kernel)
set_option maxRecDepth 20000 in
theorem gL_law_X11_name : GoodIn wsL_law (wsV RL 35 RX11 yX11_name wsX11_name) := goodIn_app (goodIn_of _ (by decide +kernel)) ggL_law_X11_name
set_option maxRecDepth 20000 in
theorem ggL_law_X10_named : GoodIn wsL_law wsX10_named := goodIn_r _ [432, 23, 27, 15, 213, 214, 2, 215, 433, 434, 435, 26, 436, 102, 103, 106, 108, 437, 438, 439, 440, 110, 441, 442, 443, 444, 107, 445, 446, 447, 448, 104, 109, 105, 449, 450, 451, 452, 453, 454, 455, 456, 457, 458, 459, 460, 461, 462, 463, 464, 287, 288, 56, 289, 74, 75, 72, 73, 465, 466, 467, 14, 468, 62, 63, 64, 65, 469, 470, 471, 472, 1406, 1407, 1408, 1409, 1410, 1411, 1412, 1413, 1414, 1415, 1416, 1417, 1418, 1419, 1468, 1469, 1470, 1471, 1472, 1473, 1474, 1475, 1476, 1477, 1478, 1508, 1509, 1510, 1511, 1512, 1513, 1462, 1463, 1464, 1465, 1466, 1467] (by decide +kernel) (by decide +kernel)
set_option maxRecDepth 20000 in
theorem gL_law_X10_named : GoodIn wsL_law (wsV RL 36 RX10 yX10_named wsX10_named) := goodIn_app (goodIn_of _ (by decide +kernel)) ggL_law_X10_named
set_option maxRecDepth 20000 in
theorem ggL_law_X11_named : GoodIn wsL_law wsX11_named := goodIn_r _ [476, 477, 203, 478, 479, 480, 481, 235, 236, 5, 237, 482, 483, 484, 485, 486, 487, 488, 166, 165, 489, 490, 491, 492, 173, 493, 494, 495, 496, 238, 239, 240, 241, 167, 168, 169, 184, 185, 186, 497, 498, 499, 500, 501, 502, 336, 337, 338, 339, 319, 320, 321, 322, 257, 258, 259, 260, 327, 328, 329, 330, 503, 504, 505, 506, 507, 508, 509, 510, 1420, 1421, 1422, 1423, 1424, 1425, 1426, 1427, 1428, 1429, 1430, 1431, 1432, 1433, 1434, 1435, 1436, 1437, 1438, 1439, 1440, 1441, 1442, 1443, 1444, 1445, 1446, 1447, 1448, 1449, 1450, 1451, 1452, 1453, 1454, 1455, 1456, 1457, 1458, 1459, 1460, 1461] (by decide +kernel) (by decide +kernel)
set_option maxRecDepth 20000 in
theorem gL_law_X11_named : GoodIn wsL_law (wsV RL 39 RX11 yX11_named wsX11_named) := goodIn_app (goodIn_of _ (by decide +kernel)) ggL_law_X11_named
set_option maxRecDepth 20000 in
theorem ggL_law_X10_edge : GoodIn wsL_law wsX10_edge := goodIn_r _ [514, 16, 515, 35, 516, 517, 518, 519, 344, 345, 346, 56, 347, 75, 247, 2, 248, 213, 214, 215, 348, 349, 350, 34, 351, 130, 136, 131, 132, 134, 133, 135, 352, 353, 354, 355, 74, 72, 73, 356, 357, 358, 359, 287, 288, 289, 360, 296, 297, 298, 361, 362, 363, 364, 520, 521, 522, 523, 524, 525, 526, 527, 528, 529, 530, 531, 532, 533, 534, 535, 536, 1406, 1407, 1408, 1409, 1410, 1411, 1412, 1413, 1414, 1415, 1416, 1417, 1418, 1419, 1508, 1509, 1510, 1511, 1512, 1513, 1486, 1487, 1488, 1489, 1490, 1491, 1492, 1493, 1494, 1495, 1496] (by decide +kernel) (by decide +kernel)
set_option maxRecDepth 20000 in
theorem gL_law_X10_edge : GoodIn wsL_law (wsV RL 40 RX10 yX10_edge wsX10_edge) := goodIn_app (goodIn_of _ (by decide +kernel)) ggL_law_X10_edge
set_option maxRecDepth 20000 in
theorem ggL_law_X11_edge : GoodIn wsL_law wsX11_edge := goodIn_r _ [540, 541, 542, 175, 543, 544, 401, 402, 403, 5, 404, 254, 255, 256, 230, 235, 236, 237, 238, 239, 240, 241, 167, 168, 169, 545, 546, 547, 548, 335, 549, 307, 306, 550, 551, 413, 414, 415, 416, 319, 320, 321, 322, 257, 258, 259, 260, 184, 185, 186, 323, 324, 325, 326, 327, 328, 329, 330, 417, 418, 419, 420, 336, 337, 338, 339, 552, 553, 554, 1420, 1421, 1422, 1423, 1424, 1425, 1426, 1427, 1428, 1429, 1430, 1431, 1432, 1433, 1434, 1435, 1436, 1437, 1438, 1439, 1440, 1441, 1442, 1443, 1444, 1445, 1446, 1447, 1448, 1449, 1450, 1451, 1452, 1453, 1454, 1455, 1456, 1457, 1458, 1459, 1460, 1461] (by decide +kernel) (by decide +kernel)
set_option maxRecDepth 20000 in
theorem gL_law_X11_edge : GoodIn wsL_law (wsV RL 44 RX11 yX11_edge wsX11_edge) := goodIn_app (goodIn_of _ (by decide +kernel)) ggL_law_X11_edge
set_option maxRecDepth 20000 in
theorem ggL_law_X10_middle : GoodIn wsL_law wsX10_middle := goodIn_r _ [558, 16, 559, 35, 344, 345, 346, 56, 347, 75, 247, 2, 248, 213, 214, 215, 348, 349, 350, 34, 351, 130, 136, 131, 132, 134, 133, 135, 352, 353, 354, 355, 74, 72, 73, 356, 357, 358, 359, 287, 288, 289, 360, 296, 297, 298, 361, 362, 363, 364, 560, 561, 562, 563, 527, 526, 564, 565, 521, 522, 523, 524, 525, 528, 529, 566, 531, 532, 533, 567, 283, 284, 285, 568, 569, 570, 571, 1406, 1407, 1408, 1409, 1410, 1411, 1412, 1413, 1414, 1415, 1416, 1417, 1418, 1419, 1508, 1509, 1510, 1511, 1512, 1513, 1486, 1487, 1488, 1489, 1490, 1491, 1492, 1493, 1494, 1495, 1496] (by decide +kernel) (by decide +kernel)
set_option maxRecDepth 20000 in
theorem gL_law_X10_middle : GoodIn wsL_law (wsV RL 45 RX10 yX10_middle wsX10_middle) := goodIn_app (goodIn_of _ (by decide +kernel)) ggL_law_X10_middle
set_option maxRecDepth 20000 in
theorem ggL_law_X11_middle : GoodIn wsL_law wsX11_middle := goodIn_r _ [575, 576, 401, 402, 403, 5, 404, 254, 255, 256, 230, 235, 236, 237, 238, 239, 240, 241, 167, 168, 169, 577, 578, 579, 580, 581, 582, 175, 233, 543, 544, 409, 410, 411, 412, 545, 546, 547, 548, 335, 549, 307, 306, 550, 551, 413, 414, 415, 416, 319, 320, 321, 322, 257, 258, 259, 260, 184, 185, 186, 323, 324, 325, 326, 327, 328, 329, 330, 417, 418, 419, 420, 336, 337, 338, 339, 583, 584, 585, 1420, 1421, 1422, 1423, 1424, 1425, 1426, 1427, 1428, 1429, 1430, 1431, 1432, 1433, 1434, 1435, 1436, 1437, 1438, 1439, 1440, 1441, 1442, 1443, 1444, 1445, 1446, 1447, 1448, 1449, 1450, 1451, 1452, 1453, 1454, 1455, 1456, 1457, 1458, 1459, 1460, 1461] (by decide +kernel) (by decide +kernel)
set_option maxRecDepth 20000 in
theorem gL_law_X11_middle : GoodIn wsL_law (wsV RL 48 RX11 yX11_middle wsX11_middle) := goodIn_app (goodIn_of _ (by decide +kernel)) ggL_law_X11_middle
set_option maxRecDepth 20000 in
theorem ggL_law_X10_at : GoodIn wsL_law wsX10_at := goodIn_r _ [589, 16, 559, 35, 344, 345, 346, 56, 347, 75, 247, 2, 248, 348, 349, 350, 34, 351, 130, 136, 131, 132, 134, 133, 135, 352, 353, 354, 355, 74, 72, 73, 356, 357, 358, 359, 287, 288, 289, 360, 296, 297, 298, 361, 362, 363, 364, 590, 374, 375, 376, 591, 382, 383, 384, 592, 378, 379, 380, 381, 385, 386, 387, 388, 389, 390, 391, 392, 1406, 1407, 1408, 1409, 1410, 1411, 1412, 1413, 1414, 1415, 1416, 1417, 1418, 1419, 1486, 1487, 1488, 1489, 1490, 1491, 1492, 1493, 1494, 1495, 1496, 1508, 1509, 1510, 1511, 1512, 1513] (by decide +kernel) (by decide +kernel)
set_option maxRecDepth 20000 in
theorem gL_law_X10_at : GoodIn wsL_law (wsV RL 49 RX10 yX10_at wsX10_at) := goodIn_app (goodIn_of _ (by decide +kernel)) ggL_law_X10_at
set_option maxRecDepth 20000 in
theorem ggL_law_X11_at : GoodIn wsL_law wsX11_at := goodIn_r _ [596, 253, 576, 168, 401, 402, 403, 5, 404, 254, 255, 256, 230, 235, 236, 237, 238, 239, 240, 241, 167, 169, 413, 414, 415, 416, 319, 320, 321, 322, 257, 258, 259, 260, 184, 185, 186, 417, 418, 419, 420, 336, 337, 338, 339, 327, 328, 329, 330, 409, 410, 411, 412, 323, 324, 325, 326, 425, 426, 427, 428, 165, 166, 1420, 1421, 1422, 1423, 1424, 1425, 1426, 1427, 1428, 1429, 1430, 1431, 1432, 1433, 1434, 1435, 1436, 1437, 1438, 1439, 1440, 1441, 1442, 1443, 1444, 1445, 1446, 1447, 1448, 1449, 1450, 1451, 1452, 1453, 1454, 1455, 1456, 1457, 1458, 1459, 1460, 1461] (by decide +kernel) (by decide +kernel)
set_option maxRecDepth 20000 in
theorem gL_law_X11_at : GoodIn wsL_law (wsV RL 52 RX11 yX11_at wsX11_at) := goodIn_app (goodIn_of _ (by decide +kernel)) ggL_law_X11_at
set_option maxRecDepth 20000 in
theorem ggL_law_X10_keyAt : GoodIn wsL_law wsX10_keyAt := goodIn_r _ [600, 16, 246, 247, 2, 248, 213, 214, 215, 601, 296, 297, 56, 298, 74, 72, 73, 602, 287, 288, 289, 75, 1406, 1407, 1408, 1409, 1410, 1411, 1412, 1413, 1414, 1415, 1416, 1417, 1418, 1419, 1508, 1509, 1510, 1511, 1512, 1513] (by decide +kernel) (by decide +kernel)
set_option maxRecDepth 20000 in
theorem gL_law_X10_keyAt : GoodIn wsL_law (wsV RL 53 RX10 yX10_keyAt wsX10_keyAt) := goodIn_app (goodIn_of _ (by decide +kernel)) ggL_law_X10_keyAt
set_option maxRecDepth 20000 in
theorem ggL_law_X11_keyAt : GoodIn wsL_law wsX11_keyAt := goodIn_r _ [606, 254, 255, 5, 256, 230, 235, 236, 237, 319, 320, 321, 322, 257, 258, 259, 260, 167, 323, 324, 325, 326, 168, 327, 328, 329, 330, 184, 185, 186, 336, 337, 338, 339, 169, 238, 239, 240, 241, 1420, 1421, 1422, 1423, 1424, 1425, 1426, 1427, 1428, 1429, 1430, 1431, 1432, 1433, 1434, 1435, 1436, 1437, 1438, 1439, 1440, 1441, 1442, 1443, 1444, 1445, 1446, 1447, 1448, 1449, 1450, 1451, 1452, 1453, 1454, 1455, 1456, 1457, 1458, 1459, 1460, 1461] (by decide +kernel) (by decide +kernel)
set_option maxRecDepth 20000 in
theorem gL_law_X11_keyAt : GoodIn wsL_law (wsV RL 56 RX11 yX11_keyAt wsX11_keyAt) := goodIn_app (goodIn_of _ (by decide +kernel)) ggL_law_X11_keyAt
set_option maxRecDepth 20000 in
theorem ggL_law_X10_parent : GoodIn wsL_law wsX10_parent := goodIn_r _ [610, 16, 344, 345, 346, 56, 347, 75, 247, 2, 248, 213, 214, 215, 611, 612, 613, 614, 74, 615, 353, 354, 355, 72, 73, 356, 357, 358, 286, 287, 288, 289, 616, 386, 387, 388, 617, 390, 391, 392, 1406, 1407, 1408, 1409, 1410, 1411, 1412, 1413, 1414, 1415, 1416, 1417, 1418, 1419, 1508, 1509, 1510, 1511, 1512, 1513] (by decide +kernel) (by decide +kernel)
