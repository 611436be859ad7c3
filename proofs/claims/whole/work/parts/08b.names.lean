set_option maxRecDepth 20000 in
theorem ggL_law_X11_init : GoodIn wsL_law wsX11_init := goodIn_r _ [8, 9, 10, 11, 12, 13, 14, 15, 16, 17, 18, 19, 20, 21, 22, 23, 24, 25, 26, 27, 28, 29, 30, 31, 32, 33, 34, 35, 36, 37, 38, 39, 40, 41, 42, 43, 44, 45, 46, 47, 48, 49, 50, 51, 52, 53, 54, 55, 56, 57, 58, 59, 60, 61, 62, 63, 64, 65, 66, 67, 68, 69, 70, 71, 72, 73, 74, 75, 76, 77, 78, 79, 80, 81, 82, 83, 84, 85, 86, 87, 88, 89, 90, 91, 92, 93, 94, 95, 96, 97, 98, 99, 100, 101, 102, 103, 104, 105, 106, 107, 108, 109, 110, 111, 112, 1382, 1383, 1384, 1325, 1326, 1327, 1328, 1329, 1330, 1331, 1332, 1333, 1334, 1335, 1336, 1385, 1386, 1387, 1388, 1389, 1390, 1391, 1392, 1393, 1394, 1395, 1396, 1397, 1398, 1399, 1400, 1401, 1402, 1403, 1404, 1405, 1406, 1407, 1408, 1409, 1410, 1411, 1412, 1413, 1414, 1415, 1416, 1417, 1418, 1419, 1420, 1421, 1422, 1423, 1424, 1425, 1426, 1427, 1428, 1429, 1430, 1431] (by decide +kernel) (by decide +kernel)
set_option maxRecDepth 20000 in
theorem gL_law_X11_init : GoodIn wsL_law (wsX11_init) := ggL_law_X11_init
set_option maxRecDepth 20000 in
theorem ggL_law_X12_init : GoodIn wsL_law wsX12_init := goodIn_r _ [115, 116, 10, 11, 46, 117, 118, 119, 120, 71, 121, 122, 123, 124, 125, 126, 127, 128, 129, 130, 131, 132, 133, 134, 135, 136, 137, 138, 139, 140, 141, 142, 143, 144, 1337, 1338, 1339, 1340, 1341, 1342, 1343, 1344, 1345, 1346, 1347, 1348, 1349, 1350, 1351, 1352, 1353, 1354, 1355, 1356, 1357, 1358, 1359, 1360, 1361, 1362, 1363, 1364, 1365, 1366, 1367, 1368, 1369, 1370, 1371, 1372, 1373, 1374, 1375, 1376, 1377, 1378, 1379, 1380, 1381] (by decide +kernel) (by decide +kernel)
set_option maxRecDepth 20000 in
theorem gL_law_X12_init : GoodIn wsL_law (wsX12_init) := ggL_law_X12_init
set_option maxRecDepth 20000 in
theorem ggL_law_X11_house : GoodIn wsL_law wsX11_house := goodIn_r _ [148, 149, 15, 19, 150, 23, 27, 151, 45, 152, 153, 154, 155, 14, 156, 157, 158, 159, 160, 161, 162, 163, 164, 165, 166, 167, 52, 168, 169, 170, 171, 172, 173, 174, 175, 53, 176, 177, 178, 2, 179, 180, 181, 182, 183, 184, 185, 18, 186, 187, 188, 189, 190, 191, 192, 193, 194, 195, 196, 197, 198, 199, 200, 201, 202, 203, 204, 205, 206, 207, 208, 209, 210, 211, 212, 213, 214, 215, 216, 217, 59, 60, 61, 62, 218, 219, 220, 221, 222, 223, 224, 22, 225, 226, 227, 228, 229, 230, 231, 67, 232, 68, 233, 69, 234, 70, 235, 72, 236, 237, 238, 239, 73, 240, 241, 242, 243, 244, 245, 246, 247, 248, 249, 250, 251, 252, 29, 253, 1325, 1326, 1327, 1328, 1329, 1330, 1331, 1332, 1333, 1334, 1335, 1336, 1382, 1383, 1384, 1405, 1406, 1407, 1408, 1409, 1426, 1427, 1428, 1429, 1430, 1431, 1396, 1397, 1398, 1399, 1400, 1401, 1402, 1403, 1404, 1385, 1386, 1387, 1388, 1389, 1390, 1391, 1392, 1393, 1394, 1395] (by decide +kernel) (by decide +kernel)
set_option maxRecDepth 20000 in
theorem gL_law_X11_house : GoodIn wsL_law (wsV RL 13 RX11 yX11_house wsX11_house) := goodIn_app (goodIn_of _ (by decide +kernel)) ggL_law_X11_house
set_option maxRecDepth 20000 in
theorem ggL_law_X12_house : GoodIn wsL_law wsX12_house := goodIn_r _ [257, 258, 259, 260, 261, 262, 263, 264, 117, 122, 118, 123, 119, 124, 120, 125, 121, 265, 266, 267, 268, 269, 5, 270, 271, 272, 273, 274, 275, 276, 277, 278, 279, 280, 281, 282, 283, 284, 285, 286, 287, 141, 142, 288, 289, 290, 291, 292, 293, 294, 295, 296, 297, 298, 299, 300, 301, 302, 303, 143, 304, 305, 306, 307, 308, 309, 310, 311, 312, 313, 314, 315, 126, 316, 317, 318, 319, 320, 321, 322, 323, 1337, 1338, 1339, 1340, 1341, 1342, 1343, 1344, 1345, 1346, 1347, 1348, 1349, 1350, 1351, 1352, 1353, 1354, 1355, 1356, 1357, 1358, 1359, 1360, 1361, 1362, 1363, 1364, 1365, 1366, 1367, 1368, 1369, 1370, 1371, 1372, 1373, 1374, 1375, 1376, 1377, 1378, 1379, 1380, 1381] (by decide +kernel) (by decide +kernel)
set_option maxRecDepth 20000 in
theorem gL_law_X12_house : GoodIn wsL_law (wsV RL 17 RX12 yX12_house wsX12_house) := goodIn_app (goodIn_of _ (by decide +kernel)) ggL_law_X12_house
set_option maxRecDepth 20000 in
theorem ggL_law_X11_ofRun : GoodIn wsL_law wsX11_ofRun := goodIn_r _ [327, 23, 328, 329, 330, 331, 332, 333, 334, 335, 22, 336, 231, 1325, 1326, 1327, 1328, 1329, 1330, 1331, 1332, 1333, 1334, 1335, 1336, 1396, 1397, 1398, 1399, 1400, 1401, 1402, 1403, 1404] (by decide +kernel) (by decide +kernel)
set_option maxRecDepth 20000 in
theorem gL_law_X11_ofRun : GoodIn wsL_law (wsV RL 18 RX11 yX11_ofRun wsX11_ofRun) := goodIn_app (goodIn_of _ (by decide +kernel)) ggL_law_X11_ofRun
set_option maxRecDepth 20000 in
theorem ggL_law_X12_ofRun : GoodIn wsL_law wsX12_ofRun := goodIn_r _ [340, 117, 118, 119, 120, 121, 341, 342, 343, 5, 344, 264, 272, 273, 274, 1337, 1338, 1339, 1340, 1341, 1342, 1343, 1344, 1345, 1346, 1347, 1348, 1349, 1350, 1351, 1352, 1353, 1354, 1355, 1356, 1357, 1358, 1359, 1360, 1361, 1362, 1363, 1364, 1365, 1366, 1367, 1368, 1369, 1370, 1371, 1372, 1373, 1374, 1375, 1376, 1377, 1378, 1379, 1380, 1381] (by decide +kernel) (by decide +kernel)
set_option maxRecDepth 20000 in
theorem gL_law_X12_ofRun : GoodIn wsL_law (wsV RL 22 RX12 yX12_ofRun wsX12_ofRun) := goodIn_app (goodIn_of _ (by decide +kernel)) ggL_law_X12_ofRun
set_option maxRecDepth 20000 in
theorem ggL_law_X11_shut : GoodIn wsL_law wsX11_shut := goodIn_r _ [348, 23, 332, 333, 334, 335, 22, 336, 231, 349, 350, 351, 352, 72, 236, 237, 238, 239, 73, 240, 67, 68, 227, 241, 242, 243, 244, 69, 70, 245, 246, 247, 248, 1325, 1326, 1327, 1328, 1329, 1330, 1331, 1332, 1333, 1334, 1335, 1336, 1396, 1397, 1398, 1399, 1400, 1401, 1402, 1403, 1404] (by decide +kernel) (by decide +kernel)
set_option maxRecDepth 20000 in
theorem gL_law_X11_shut : GoodIn wsL_law (wsV RL 23 RX11 yX11_shut wsX11_shut) := goodIn_app (goodIn_of _ (by decide +kernel)) ggL_law_X11_shut
set_option maxRecDepth 20000 in
theorem ggL_law_X12_shut : GoodIn wsL_law wsX12_shut := goodIn_r _ [356, 121, 341, 342, 343, 5, 344, 264, 272, 273, 274, 312, 313, 314, 315, 126, 316, 260, 117, 118, 317, 318, 319, 320, 119, 120, 321, 322, 323, 1337, 1338, 1339, 1340, 1341, 1342, 1343, 1344, 1345, 1346, 1347, 1348, 1349, 1350, 1351, 1352, 1353, 1354, 1355, 1356, 1357, 1358, 1359, 1360, 1361, 1362, 1363, 1364, 1365, 1366, 1367, 1368, 1369, 1370, 1371, 1372, 1373, 1374, 1375, 1376, 1377, 1378, 1379, 1380, 1381] (by decide +kernel) (by decide +kernel)
set_option maxRecDepth 20000 in
theorem gL_law_X12_shut : GoodIn wsL_law (wsV RL 27 RX12 yX12_shut wsX12_shut) := goodIn_app (goodIn_of _ (by decide +kernel)) ggL_law_X12_shut
set_option maxRecDepth 20000 in
theorem ggL_law_X11_run : GoodIn wsL_law wsX11_run := goodIn_r _ [360, 23, 361, 362, 363, 22, 364, 227, 365, 366, 367, 368, 73, 240, 369, 370, 371, 372, 373, 374, 375, 376, 377, 378, 379, 380, 381, 382, 383, 384, 231, 72, 67, 68, 241, 242, 243, 244, 69, 70, 385, 386, 387, 388, 1325, 1326, 1327, 1328, 1329, 1330, 1331, 1332, 1333, 1334, 1335, 1336, 1396, 1397, 1398, 1399, 1400, 1401, 1402, 1403, 1404] (by decide +kernel) (by decide +kernel)
set_option maxRecDepth 20000 in
theorem gL_law_X11_run : GoodIn wsL_law (wsV RL 28 RX11 yX11_run wsX11_run) := goodIn_app (goodIn_of _ (by decide +kernel)) ggL_law_X11_run
set_option maxRecDepth 20000 in
theorem ggL_law_X12_run : GoodIn wsL_law wsX12_run := goodIn_r _ [392, 283, 126, 393, 394, 395, 5, 396, 260, 272, 273, 274, 397, 398, 399, 400, 316, 401, 402, 403, 404, 405, 406, 407, 408, 264, 409, 410, 411, 412, 121, 117, 118, 317, 318, 319, 320, 119, 120, 413, 414, 415, 416, 1337, 1338, 1339, 1340, 1341, 1342, 1343, 1344, 1345, 1346, 1347, 1348, 1349, 1350, 1351, 1352, 1353, 1354, 1355, 1356, 1357, 1358, 1359, 1360, 1361, 1362, 1363, 1364, 1365, 1366, 1367, 1368, 1369, 1370, 1371, 1372, 1373, 1374, 1375, 1376, 1377, 1378, 1379, 1380, 1381] (by decide +kernel) (by decide +kernel)
set_option maxRecDepth 20000 in
theorem gL_law_X12_run : GoodIn wsL_law (wsV RL 32 RX12 yX12_run wsX12_run) := goodIn_app (goodIn_of _ (by decide +kernel)) ggL_law_X12_run
set_option maxRecDepth 20000 in
theorem ggL_law_X11_along : GoodIn wsL_law wsX11_along := goodIn_r _ [420, 23, 361, 362, 363, 22, 364, 227, 421, 422, 423, 424, 381, 382, 383, 384, 73, 240, 231, 72, 67, 68, 241, 242, 243, 244, 69, 70, 385, 386, 387, 388, 1325, 1326, 1327, 1328, 1329, 1330, 1331, 1332, 1333, 1334, 1335, 1336, 1396, 1397, 1398, 1399, 1400, 1401, 1402, 1403, 1404] (by decide +kernel) (by decide +kernel)
set_option maxRecDepth 20000 in
theorem gL_law_X11_along : GoodIn wsL_law (wsV RL 33 RX11 yX11_along wsX11_along) := goodIn_app (goodIn_of _ (by decide +kernel)) ggL_law_X11_along
set_option maxRecDepth 20000 in
theorem ggL_law_X12_along : GoodIn wsL_law wsX12_along := goodIn_r _ [428, 393, 394, 395, 5, 396, 260, 272, 273, 274, 401, 402, 403, 404, 405, 406, 407, 408, 264, 126, 397, 398, 399, 400, 316, 409, 410, 411, 412, 121, 117, 118, 317, 318, 319, 320, 119, 120, 1337, 1338, 1339, 1340, 1341, 1342, 1343, 1344, 1345, 1346, 1347, 1348, 1349, 1350, 1351, 1352, 1353, 1354, 1355, 1356, 1357, 1358, 1359, 1360, 1361, 1362, 1363, 1364, 1365, 1366, 1367, 1368, 1369, 1370, 1371, 1372, 1373, 1374, 1375, 1376, 1377, 1378, 1379, 1380, 1381] (by decide +kernel) (by decide +kernel)
set_option maxRecDepth 20000 in
theorem gL_law_X12_along : GoodIn wsL_law (wsV RL 36 RX12 yX12_along wsX12_along) := goodIn_app (goodIn_of _ (by decide +kernel)) ggL_law_X12_along
set_option maxRecDepth 20000 in
theorem ggL_law_X11_box : GoodIn wsL_law wsX11_box := goodIn_r _ [432, 23, 433, 361, 362, 363, 22, 364, 227, 1325, 1326, 1327, 1328, 1329, 1330, 1331, 1332, 1333, 1334, 1335, 1336, 1396, 1397, 1398, 1399, 1400, 1401, 1402, 1403, 1404] (by decide +kernel) (by decide +kernel)
set_option maxRecDepth 20000 in
theorem gL_law_X11_box : GoodIn wsL_law (wsV RL 37 RX11 yX11_box wsX11_box) := goodIn_app (goodIn_of _ (by decide +kernel)) ggL_law_X11_box
set_option maxRecDepth 20000 in
theorem ggL_law_X12_box : GoodIn wsL_law wsX12_box := goodIn_r _ [437, 262, 393, 394, 395, 5, 396, 260, 272, 273, 274, 1337, 1338, 1339, 1340, 1341, 1342, 1343, 1344, 1345, 1346, 1347, 1348, 1349, 1350, 1351, 1352, 1353, 1354, 1355, 1356, 1357, 1358, 1359, 1360, 1361, 1362, 1363, 1364, 1365, 1366, 1367, 1368, 1369, 1370, 1371, 1372, 1373, 1374, 1375, 1376, 1377, 1378, 1379, 1380, 1381] (by decide +kernel) (by decide +kernel)
set_option maxRecDepth 20000 in
theorem gL_law_X12_box : GoodIn wsL_law (wsV RL 41 RX12 yX12_box wsX12_box) := goodIn_app (goodIn_of _ (by decide +kernel)) ggL_law_X12_box
set_option maxRecDepth 20000 in
theorem ggL_law_X11_point : GoodIn wsL_law wsX11_point := goodIn_r _ [441, 23, 27, 151, 361, 362, 363, 22, 364, 227, 442, 443, 26, 444, 445, 446, 447, 448, 449, 78, 79, 80, 81, 1325, 1326, 1327, 1328, 1329, 1330, 1331, 1332, 1333, 1334, 1335, 1336, 1405, 1406, 1407, 1408, 1409, 1396, 1397, 1398, 1399, 1400, 1401, 1402, 1403, 1404] (by decide +kernel) (by decide +kernel)
set_option maxRecDepth 20000 in
theorem gL_law_X11_point : GoodIn wsL_law (wsV RL 42 RX11 yX11_point wsX11_point) := goodIn_app (goodIn_of _ (by decide +kernel)) ggL_law_X11_point
set_option maxRecDepth 20000 in
theorem ggL_law_X12_point : GoodIn wsL_law wsX12_point := goodIn_r _ [453, 454, 455, 265, 127, 128, 129, 393, 394, 395, 5, 396, 260, 272, 273, 274, 1337, 1338, 1339, 1340, 1341, 1342, 1343, 1344, 1345, 1346, 1347, 1348, 1349, 1350, 1351, 1352, 1353, 1354, 1355, 1356, 1357, 1358, 1359, 1360, 1361, 1362, 1363, 1364, 1365, 1366, 1367, 1368, 1369, 1370, 1371, 1372, 1373, 1374, 1375, 1376, 1377, 1378, 1379, 1380, 1381] (by decide +kernel) (by decide +kernel)
set_option maxRecDepth 20000 in
theorem gL_law_X12_point : GoodIn wsL_law (wsV RL 45 RX12 yX12_point wsX12_point) := goodIn_app (goodIn_of _ (by decide +kernel)) ggL_law_X12_point
set_option maxRecDepth 20000 in
theorem ggL_law_X11_ofPoint : GoodIn wsL_law wsX11_ofPoint := goodIn_r _ [459, 27, 460, 461, 462, 463, 464, 465, 466, 26, 467, 449, 1325, 1326, 1327, 1328, 1329, 1330, 1331, 1332, 1333, 1334, 1335, 1336, 1405, 1406, 1407, 1408, 1409] (by decide +kernel) (by decide +kernel)
set_option maxRecDepth 20000 in
theorem gL_law_X11_ofPoint : GoodIn wsL_law (wsV RL 46 RX11 yX11_ofPoint wsX11_ofPoint) := goodIn_app (goodIn_of _ (by decide +kernel)) ggL_law_X11_ofPoint
set_option maxRecDepth 20000 in
theorem ggL_law_X12_ofPoint : GoodIn wsL_law wsX12_ofPoint := goodIn_r _ [471, 127, 128, 129, 472, 473, 474, 5, 475, 265, 272, 273, 274, 476, 477, 478, 479, 266, 133, 130, 134, 1337, 1338, 1339, 1340, 1341, 1342, 1343, 1344, 1345, 1346, 1347, 1348, 1349, 1350, 1351, 1352, 1353, 1354, 1355, 1356, 1357, 1358, 1359, 1360, 1361, 1362, 1363, 1364, 1365, 1366, 1367, 1368, 1369, 1370, 1371, 1372, 1373, 1374, 1375, 1376, 1377, 1378, 1379, 1380, 1381] (by decide +kernel) (by decide +kernel)
set_option maxRecDepth 20000 in
theorem gL_law_X12_ofPoint : GoodIn wsL_law (wsV RL 49 RX12 yX12_ofPoint wsX12_ofPoint) := goodIn_app (goodIn_of _ (by decide +kernel)) ggL_law_X12_ofPoint
set_option maxRecDepth 20000 in
theorem ggL_law_X11_load : GoodIn wsL_law wsX11_load := goodIn_r _ [483, 27, 461, 464, 465, 466, 26, 467, 449, 442, 443, 444, 1325, 1326, 1327, 1328, 1329, 1330, 1331, 1332, 1333, 1334, 1335, 1336, 1405, 1406, 1407, 1408, 1409] (by decide +kernel) (by decide +kernel)
set_option maxRecDepth 20000 in
theorem gL_law_X11_load : GoodIn wsL_law (wsV RL 50 RX11 yX11_load wsX11_load) := goodIn_app (goodIn_of _ (by decide +kernel)) ggL_law_X11_load
set_option maxRecDepth 20000 in
theorem ggL_law_X12_load : GoodIn wsL_law wsX12_load := goodIn_r _ [487, 454, 128, 472, 473, 474, 5, 475, 265, 272, 273, 274, 1337, 1338, 1339, 1340, 1341, 1342, 1343, 1344, 1345, 1346, 1347, 1348, 1349, 1350, 1351, 1352, 1353, 1354, 1355, 1356, 1357, 1358, 1359, 1360, 1361, 1362, 1363, 1364, 1365, 1366, 1367, 1368, 1369, 1370, 1371, 1372, 1373, 1374, 1375, 1376, 1377, 1378, 1379, 1380, 1381] (by decide +kernel) (by decide +kernel)
set_option maxRecDepth 20000 in
theorem gL_law_X12_load : GoodIn wsL_law (wsV RL 53 RX12 yX12_load wsX12_load) := goodIn_app (goodIn_of _ (by decide +kernel)) ggL_law_X12_load
set_option maxRecDepth 20000 in
theorem ggL_law_X11_way : GoodIn wsL_law wsX11_way := goodIn_r _ [491, 149, 15, 27, 150, 253, 154, 155, 14, 156, 492, 493, 2, 494, 157, 158, 159, 160, 161, 162, 163, 164, 165, 166, 167, 52, 168, 169, 170, 171, 172, 173, 174, 175, 53, 176, 177, 178, 179, 180, 181, 182, 495, 496, 497, 26, 498, 81, 499, 465, 466, 467, 449, 500, 501, 502, 503, 46, 504, 505, 506, 507, 29, 28, 508, 509, 510, 511, 512, 513, 514, 515, 516, 517, 518, 519, 10, 11, 520, 521, 522, 523, 524, 525, 526, 527, 528, 529, 530, 531, 532, 533, 534, 1325, 1326, 1327, 1328, 1329, 1330, 1331, 1332, 1333, 1334, 1335, 1336, 1382, 1383, 1384, 1405, 1406, 1407, 1408, 1409, 1432, 1433, 1434, 1435, 1436, 1437, 1438, 1439, 1440] (by decide +kernel) (by decide +kernel)
set_option maxRecDepth 20000 in
theorem gL_law_X11_way : GoodIn wsL_law (wsV RL 54 RX11 yX11_way wsX11_way) := goodIn_app (goodIn_of _ (by decide +kernel)) ggL_law_X11_way
set_option maxRecDepth 20000 in
theorem ggL_law_X12_way : GoodIn wsL_law wsX12_way := goodIn_r _ [538, 283, 539, 540, 143, 266, 130, 131, 132, 133, 134, 268, 269, 5, 270, 271, 272, 273, 274, 275, 276, 277, 278, 279, 280, 281, 282, 284, 285, 286, 287, 141, 142, 288, 289, 290, 291, 292, 293, 294, 472, 473, 474, 475, 265, 541, 542, 543, 476, 477, 478, 479, 1337, 1338, 1339, 1340, 1341, 1342, 1343, 1344, 1345, 1346, 1347, 1348, 1349, 1350, 1351, 1352, 1353, 1354, 1355, 1356, 1357, 1358, 1359, 1360, 1361, 1362, 1363, 1364, 1365, 1366, 1367, 1368, 1369, 1370, 1371, 1372, 1373, 1374, 1375, 1376, 1377, 1378, 1379, 1380, 1381] (by decide +kernel) (by decide +kernel)
set_option maxRecDepth 20000 in
theorem gL_law_X12_way : GoodIn wsL_law (wsV RL 58 RX12 yX12_way wsX12_way) := goodIn_app (goodIn_of _ (by decide +kernel)) ggL_law_X12_way
set_option maxRecDepth 20000 in
theorem ggL_law_X11_away : GoodIn wsL_law wsX11_away := goodIn_r _ [547, 27, 548, 29, 549, 550, 551, 2, 552, 253, 531, 532, 533, 26, 534, 81, 499, 465, 466, 467, 449, 1325, 1326, 1327, 1328, 1329, 1330, 1331, 1332, 1333, 1334, 1335, 1336, 1432, 1433, 1434, 1435, 1436, 1437, 1438, 1439, 1440, 1405, 1406, 1407, 1408, 1409] (by decide +kernel) (by decide +kernel)
set_option maxRecDepth 20000 in
theorem gL_law_X11_away : GoodIn wsL_law (wsV RL 59 RX11 yX11_away wsX11_away) := goodIn_app (goodIn_of _ (by decide +kernel)) ggL_law_X11_away
set_option maxRecDepth 20000 in
theorem ggL_law_X12_away : GoodIn wsL_law wsX12_away := goodIn_r _ [556, 130, 133, 557, 558, 559, 5, 560, 266, 272, 273, 274, 1337, 1338, 1339, 1340, 1341, 1342, 1343, 1344, 1345, 1346, 1347, 1348, 1349, 1350, 1351, 1352, 1353, 1354, 1355, 1356, 1357, 1358, 1359, 1360, 1361, 1362, 1363, 1364, 1365, 1366, 1367, 1368, 1369, 1370, 1371, 1372, 1373, 1374, 1375, 1376, 1377, 1378, 1379, 1380, 1381] (by decide +kernel) (by decide +kernel)
set_option maxRecDepth 20000 in
theorem gL_law_X12_away : GoodIn wsL_law (wsV RL 62 RX12 yX12_away wsX12_away) := goodIn_app (goodIn_of _ (by decide +kernel)) ggL_law_X12_away
set_option maxRecDepth 20000 in
theorem ggL_law_X11_ofWay : GoodIn wsL_law wsX11_ofWay := goodIn_r _ [564, 548, 565, 549, 550, 551, 2, 552, 253, 29, 566, 567, 568, 509, 569, 570, 571, 572, 573, 574, 512, 575, 576, 577, 515, 578, 579, 580, 581, 582, 522, 583, 584, 585, 586, 587, 588, 589, 590, 591, 1432, 1433, 1434, 1435, 1436, 1437, 1438, 1439, 1440, 1325, 1326, 1327, 1328, 1329, 1330, 1331, 1332, 1333, 1334, 1335, 1336] (by decide +kernel) (by decide +kernel)
set_option maxRecDepth 20000 in
theorem gL_law_X11_ofWay : GoodIn wsL_law (wsV RL 63 RX11 yX11_ofWay wsX11_ofWay) := goodIn_app (goodIn_of _ (by decide +kernel)) ggL_law_X11_ofWay
set_option maxRecDepth 20000 in
theorem ggL_law_X12_ofWay : GoodIn wsL_law wsX12_ofWay := goodIn_r _ [595, 131, 132, 133, 596, 597, 134, 557, 558, 559, 5, 560, 266, 130, 272, 273, 274, 598, 599, 600, 601, 1337, 1338, 1339, 1340, 1341, 1342, 1343, 1344, 1345, 1346, 1347, 1348, 1349, 1350, 1351, 1352, 1353, 1354, 1355, 1356, 1357, 1358, 1359, 1360, 1361, 1362, 1363, 1364, 1365, 1366, 1367, 1368, 1369, 1370, 1371, 1372, 1373, 1374, 1375, 1376, 1377, 1378, 1379, 1380, 1381] (by decide +kernel) (by decide +kernel)
set_option maxRecDepth 20000 in
theorem gL_law_X12_ofWay : GoodIn wsL_law (wsV RL 66 RX12 yX12_ofWay wsX12_ofWay) := goodIn_app (goodIn_of _ (by decide +kernel)) ggL_law_X12_ofWay
set_option maxRecDepth 20000 in
theorem ggL_law_X11_cable : GoodIn wsL_law wsX11_cable := goodIn_r _ [605, 23, 27, 549, 550, 551, 2, 552, 253, 29, 606, 607, 608, 509, 609, 610, 611, 580, 581, 582, 522, 612, 584, 585, 586, 587, 512, 588, 589, 590, 591, 613, 614, 615, 616, 617, 618, 619, 620, 621, 622, 623, 624, 625, 626, 627, 370, 371, 22, 372, 73, 240, 628, 629, 630, 631, 632, 633, 634, 635, 636, 637, 638, 639, 640, 641, 642, 643, 644, 645, 515, 646, 647, 648, 649, 650, 651, 652, 653, 654, 655, 656, 657, 658, 659, 374, 375, 376, 660, 661, 662, 663, 1325, 1326, 1327, 1328, 1329, 1330, 1331, 1332, 1333, 1334, 1335, 1336, 1432, 1433, 1434, 1435, 1436, 1437, 1438, 1439, 1440, 1405, 1406, 1407, 1408, 1409, 1396, 1397, 1398, 1399, 1400, 1401, 1402, 1403, 1404] (by decide +kernel) (by decide +kernel)
set_option maxRecDepth 20000 in
theorem gL_law_X11_cable : GoodIn wsL_law (wsV RL 67 RX11 yX11_cable wsX11_cable) := goodIn_app (goodIn_of _ (by decide +kernel)) ggL_law_X11_cable
set_option maxRecDepth 20000 in
theorem ggL_law_X12_cable : GoodIn wsL_law wsX12_cable := goodIn_r _ [667, 668, 131, 557, 558, 559, 5, 560, 266, 130, 272, 273, 274, 669, 670, 671, 672, 316, 673, 598, 599, 600, 601, 133, 674, 675, 676, 677, 126, 678, 679, 680, 681, 262, 127, 134, 1337, 1338, 1339, 1340, 1341, 1342, 1343, 1344, 1345, 1346, 1347, 1348, 1349, 1350, 1351, 1352, 1353, 1354, 1355, 1356, 1357, 1358, 1359, 1360, 1361, 1362, 1363, 1364, 1365, 1366, 1367, 1368, 1369, 1370, 1371, 1372, 1373, 1374, 1375, 1376, 1377, 1378, 1379, 1380, 1381] (by decide +kernel) (by decide +kernel)
set_option maxRecDepth 20000 in
theorem gL_law_X12_cable : GoodIn wsL_law (wsV RL 70 RX12 yX12_cable wsX12_cable) := goodIn_app (goodIn_of _ (by decide +kernel)) ggL_law_X12_cable
set_option maxRecDepth 20000 in
theorem ggL_law_X11_carries : GoodIn wsL_law wsX11_carries := goodIn_r _ [685, 686, 23, 27, 549, 550, 551, 2, 552, 253, 29, 579, 580, 581, 509, 582, 522, 583, 584, 585, 586, 587, 512, 588, 589, 590, 591, 687, 688, 689, 606, 607, 608, 609, 610, 611, 612, 613, 614, 615, 616, 617, 618, 619, 620, 621, 622, 623, 624, 625, 626, 627, 370, 371, 22, 372, 73, 240, 628, 629, 630, 631, 632, 633, 634, 635, 690, 691, 692, 693, 694, 695, 696, 697, 698, 699, 700, 701, 702, 703, 704, 705, 706, 707, 708, 709, 710, 711, 712, 713, 714, 715, 716, 648, 650, 717, 718, 719, 720, 721, 722, 723, 724, 725, 726, 727, 728, 729, 730, 731, 732, 733, 734, 735, 736, 737, 738, 739, 740, 741, 742, 743, 744, 745, 746, 747, 748, 749, 750, 751, 752, 753, 1325, 1326, 1327, 1328, 1329, 1330, 1331, 1332, 1333, 1334, 1335, 1336, 1432, 1433, 1434, 1435, 1436, 1437, 1438, 1439, 1440, 1405, 1406, 1407, 1408, 1409, 1396, 1397, 1398, 1399, 1400, 1401, 1402, 1403, 1404] (by decide +kernel) (by decide +kernel)
set_option maxRecDepth 20000 in
theorem gL_law_X11_carries : GoodIn wsL_law (wsV RL 71 RX11 yX11_carries wsX11_carries) := goodIn_app (goodIn_of _ (by decide +kernel)) ggL_law_X11_carries
set_option maxRecDepth 20000 in
theorem ggL_law_X12_carries : GoodIn wsL_law wsX12_carries := goodIn_r _ [757, 136, 758, 557, 558, 559, 5, 560, 266, 130, 272, 273, 274, 598, 599, 600, 601, 133, 131, 669, 670, 671, 672, 316, 673, 668, 674, 675, 676, 677, 126, 678, 679, 680, 681, 262, 127, 134, 759, 760, 761, 762, 763, 764, 765, 766, 128, 767, 768, 769, 1337, 1338, 1339, 1340, 1341, 1342, 1343, 1344, 1345, 1346, 1347, 1348, 1349, 1350, 1351, 1352, 1353, 1354, 1355, 1356, 1357, 1358, 1359, 1360, 1361, 1362, 1363, 1364, 1365, 1366, 1367, 1368, 1369, 1370, 1371, 1372, 1373, 1374, 1375, 1376, 1377, 1378, 1379, 1380, 1381] (by decide +kernel) (by decide +kernel)
set_option maxRecDepth 20000 in
theorem gL_law_X12_carries : GoodIn wsL_law (wsV RL 75 RX12 yX12_carries wsX12_carries) := goodIn_app (goodIn_of _ (by decide +kernel)) ggL_law_X12_carries
set_option maxRecDepth 20000 in
theorem ggL_law_X11_drop : GoodIn wsL_law wsX11_drop := goodIn_r _ [773, 548, 686, 23, 27, 549, 550, 551, 2, 552, 253, 29, 687, 688, 689, 606, 607, 608, 509, 609, 610, 611, 580, 581, 582, 522, 612, 584, 585, 586, 587, 512, 588, 589, 590, 591, 613, 614, 615, 616, 617, 618, 619, 620, 621, 622, 623, 624, 625, 626, 627, 370, 371, 22, 372, 73, 240, 628, 629, 630, 631, 632, 633, 634, 635, 742, 728, 729, 730, 743, 732, 733, 734, 735, 736, 714, 715, 716, 648, 650, 717, 737, 636, 637, 638, 639, 640, 641, 642, 643, 644, 645, 515, 646, 774, 775, 776, 777, 778, 691, 692, 693, 694, 695, 696, 697, 698, 699, 700, 701, 702, 703, 704, 705, 706, 707, 708, 709, 710, 711, 712, 713, 718, 719, 720, 721, 722, 723, 724, 725, 726, 727, 731, 779, 739, 740, 741, 780, 781, 782, 783, 744, 745, 746, 747, 748, 749, 750, 751, 752, 753, 1432, 1433, 1434, 1435, 1436, 1437, 1438, 1439, 1440, 1325, 1326, 1327, 1328, 1329, 1330, 1331, 1332, 1333, 1334, 1335, 1336, 1405, 1406, 1407, 1408, 1409, 1396, 1397, 1398, 1399, 1400, 1401, 1402, 1403, 1404] (by decide +kernel) (by decide +kernel)
set_option maxRecDepth 20000 in
theorem gL_law_X11_drop : GoodIn wsL_law (wsV RL 76 RX11 yX11_drop wsX11_drop) := goodIn_app (goodIn_of _ (by decide +kernel)) ggL_law_X11_drop
set_option maxRecDepth 20000 in
theorem ggL_law_X12_drop : GoodIn wsL_law wsX12_drop := goodIn_r _ [787, 133, 136, 131, 283, 758, 557, 558, 559, 5, 560, 266, 130, 272, 273, 274, 669, 670, 671, 672, 316, 673, 668, 598, 599, 600, 601, 674, 675, 676, 677, 126, 678, 679, 680, 681, 262, 127, 134, 759, 760, 761, 762, 763, 764, 765, 766, 128, 767, 768, 769, 1337, 1338, 1339, 1340, 1341, 1342, 1343, 1344, 1345, 1346, 1347, 1348, 1349, 1350, 1351, 1352, 1353, 1354, 1355, 1356, 1357, 1358, 1359, 1360, 1361, 1362, 1363, 1364, 1365, 1366, 1367, 1368, 1369, 1370, 1371, 1372, 1373, 1374, 1375, 1376, 1377, 1378, 1379, 1380, 1381] (by decide +kernel) (by decide +kernel)
set_option maxRecDepth 20000 in
theorem gL_law_X12_drop : GoodIn wsL_law (wsV RL 79 RX12 yX12_drop wsX12_drop) := goodIn_app (goodIn_of _ (by decide +kernel)) ggL_law_X12_drop
set_option maxRecDepth 20000 in
theorem ggL_law_X11_tooMuch : GoodIn wsL_law wsX11_tooMuch := goodIn_r _ [791, 23, 27, 549, 550, 551, 2, 552, 253, 29, 606, 607, 608, 509, 609, 610, 611, 580, 581, 582, 522, 612, 584, 585, 586, 587, 512, 588, 589, 590, 591, 613, 614, 615, 616, 617, 618, 619, 620, 621, 622, 623, 624, 625, 626, 627, 370, 371, 22, 372, 73, 240, 628, 629, 630, 631, 632, 633, 634, 635, 792, 793, 794, 795, 521, 796, 748, 749, 750, 727, 728, 729, 730, 731, 732, 733, 734, 735, 736, 714, 715, 716, 648, 650, 717, 737, 778, 691, 692, 693, 694, 695, 696, 697, 698, 699, 700, 701, 702, 703, 704, 705, 706, 707, 708, 709, 710, 711, 712, 713, 718, 719, 720, 721, 722, 723, 724, 725, 726, 779, 739, 740, 741, 797, 798, 799, 800, 1325, 1326, 1327, 1328, 1329, 1330, 1331, 1332, 1333, 1334, 1335, 1336, 1432, 1433, 1434, 1435, 1436, 1437, 1438, 1439, 1440, 1405, 1406, 1407, 1408, 1409, 1396, 1397, 1398, 1399, 1400, 1401, 1402, 1403, 1404] (by decide +kernel) (by decide +kernel)
set_option maxRecDepth 20000 in
theorem gL_law_X11_tooMuch : GoodIn wsL_law (wsV RL 80 RX11 yX11_tooMuch wsX11_tooMuch) := goodIn_app (goodIn_of _ (by decide +kernel)) ggL_law_X11_tooMuch
set_option maxRecDepth 20000 in
theorem ggL_law_X12_tooMuch : GoodIn wsL_law wsX12_tooMuch := goodIn_r _ [804, 136, 132, 758, 557, 558, 559, 5, 560, 266, 130, 272, 273, 274, 669, 670, 671, 672, 316, 673, 668, 598, 599, 600, 601, 133, 131, 674, 675, 676, 677, 126, 678, 679, 680, 681, 262, 127, 134, 763, 764, 765, 766, 128, 1337, 1338, 1339, 1340, 1341, 1342, 1343, 1344, 1345, 1346, 1347, 1348, 1349, 1350, 1351, 1352, 1353, 1354, 1355, 1356, 1357, 1358, 1359, 1360, 1361, 1362, 1363, 1364, 1365, 1366, 1367, 1368, 1369, 1370, 1371, 1372, 1373, 1374, 1375, 1376, 1377, 1378, 1379, 1380, 1381] (by decide +kernel) (by decide +kernel)
set_option maxRecDepth 20000 in
theorem gL_law_X12_tooMuch : GoodIn wsL_law (wsV RL 83 RX12 yX12_tooMuch wsX12_tooMuch) := goodIn_app (goodIn_of _ (by decide +kernel)) ggL_law_X12_tooMuch
set_option maxRecDepth 20000 in
theorem ggL_law_X11_least : GoodIn wsL_law wsX11_least := goodIn_r _ [808, 33, 809, 810, 811, 2, 812, 27, 813, 814, 815, 26, 816, 449, 817, 818, 819, 820, 23, 433, 821, 822, 823, 32, 824, 825, 86, 826, 827, 370, 371, 22, 372, 73, 240, 828, 829, 830, 831, 87, 832, 833, 834, 835, 836, 837, 838, 839, 88, 840, 841, 842, 843, 844, 845, 846, 847, 848, 849, 850, 749, 851, 852, 853, 854, 855, 856, 857, 858, 859, 860, 861, 862, 863, 1325, 1326, 1327, 1328, 1329, 1330, 1331, 1332, 1333, 1334, 1335, 1336, 1405, 1406, 1407, 1408, 1409, 1396, 1397, 1398, 1399, 1400, 1401, 1402, 1403, 1404, 1410, 1411, 1412] (by decide +kernel) (by decide +kernel)
set_option maxRecDepth 20000 in
theorem gL_law_X11_least : GoodIn wsL_law (wsV RL 84 RX11 yX11_least wsX11_least) := goodIn_app (goodIn_of _ (by decide +kernel)) ggL_law_X11_least
set_option maxRecDepth 20000 in
theorem ggL_law_X12_least : GoodIn wsL_law wsX12_least := goodIn_r _ [867, 137, 316, 868, 869, 870, 5, 871, 265, 272, 273, 274, 872, 873, 874, 875, 876, 877, 878, 879, 126, 880, 881, 882, 883, 262, 127, 541, 542, 543, 321, 322, 323, 1337, 1338, 1339, 1340, 1341, 1342, 1343, 1344, 1345, 1346, 1347, 1348, 1349, 1350, 1351, 1352, 1353, 1354, 1355, 1356, 1357, 1358, 1359, 1360, 1361, 1362, 1363, 1364, 1365, 1366, 1367, 1368, 1369, 1370, 1371, 1372, 1373, 1374, 1375, 1376, 1377, 1378, 1379, 1380, 1381] (by decide +kernel) (by decide +kernel)
set_option maxRecDepth 20000 in
theorem gL_law_X12_least : GoodIn wsL_law (wsV RL 87 RX12 yX12_least wsX12_least) := goodIn_app (goodIn_of _ (by decide +kernel)) ggL_law_X12_least
set_option maxRecDepth 20000 in
theorem ggL_law_X11_order : GoodIn wsL_law wsX11_order := goodIn_r _ [887, 33, 863, 809, 810, 811, 2, 812, 27, 813, 814, 815, 26, 816, 449, 817, 818, 819, 820, 23, 433, 821, 822, 823, 32, 824, 825, 86, 826, 827, 370, 371, 22, 372, 73, 240, 828, 829, 830, 831, 87, 832, 833, 834, 835, 836, 837, 838, 839, 88, 840, 841, 842, 843, 844, 845, 846, 847, 848, 849, 850, 749, 851, 852, 853, 854, 855, 856, 857, 858, 859, 888, 889, 890, 891, 892, 893, 894, 895, 1325, 1326, 1327, 1328, 1329, 1330, 1331, 1332, 1333, 1334, 1335, 1336, 1405, 1406, 1407, 1408, 1409, 1396, 1397, 1398, 1399, 1400, 1401, 1402, 1403, 1404, 1410, 1411, 1412] (by decide +kernel) (by decide +kernel)
set_option maxRecDepth 20000 in
theorem gL_law_X11_order : GoodIn wsL_law (wsV RL 88 RX11 yX11_order wsX11_order) := goodIn_app (goodIn_of _ (by decide +kernel)) ggL_law_X11_order
set_option maxRecDepth 20000 in
theorem ggL_law_X12_order : GoodIn wsL_law wsX12_order := goodIn_r _ [899, 900, 137, 316, 265, 868, 869, 870, 5, 871, 272, 273, 274, 872, 873, 874, 875, 876, 877, 878, 879, 126, 880, 881, 882, 883, 262, 127, 541, 542, 543, 321, 322, 323, 1337, 1338, 1339, 1340, 1341, 1342, 1343, 1344, 1345, 1346, 1347, 1348, 1349, 1350, 1351, 1352, 1353, 1354, 1355, 1356, 1357, 1358, 1359, 1360, 1361, 1362, 1363, 1364, 1365, 1366, 1367, 1368, 1369, 1370, 1371, 1372, 1373, 1374, 1375, 1376, 1377, 1378, 1379, 1380, 1381] (by decide +kernel) (by decide +kernel)
set_option maxRecDepth 20000 in
theorem gL_law_X12_order : GoodIn wsL_law (wsV RL 91 RX12 yX12_order wsX12_order) := goodIn_app (goodIn_of _ (by decide +kernel)) ggL_law_X12_order
set_option maxRecDepth 20000 in
theorem ggL_law_X11_plan : GoodIn wsL_law wsX11_plan := goodIn_r _ [904, 27, 151, 905, 906, 2, 907, 908, 909, 910, 911, 23, 433, 813, 814, 815, 26, 816, 449, 817, 818, 819, 820, 33, 821, 822, 823, 32, 824, 825, 86, 826, 827, 370, 371, 22, 372, 73, 240, 828, 829, 830, 831, 87, 832, 833, 834, 835, 836, 837, 838, 839, 88, 840, 841, 842, 843, 844, 845, 846, 847, 848, 849, 850, 749, 851, 852, 853, 854, 855, 912, 913, 914, 915, 37, 916, 917, 918, 919, 920, 921, 857, 858, 859, 922, 923, 924, 36, 925, 926, 927, 928, 929, 930, 96, 97, 931, 932, 933, 934, 98, 935, 936, 937, 938, 939, 940, 941, 95, 942, 943, 944, 93, 945, 946, 947, 948, 94, 949, 505, 506, 507, 950, 951, 952, 953, 954, 955, 956, 957, 958, 959, 960, 860, 861, 862, 863, 1325, 1326, 1327, 1328, 1329, 1330, 1331, 1332, 1333, 1334, 1335, 1336, 1405, 1406, 1407, 1408, 1409, 1396, 1397, 1398, 1399, 1400, 1401, 1402, 1403, 1404, 1410, 1411, 1412, 1413, 1414, 1415, 1416, 1417, 1418, 1419, 1420, 1421, 1422] (by decide +kernel) (by decide +kernel)
set_option maxRecDepth 20000 in
theorem gL_law_X11_plan : GoodIn wsL_law (wsV RL 92 RX11 yX11_plan wsX11_plan) := goodIn_app (goodIn_of _ (by decide +kernel)) ggL_law_X11_plan
set_option maxRecDepth 20000 in
theorem ggL_law_X12_plan : GoodIn wsL_law wsX12_plan := goodIn_r _ [964, 265, 965, 966, 967, 968, 5, 969, 271, 539, 272, 273, 274, 970, 971, 972, 973, 316, 872, 873, 874, 875, 137, 876, 877, 878, 879, 126, 880, 881, 882, 883, 262, 127, 541, 542, 543, 321, 322, 323, 974, 975, 976, 977, 138, 978, 979, 980, 981, 982, 983, 984, 985, 128, 986, 987, 988, 989, 129, 1337, 1338, 1339, 1340, 1341, 1342, 1343, 1344, 1345, 1346, 1347, 1348, 1349, 1350, 1351, 1352, 1353, 1354, 1355, 1356, 1357, 1358, 1359, 1360, 1361, 1362, 1363, 1364, 1365, 1366, 1367, 1368, 1369, 1370, 1371, 1372, 1373, 1374, 1375, 1376, 1377, 1378, 1379, 1380, 1381] (by decide +kernel) (by decide +kernel)
set_option maxRecDepth 20000 in
theorem gL_law_X12_plan : GoodIn wsL_law (wsV RL 96 RX12 yX12_plan wsX12_plan) := goodIn_app (goodIn_of _ (by decide +kernel)) ggL_law_X12_plan
set_option maxRecDepth 20000 in
theorem ggL_law_X11_on : GoodIn wsL_law wsX11_on := goodIn_r _ [993, 27, 863, 37, 994, 464, 465, 466, 26, 467, 449, 905, 906, 2, 907, 908, 909, 910, 911, 23, 433, 813, 814, 815, 816, 817, 818, 819, 820, 33, 821, 822, 823, 32, 824, 825, 86, 826, 827, 370, 371, 22, 372, 73, 240, 828, 829, 830, 831, 87, 832, 833, 834, 835, 836, 837, 838, 839, 88, 840, 841, 842, 843, 844, 845, 846, 847, 848, 849, 850, 749, 851, 852, 853, 854, 855, 912, 913, 914, 915, 916, 917, 918, 919, 920, 921, 857, 858, 859, 922, 923, 924, 36, 925, 926, 927, 928, 929, 930, 96, 97, 931, 932, 933, 934, 98, 935, 936, 937, 938, 939, 940, 941, 95, 942, 943, 944, 93, 945, 946, 947, 948, 94, 949, 505, 506, 507, 950, 951, 952, 953, 954, 955, 956, 957, 958, 959, 960, 1325, 1326, 1327, 1328, 1329, 1330, 1331, 1332, 1333, 1334, 1335, 1336, 1413, 1414, 1415, 1416, 1417, 1418, 1419, 1420, 1421, 1422, 1405, 1406, 1407, 1408, 1409, 1396, 1397, 1398, 1399, 1400, 1401, 1402, 1403, 1404, 1410, 1411, 1412] (by decide +kernel) (by decide +kernel)
set_option maxRecDepth 20000 in
theorem gL_law_X11_on : GoodIn wsL_law (wsV RL 97 RX11 yX11_on wsX11_on) := goodIn_app (goodIn_of _ (by decide +kernel)) ggL_law_X11_on
set_option maxRecDepth 20000 in
theorem ggL_law_X12_on : GoodIn wsL_law wsX12_on := goodIn_r _ [998, 965, 138, 472, 473, 474, 5, 475, 265, 272, 273, 274, 967, 968, 969, 271, 539, 970, 971, 972, 973, 316, 966, 872, 873, 874, 875, 137, 876, 877, 878, 879, 126, 880, 881, 882, 883, 262, 127, 541, 542, 543, 321, 322, 323, 974, 975, 976, 977, 978, 979, 980, 981, 982, 983, 984, 985, 128, 986, 987, 988, 989, 129, 1337, 1338, 1339, 1340, 1341, 1342, 1343, 1344, 1345, 1346, 1347, 1348, 1349, 1350, 1351, 1352, 1353, 1354, 1355, 1356, 1357, 1358, 1359, 1360, 1361, 1362, 1363, 1364, 1365, 1366, 1367, 1368, 1369, 1370, 1371, 1372, 1373, 1374, 1375, 1376, 1377, 1378, 1379, 1380, 1381] (by decide +kernel) (by decide +kernel)
set_option maxRecDepth 20000 in
theorem gL_law_X12_on : GoodIn wsL_law (wsV RL 101 RX12 yX12_on wsX12_on) := goodIn_app (goodIn_of _ (by decide +kernel)) ggL_law_X12_on
set_option maxRecDepth 20000 in
theorem ggL_law_X11_best : GoodIn wsL_law wsX11_best := goodIn_r _ [1002, 27, 151, 863, 23, 1003, 905, 906, 2, 907, 813, 814, 815, 26, 816, 449, 817, 818, 819, 820, 33, 433, 821, 822, 823, 32, 824, 825, 86, 826, 827, 370, 371, 22, 372, 73, 240, 828, 829, 830, 831, 87, 832, 833, 834, 835, 836, 837, 838, 839, 88, 840, 841, 842, 843, 844, 845, 846, 847, 848, 849, 850, 749, 851, 852, 853, 854, 855, 912, 913, 914, 915, 37, 916, 917, 918, 919, 920, 921, 857, 858, 859, 922, 923, 924, 36, 925, 926, 927, 928, 929, 930, 96, 97, 931, 932, 933, 934, 98, 935, 936, 937, 938, 939, 940, 941, 95, 942, 943, 944, 93, 945, 946, 947, 948, 94, 949, 505, 506, 507, 950, 951, 952, 953, 954, 955, 956, 957, 958, 959, 960, 1325, 1326, 1327, 1328, 1329, 1330, 1331, 1332, 1333, 1334, 1335, 1336, 1405, 1406, 1407, 1408, 1409, 1396, 1397, 1398, 1399, 1400, 1401, 1402, 1403, 1404, 1410, 1411, 1412, 1413, 1414, 1415, 1416, 1417, 1418, 1419, 1420, 1421, 1422] (by decide +kernel) (by decide +kernel)
set_option maxRecDepth 20000 in
theorem gL_law_X11_best : GoodIn wsL_law (wsV RL 102 RX11 yX11_best wsX11_best) := goodIn_app (goodIn_of _ (by decide +kernel)) ggL_law_X11_best
set_option maxRecDepth 20000 in
theorem ggL_law_X12_best : GoodIn wsL_law wsX12_best := goodIn_r _ [1007, 265, 262, 316, 260, 966, 967, 968, 5, 969, 271, 539, 272, 273, 274, 970, 971, 972, 973, 965, 872, 873, 874, 875, 137, 876, 877, 878, 879, 126, 880, 881, 882, 883, 127, 541, 542, 543, 321, 322, 323, 974, 975, 976, 977, 138, 978, 979, 980, 981, 982, 983, 984, 985, 128, 986, 987, 988, 989, 129, 1337, 1338, 1339, 1340, 1341, 1342, 1343, 1344, 1345, 1346, 1347, 1348, 1349, 1350, 1351, 1352, 1353, 1354, 1355, 1356, 1357, 1358, 1359, 1360, 1361, 1362, 1363, 1364, 1365, 1366, 1367, 1368, 1369, 1370, 1371, 1372, 1373, 1374, 1375, 1376, 1377, 1378, 1379, 1380, 1381] (by decide +kernel) (by decide +kernel)
set_option maxRecDepth 20000 in
theorem gL_law_X12_best : GoodIn wsL_law (wsV RL 105 RX12 yX12_best wsX12_best) := goodIn_app (goodIn_of _ (by decide +kernel)) ggL_law_X12_best
set_option maxRecDepth 20000 in
theorem ggL_law_X11_costs : GoodIn wsL_law wsX11_costs := goodIn_r _ [1011, 23, 27, 151, 332, 863, 333, 334, 335, 22, 336, 231, 905, 906, 2, 907, 908, 909, 910, 911, 433, 813, 814, 815, 26, 816, 449, 817, 818, 819, 820, 33, 821, 822, 823, 32, 824, 825, 86, 826, 827, 370, 371, 372, 73, 240, 828, 829, 830, 831, 87, 832, 833, 834, 835, 836, 837, 838, 839, 88, 840, 841, 842, 843, 844, 845, 846, 847, 848, 849, 850, 749, 851, 852, 853, 854, 855, 912, 913, 914, 915, 37, 916, 917, 918, 919, 920, 921, 857, 858, 859, 922, 923, 924, 36, 925, 926, 927, 928, 929, 930, 96, 97, 931, 932, 933, 934, 98, 935, 936, 937, 938, 939, 940, 941, 95, 942, 943, 944, 93, 945, 946, 947, 948, 94, 949, 505, 506, 507, 950, 951, 952, 953, 954, 955, 956, 957, 958, 959, 960, 349, 350, 351, 352, 72, 236, 237, 238, 239, 67, 68, 227, 241, 242, 243, 244, 69, 70, 245, 246, 247, 248, 1325, 1326, 1327, 1328, 1329, 1330, 1331, 1332, 1333, 1334, 1335, 1336, 1405, 1406, 1407, 1408, 1409, 1396, 1397, 1398, 1399, 1400, 1401, 1402, 1403, 1404, 1410, 1411, 1412, 1413, 1414, 1415, 1416, 1417, 1418, 1419, 1420, 1421, 1422] (by decide +kernel) (by decide +kernel)
set_option maxRecDepth 20000 in
theorem gL_law_X11_costs : GoodIn wsL_law (wsV RL 106 RX11 yX11_costs wsX11_costs) := goodIn_app (goodIn_of _ (by decide +kernel)) ggL_law_X11_costs
set_option maxRecDepth 20000 in
theorem ggL_law_X12_costs : GoodIn wsL_law wsX12_costs := goodIn_r _ [1015, 265, 966, 121, 316, 341, 342, 343, 5, 344, 264, 272, 273, 274, 967, 968, 969, 271, 539, 970, 971, 972, 973, 965, 872, 873, 874, 875, 137, 876, 877, 878, 879, 126, 880, 881, 882, 883, 262, 127, 541, 542, 543, 321, 322, 323, 974, 975, 976, 977, 138, 978, 979, 980, 981, 982, 983, 984, 985, 128, 986, 987, 988, 989, 129, 312, 313, 314, 315, 260, 117, 118, 317, 318, 319, 320, 119, 120, 1337, 1338, 1339, 1340, 1341, 1342, 1343, 1344, 1345, 1346, 1347, 1348, 1349, 1350, 1351, 1352, 1353, 1354, 1355, 1356, 1357, 1358, 1359, 1360, 1361, 1362, 1363, 1364, 1365, 1366, 1367, 1368, 1369, 1370, 1371, 1372, 1373, 1374, 1375, 1376, 1377, 1378, 1379, 1380, 1381] (by decide +kernel) (by decide +kernel)
set_option maxRecDepth 20000 in
theorem gL_law_X12_costs : GoodIn wsL_law (wsV RL 110 RX12 yX12_costs wsX12_costs) := goodIn_app (goodIn_of _ (by decide +kernel)) ggL_law_X12_costs
set_option maxRecDepth 20000 in
theorem ggL_law_X11_cores : GoodIn wsL_law wsX11_cores := goodIn_r _ [1019, 23, 41, 361, 362, 363, 22, 364, 227, 1020, 1021, 1022, 2, 1023, 1003, 1024, 955, 956, 957, 958, 959, 960, 1025, 1026, 1027, 40, 1028, 1029, 1030, 1031, 1032, 370, 371, 372, 73, 240, 1033, 1034, 1035, 1036, 104, 1037, 1038, 1039, 1040, 1041, 103, 1042, 505, 506, 507, 860, 861, 862, 863, 1325, 1326, 1327, 1328, 1329, 1330, 1331, 1332, 1333, 1334, 1335, 1336, 1396, 1397, 1398, 1399, 1400, 1401, 1402, 1403, 1404, 1423, 1424, 1425] (by decide +kernel) (by decide +kernel)
set_option maxRecDepth 20000 in
theorem gL_law_X11_cores : GoodIn wsL_law (wsV RL 111 RX11 yX11_cores wsX11_cores) := goodIn_app (goodIn_of _ (by decide +kernel)) ggL_law_X11_cores
set_option maxRecDepth 20000 in
theorem ggL_law_X12_cores : GoodIn wsL_law wsX12_cores := goodIn_r _ [1046, 1047, 1048, 393, 394, 395, 5, 396, 260, 272, 273, 274, 1049, 1050, 1051, 1052, 1053, 1054, 1055, 1056, 1057, 1058, 1059, 316, 1060, 1061, 1062, 1063, 1064, 1065, 1066, 126, 262, 397, 398, 399, 400, 1337, 1338, 1339, 1340, 1341, 1342, 1343, 1344, 1345, 1346, 1347, 1348, 1349, 1350, 1351, 1352, 1353, 1354, 1355, 1356, 1357, 1358, 1359, 1360, 1361, 1362, 1363, 1364, 1365, 1366, 1367, 1368, 1369, 1370, 1371, 1372, 1373, 1374, 1375, 1376, 1377, 1378, 1379, 1380, 1381] (by decide +kernel) (by decide +kernel)
set_option maxRecDepth 20000 in
theorem gL_law_X12_cores : GoodIn wsL_law (wsV RL 114 RX12 yX12_cores wsX12_cores) := goodIn_app (goodIn_of _ (by decide +kernel)) ggL_law_X12_cores
set_option maxRecDepth 20000 in
theorem ggL_law_X11_door : GoodIn wsL_law wsX11_door := goodIn_r _ [1070, 23, 41, 863, 1071, 361, 362, 363, 22, 364, 227, 1020, 1021, 1022, 2, 1023, 1003, 1024, 955, 956, 957, 958, 959, 960, 1025, 1026, 1027, 40, 1028, 1029, 1030, 1031, 1032, 370, 371, 372, 73, 240, 1033, 1034, 1035, 1036, 104, 1037, 1038, 1039, 1040, 1041, 103, 1042, 505, 506, 507, 1325, 1326, 1327, 1328, 1329, 1330, 1331, 1332, 1333, 1334, 1335, 1336, 1423, 1424, 1425, 1396, 1397, 1398, 1399, 1400, 1401, 1402, 1403, 1404] (by decide +kernel) (by decide +kernel)
set_option maxRecDepth 20000 in
theorem gL_law_X11_door : GoodIn wsL_law (wsV RL 115 RX11 yX11_door wsX11_door) := goodIn_app (goodIn_of _ (by decide +kernel)) ggL_law_X11_door
set_option maxRecDepth 20000 in
theorem ggL_law_X12_door : GoodIn wsL_law wsX12_door := goodIn_r _ [1075, 271, 1047, 393, 394, 395, 5, 396, 260, 272, 273, 274, 1049, 1050, 1051, 1052, 1053, 1054, 1055, 1056, 1057, 1058, 1059, 316, 1048, 1060, 1061, 1062, 1063, 1064, 1065, 1066, 126, 262, 397, 398, 399, 400, 1337, 1338, 1339, 1340, 1341, 1342, 1343, 1344, 1345, 1346, 1347, 1348, 1349, 1350, 1351, 1352, 1353, 1354, 1355, 1356, 1357, 1358, 1359, 1360, 1361, 1362, 1363, 1364, 1365, 1366, 1367, 1368, 1369, 1370, 1371, 1372, 1373, 1374, 1375, 1376, 1377, 1378, 1379, 1380, 1381] (by decide +kernel) (by decide +kernel)
set_option maxRecDepth 20000 in
theorem gL_law_X12_door : GoodIn wsL_law (wsV RL 118 RX12 yX12_door wsX12_door) := goodIn_app (goodIn_of _ (by decide +kernel)) ggL_law_X12_door
set_option maxRecDepth 20000 in
theorem ggL_law_X11_reading : GoodIn wsL_law wsX11_reading := goodIn_r _ [1079, 45, 152, 809, 810, 811, 2, 812, 27, 813, 814, 815, 26, 816, 449, 1080, 1081, 1082, 44, 1083, 109, 1084, 110, 1325, 1326, 1327, 1328, 1329, 1330, 1331, 1332, 1333, 1334, 1335, 1336, 1426, 1427, 1428, 1429, 1430, 1431, 1405, 1406, 1407, 1408, 1409] (by decide +kernel) (by decide +kernel)
set_option maxRecDepth 20000 in
theorem gL_law_X11_reading : GoodIn wsL_law (wsV RL 119 RX11 yX11_reading wsX11_reading) := goodIn_app (goodIn_of _ (by decide +kernel)) ggL_law_X11_reading
set_option maxRecDepth 20000 in
theorem ggL_law_X12_reading : GoodIn wsL_law wsX12_reading := goodIn_r _ [1088, 265, 1089, 267, 139, 140, 272, 273, 5, 274, 1337, 1338, 1339, 1340, 1341, 1342, 1343, 1344, 1345, 1346, 1347, 1348, 1349, 1350, 1351, 1352, 1353, 1354, 1355, 1356, 1357, 1358, 1359, 1360, 1361, 1362, 1363, 1364, 1365, 1366, 1367, 1368, 1369, 1370, 1371, 1372, 1373, 1374, 1375, 1376, 1377, 1378, 1379, 1380, 1381] (by decide +kernel) (by decide +kernel)
set_option maxRecDepth 20000 in
theorem gL_law_X12_reading : GoodIn wsL_law (wsV RL 122 RX12 yX12_reading wsX12_reading) := goodIn_app (goodIn_of _ (by decide +kernel)) ggL_law_X12_reading
set_option maxRecDepth 20000 in
theorem ggL_law_X11_back : GoodIn wsL_law wsX11_back := goodIn_r _ [1093, 45, 152, 1325, 1326, 1327, 1328, 1329, 1330, 1331, 1332, 1333, 1334, 1335, 1336, 1426, 1427, 1428, 1429, 1430, 1431] (by decide +kernel) (by decide +kernel)
set_option maxRecDepth 20000 in
theorem gL_law_X11_back : GoodIn wsL_law (wsV RL 123 RX11 yX11_back wsX11_back) := goodIn_app (goodIn_of _ (by decide +kernel)) ggL_law_X11_back
set_option maxRecDepth 20000 in
theorem ggL_law_X12_back : GoodIn wsL_law wsX12_back := goodIn_r _ [1097, 267, 272, 273, 5, 274, 1337, 1338, 1339, 1340, 1341, 1342, 1343, 1344, 1345, 1346, 1347, 1348, 1349, 1350, 1351, 1352, 1353, 1354, 1355, 1356, 1357, 1358, 1359, 1360, 1361, 1362, 1363, 1364, 1365, 1366, 1367, 1368, 1369, 1370, 1371, 1372, 1373, 1374, 1375, 1376, 1377, 1378, 1379, 1380, 1381] (by decide +kernel) (by decide +kernel)
set_option maxRecDepth 20000 in
theorem gL_law_X12_back : GoodIn wsL_law (wsV RL 126 RX12 yX12_back wsX12_back) := goodIn_app (goodIn_of _ (by decide +kernel)) ggL_law_X12_back
set_option maxRecDepth 20000 in
theorem ggL_law_X11_fits : GoodIn wsL_law wsX11_fits := goodIn_r _ [1101, 45, 27, 1102, 151, 1103, 1104, 1105, 44, 1106, 1107, 112, 1108, 1109, 1110, 1111, 111, 1112, 1113, 1114, 814, 815, 26, 816, 449, 1115, 1116, 1117, 1118, 1084, 109, 110, 1119, 1120, 1121, 1122, 1123, 1124, 1125, 1126, 1127, 1128, 1129, 1130, 1325, 1326, 1327, 1328, 1329, 1330, 1331, 1332, 1333, 1334, 1335, 1336, 1426, 1427, 1428, 1429, 1430, 1431, 1405, 1406, 1407, 1408, 1409] (by decide +kernel) (by decide +kernel)
set_option maxRecDepth 20000 in
theorem gL_law_X11_fits : GoodIn wsL_law (wsV RL 127 RX11 yX11_fits wsX11_fits) := goodIn_app (goodIn_of _ (by decide +kernel)) ggL_law_X11_fits
set_option maxRecDepth 20000 in
theorem ggL_law_X12_fits : GoodIn wsL_law wsX12_fits := goodIn_r _ [1134, 283, 265, 272, 273, 5, 274, 1135, 1136, 1137, 1138, 267, 139, 140, 982, 983, 984, 985, 128, 541, 542, 543, 1337, 1338, 1339, 1340, 1341, 1342, 1343, 1344, 1345, 1346, 1347, 1348, 1349, 1350, 1351, 1352, 1353, 1354, 1355, 1356, 1357, 1358, 1359, 1360, 1361, 1362, 1363, 1364, 1365, 1366, 1367, 1368, 1369, 1370, 1371, 1372, 1373, 1374, 1375, 1376, 1377, 1378, 1379, 1380, 1381] (by decide +kernel) (by decide +kernel)
set_option maxRecDepth 20000 in
theorem gL_law_X12_fits : GoodIn wsL_law (wsV RL 130 RX12 yX12_fits wsX12_fits) := goodIn_app (goodIn_of _ (by decide +kernel)) ggL_law_X12_fits
set_option maxRecDepth 20000 in
theorem ggL_law_X11_next : GoodIn wsL_law wsX11_next := goodIn_r _ [1142, 45, 27, 1102, 151, 1103, 1104, 1105, 44, 1106, 1107, 112, 1108, 1109, 1110, 1111, 111, 1112, 1113, 1114, 814, 815, 26, 816, 449, 1115, 1116, 1117, 1118, 1084, 109, 110, 1119, 1120, 1121, 1122, 1143, 1144, 1145, 1146, 1147, 943, 749, 944, 1325, 1326, 1327, 1328, 1329, 1330, 1331, 1332, 1333, 1334, 1335, 1336, 1426, 1427, 1428, 1429, 1430, 1431, 1405, 1406, 1407, 1408, 1409] (by decide +kernel) (by decide +kernel)
set_option maxRecDepth 20000 in
theorem gL_law_X11_next : GoodIn wsL_law (wsV RL 131 RX11 yX11_next wsX11_next) := goodIn_app (goodIn_of _ (by decide +kernel)) ggL_law_X11_next
set_option maxRecDepth 20000 in
theorem ggL_law_X12_next : GoodIn wsL_law wsX12_next := goodIn_r _ [1151, 265, 1152, 1132, 1133, 5, 1134, 283, 272, 273, 274, 1135, 1136, 1137, 1138, 267, 139, 140, 982, 983, 984, 985, 128, 541, 542, 543, 1337, 1338, 1339, 1340, 1341, 1342, 1343, 1344, 1345, 1346, 1347, 1348, 1349, 1350, 1351, 1352, 1353, 1354, 1355, 1356, 1357, 1358, 1359, 1360, 1361, 1362, 1363, 1364, 1365, 1366, 1367, 1368, 1369, 1370, 1371, 1372, 1373, 1374, 1375, 1376, 1377, 1378, 1379, 1380, 1381] (by decide +kernel) (by decide +kernel)
set_option maxRecDepth 20000 in
theorem gL_law_X12_next : GoodIn wsL_law (wsV RL 135 RX12 yX12_next wsX12_next) := goodIn_app (goodIn_of _ (by decide +kernel)) ggL_law_X12_next
set_option maxRecDepth 20000 in
theorem ggL_law_X11_sheet : GoodIn wsL_law wsX11_sheet := goodIn_r _ [1156, 149, 15, 154, 155, 14, 156, 157, 158, 159, 176, 177, 178, 2, 179, 1157, 1158, 1159, 1160, 52, 53, 54, 1161, 181, 182, 1325, 1326, 1327, 1328, 1329, 1330, 1331, 1332, 1333, 1334, 1335, 1336, 1382, 1383, 1384] (by decide +kernel) (by decide +kernel)
set_option maxRecDepth 20000 in
theorem gL_law_X11_sheet : GoodIn wsL_law (wsV RL 136 RX11 yX11_sheet wsX11_sheet) := goodIn_app (goodIn_of _ (by decide +kernel)) ggL_law_X11_sheet
set_option maxRecDepth 20000 in
theorem ggL_law_X12_sheet : GoodIn wsL_law wsX12_sheet := goodIn_r _ [1165, 141, 142, 143, 268, 269, 5, 270, 271, 272, 273, 274, 275, 276, 277, 278, 279, 280, 281, 282, 283, 288, 289, 290, 291, 1337, 1338, 1339, 1340, 1341, 1342, 1343, 1344, 1345, 1346, 1347, 1348, 1349, 1350, 1351, 1352, 1353, 1354, 1355, 1356, 1357, 1358, 1359, 1360, 1361, 1362, 1363, 1364, 1365, 1366, 1367, 1368, 1369, 1370, 1371, 1372, 1373, 1374, 1375, 1376, 1377, 1378, 1379, 1380, 1381] (by decide +kernel) (by decide +kernel)
set_option maxRecDepth 20000 in
theorem gL_law_X12_sheet : GoodIn wsL_law (wsV RL 139 RX12 yX12_sheet wsX12_sheet) := goodIn_app (goodIn_of _ (by decide +kernel)) ggL_law_X12_sheet
set_option maxRecDepth 20000 in
theorem ggL_law_X11_lose : GoodIn wsL_law wsX11_lose := goodIn_r _ [1169, 15, 1170, 154, 155, 14, 156, 1171, 169, 170, 171, 52, 1325, 1326, 1327, 1328, 1329, 1330, 1331, 1332, 1333, 1334, 1335, 1336, 1382, 1383, 1384] (by decide +kernel) (by decide +kernel)
set_option maxRecDepth 20000 in
theorem gL_law_X11_lose : GoodIn wsL_law (wsV RL 140 RX11 yX11_lose wsX11_lose) := goodIn_app (goodIn_of _ (by decide +kernel)) ggL_law_X11_lose
set_option maxRecDepth 20000 in
theorem ggL_law_X12_lose : GoodIn wsL_law wsX12_lose := goodIn_r _ [1175, 141, 268, 269, 5, 270, 271, 272, 273, 274, 1337, 1338, 1339, 1340, 1341, 1342, 1343, 1344, 1345, 1346, 1347, 1348, 1349, 1350, 1351, 1352, 1353, 1354, 1355, 1356, 1357, 1358, 1359, 1360, 1361, 1362, 1363, 1364, 1365, 1366, 1367, 1368, 1369, 1370, 1371, 1372, 1373, 1374, 1375, 1376, 1377, 1378, 1379, 1380, 1381] (by decide +kernel) (by decide +kernel)
set_option maxRecDepth 20000 in
theorem gL_law_X12_lose : GoodIn wsL_law (wsV RL 143 RX12 yX12_lose wsX12_lose) := goodIn_app (goodIn_of _ (by decide +kernel)) ggL_law_X12_lose
set_option maxRecDepth 20000 in
theorem ggL_law_X11_put : GoodIn wsL_law wsX11_put := goodIn_r _ [1179, 149, 15, 150, 1170, 154, 155, 14, 156, 1171, 169, 170, 171, 52, 176, 177, 178, 2, 179, 1180, 1181, 1182, 1183, 53, 180, 181, 182, 1184, 1185, 1186, 1325, 1326, 1327, 1328, 1329, 1330, 1331, 1332, 1333, 1334, 1335, 1336, 1382, 1383, 1384] (by decide +kernel) (by decide +kernel)
set_option maxRecDepth 20000 in
theorem gL_law_X11_put : GoodIn wsL_law (wsV RL 144 RX11 yX11_put wsX11_put) := goodIn_app (goodIn_of _ (by decide +kernel)) ggL_law_X11_put
set_option maxRecDepth 20000 in
theorem ggL_law_X12_put : GoodIn wsL_law wsX12_put := goodIn_r _ [1190, 143, 142, 268, 269, 5, 270, 271, 272, 273, 274, 275, 276, 277, 278, 279, 1191, 1192, 1193, 1194, 141, 288, 289, 290, 291, 1337, 1338, 1339, 1340, 1341, 1342, 1343, 1344, 1345, 1346, 1347, 1348, 1349, 1350, 1351, 1352, 1353, 1354, 1355, 1356, 1357, 1358, 1359, 1360, 1361, 1362, 1363, 1364, 1365, 1366, 1367, 1368, 1369, 1370, 1371, 1372, 1373, 1374, 1375, 1376, 1377, 1378, 1379, 1380, 1381] (by decide +kernel) (by decide +kernel)
set_option maxRecDepth 20000 in
theorem gL_law_X12_put : GoodIn wsL_law (wsV RL 147 RX12 yX12_put wsX12_put) := goodIn_app (goodIn_of _ (by decide +kernel)) ggL_law_X12_put
set_option maxRecDepth 20000 in
theorem ggL_law_X11_cell : GoodIn wsL_law wsX11_cell := goodIn_r _ [1198, 149, 686, 15, 150, 154, 155, 14, 156, 157, 158, 159, 1199, 165, 166, 167, 52, 168, 169, 170, 171, 1180, 1181, 1182, 1183, 53, 180, 181, 182, 1325, 1326, 1327, 1328, 1329, 1330, 1331, 1332, 1333, 1334, 1335, 1336, 1382, 1383, 1384] (by decide +kernel) (by decide +kernel)
set_option maxRecDepth 20000 in
theorem gL_law_X11_cell : GoodIn wsL_law (wsV RL 148 RX11 yX11_cell wsX11_cell) := goodIn_app (goodIn_of _ (by decide +kernel)) ggL_law_X11_cell
set_option maxRecDepth 20000 in
theorem ggL_law_X12_cell : GoodIn wsL_law wsX12_cell := goodIn_r _ [1203, 279, 141, 142, 143, 268, 269, 5, 270, 271, 272, 273, 274, 280, 281, 282, 283, 759, 760, 761, 762, 1204, 1205, 1206, 1207, 1191, 1192, 1193, 1194, 1337, 1338, 1339, 1340, 1341, 1342, 1343, 1344, 1345, 1346, 1347, 1348, 1349, 1350, 1351, 1352, 1353, 1354, 1355, 1356, 1357, 1358, 1359, 1360, 1361, 1362, 1363, 1364, 1365, 1366, 1367, 1368, 1369, 1370, 1371, 1372, 1373, 1374, 1375, 1376, 1377, 1378, 1379, 1380, 1381] (by decide +kernel) (by decide +kernel)
set_option maxRecDepth 20000 in
theorem gL_law_X12_cell : GoodIn wsL_law (wsV RL 151 RX12 yX12_cell wsX12_cell) := goodIn_app (goodIn_of _ (by decide +kernel)) ggL_law_X12_cell
set_option maxRecDepth 20000 in
theorem ggL_law_X11_copy : GoodIn wsL_law wsX11_copy := goodIn_r _ [1211, 149, 15, 1170, 150, 504, 505, 506, 507, 154, 155, 14, 156, 1171, 169, 170, 171, 52, 176, 177, 178, 2, 179, 1212, 173, 174, 175, 53, 180, 181, 182, 1325, 1326, 1327, 1328, 1329, 1330, 1331, 1332, 1333, 1334, 1335, 1336, 1382, 1383, 1384] (by decide +kernel) (by decide +kernel)
set_option maxRecDepth 20000 in
theorem gL_law_X11_copy : GoodIn wsL_law (wsV RL 152 RX11 yX11_copy wsX11_copy) := goodIn_app (goodIn_of _ (by decide +kernel)) ggL_law_X11_copy
set_option maxRecDepth 20000 in
theorem ggL_law_X12_copy : GoodIn wsL_law wsX12_copy := goodIn_r _ [1216, 141, 142, 144, 143, 268, 269, 5, 270, 271, 272, 273, 274, 275, 276, 277, 278, 279, 288, 289, 290, 291, 292, 293, 294, 1337, 1338, 1339, 1340, 1341, 1342, 1343, 1344, 1345, 1346, 1347, 1348, 1349, 1350, 1351, 1352, 1353, 1354, 1355, 1356, 1357, 1358, 1359, 1360, 1361, 1362, 1363, 1364, 1365, 1366, 1367, 1368, 1369, 1370, 1371, 1372, 1373, 1374, 1375, 1376, 1377, 1378, 1379, 1380, 1381] (by decide +kernel) (by decide +kernel)
set_option maxRecDepth 20000 in
theorem gL_law_X12_copy : GoodIn wsL_law (wsV RL 156 RX12 yX12_copy wsX12_copy) := goodIn_app (goodIn_of _ (by decide +kernel)) ggL_law_X12_copy
set_option maxRecDepth 20000 in
theorem ggL_law_X11_tell : GoodIn wsL_law wsX11_tell := goodIn_r _ [1220, 47, 549, 550, 551, 2, 552, 253, 29, 1221, 1222, 1223, 509, 1224, 1225, 1226, 1227, 1228, 522, 1229, 1230, 1231, 1232, 1233, 1234, 1235, 1236, 1237, 1238, 1239, 1240, 512, 1241, 1242, 1243, 1244, 1245, 1246, 1247, 515, 1248, 1249, 1250, 1251, 1252, 1253, 1254, 1325, 1326, 1327, 1328, 1329, 1330, 1331, 1332, 1333, 1334, 1335, 1336, 1432, 1433, 1434, 1435, 1436, 1437, 1438, 1439, 1440] (by decide +kernel) (by decide +kernel)
set_option maxRecDepth 20000 in
theorem gL_law_X11_tell : GoodIn wsL_law (wsV RL 157 RX11 yX11_tell wsX11_tell) := goodIn_app (goodIn_of _ (by decide +kernel)) ggL_law_X11_tell
set_option maxRecDepth 20000 in
theorem ggL_law_X12_tell : GoodIn wsL_law wsX12_tell := goodIn_r _ [1258, 131, 133, 557, 558, 559, 5, 560, 266, 130, 272, 273, 274, 1259, 1260, 1261, 1262, 1263, 1337, 1338, 1339, 1340, 1341, 1342, 1343, 1344, 1345, 1346, 1347, 1348, 1349, 1350, 1351, 1352, 1353, 1354, 1355, 1356, 1357, 1358, 1359, 1360, 1361, 1362, 1363, 1364, 1365, 1366, 1367, 1368, 1369, 1370, 1371, 1372, 1373, 1374, 1375, 1376, 1377, 1378, 1379, 1380, 1381] (by decide +kernel) (by decide +kernel)
set_option maxRecDepth 20000 in
theorem gL_law_X12_tell : GoodIn wsL_law (wsV RL 160 RX12 yX12_tell wsX12_tell) := goodIn_app (goodIn_of _ (by decide +kernel)) ggL_law_X12_tell
set_option maxRecDepth 20000 in
theorem ggL_law_X11_label : GoodIn wsL_law wsX11_label := goodIn_r _ [1267, 47, 549, 550, 551, 2, 552, 253, 29, 1268, 1269, 1270, 509, 1271, 520, 1229, 1230, 1231, 1272, 1273, 1274, 1275, 1276, 1277, 515, 1278, 1325, 1326, 1327, 1328, 1329, 1330, 1331, 1332, 1333, 1334, 1335, 1336, 1432, 1433, 1434, 1435, 1436, 1437, 1438, 1439, 1440] (by decide +kernel) (by decide +kernel)
set_option maxRecDepth 20000 in
theorem gL_law_X11_label : GoodIn wsL_law (wsV RL 161 RX11 yX11_label wsX11_label) := goodIn_app (goodIn_of _ (by decide +kernel)) ggL_law_X11_label
set_option maxRecDepth 20000 in
theorem ggL_law_X12_label : GoodIn wsL_law wsX12_label := goodIn_r _ [1282, 131, 557, 558, 559, 5, 560, 266, 130, 272, 273, 274, 1259, 1260, 1261, 1262, 1263, 1337, 1338, 1339, 1340, 1341, 1342, 1343, 1344, 1345, 1346, 1347, 1348, 1349, 1350, 1351, 1352, 1353, 1354, 1355, 1356, 1357, 1358, 1359, 1360, 1361, 1362, 1363, 1364, 1365, 1366, 1367, 1368, 1369, 1370, 1371, 1372, 1373, 1374, 1375, 1376, 1377, 1378, 1379, 1380, 1381] (by decide +kernel) (by decide +kernel)
set_option maxRecDepth 20000 in
theorem gL_law_X12_label : GoodIn wsL_law (wsV RL 164 RX12 yX12_label wsX12_label) := goodIn_app (goodIn_of _ (by decide +kernel)) ggL_law_X12_label
set_option maxRecDepth 20000 in
theorem ggL_law_X11_as : GoodIn wsL_law wsX11_as := goodIn_r _ [1286, 149, 1287, 1288, 549, 550, 551, 2, 552, 253, 29, 492, 493, 494, 176, 177, 178, 179, 1325, 1326, 1327, 1328, 1329, 1330, 1331, 1332, 1333, 1334, 1335, 1336] (by decide +kernel) (by decide +kernel)
set_option maxRecDepth 20000 in
theorem gL_law_X11_as : GoodIn wsL_law (wsV RL 165 RX11 yX11_as wsX11_as) := goodIn_app (goodIn_of _ (by decide +kernel)) ggL_law_X11_as
set_option maxRecDepth 20000 in
theorem ggL_law_X12_as : GoodIn wsL_law wsX12_as := goodIn_r _ [1292, 283, 131, 557, 558, 559, 5, 560, 266, 130, 272, 273, 274, 275, 276, 277, 278, 279, 288, 289, 290, 291, 1337, 1338, 1339, 1340, 1341, 1342, 1343, 1344, 1345, 1346, 1347, 1348, 1349, 1350, 1351, 1352, 1353, 1354, 1355, 1356, 1357, 1358, 1359, 1360, 1361, 1362, 1363, 1364, 1365, 1366, 1367, 1368, 1369, 1370, 1371, 1372, 1373, 1374, 1375, 1376, 1377, 1378, 1379, 1380, 1381] (by decide +kernel) (by decide +kernel)
set_option maxRecDepth 20000 in
theorem gL_law_X12_as : GoodIn wsL_law (wsV RL 168 RX12 yX12_as wsX12_as) := goodIn_app (goodIn_of _ (by decide +kernel)) ggL_law_X12_as
set_option maxRecDepth 20000 in
theorem ggL_law_X11_trace : GoodIn wsL_law wsX11_trace := goodIn_r _ [1296, 47, 1325, 1326, 1327, 1328, 1329, 1330, 1331, 1332, 1333, 1334, 1335, 1336] (by decide +kernel) (by decide +kernel)
set_option maxRecDepth 20000 in
theorem gL_law_X11_trace : GoodIn wsL_law (wsV RL 169 RX11 yX11_trace wsX11_trace) := goodIn_app (goodIn_of _ (by decide +kernel)) ggL_law_X11_trace
set_option maxRecDepth 20000 in
theorem ggL_law_X12_trace : GoodIn wsL_law wsX12_trace := goodIn_r _ [1300, 1263, 1337, 1338, 1339, 1340, 1341, 1342, 1343, 1344, 1345, 1346, 1347, 1348, 1349, 1350, 1351, 1352, 1353, 1354, 1355, 1356, 1357, 1358, 1359, 1360, 1361, 1362, 1363, 1364, 1365, 1366, 1367, 1368, 1369, 1370, 1371, 1372, 1373, 1374, 1375, 1376, 1377, 1378, 1379, 1380, 1381] (by decide +kernel) (by decide +kernel)
set_option maxRecDepth 20000 in
theorem gL_law_X12_trace : GoodIn wsL_law (wsV RL 172 RX12 yX12_trace wsX12_trace) := goodIn_app (goodIn_of _ (by decide +kernel)) ggL_law_X12_trace
set_option maxRecDepth 20000 in
theorem ggL_law_X11_fault : GoodIn wsL_law wsX11_fault := goodIn_r _ [1304, 149, 1325, 1326, 1327, 1328, 1329, 1330, 1331, 1332, 1333, 1334, 1335, 1336] (by decide +kernel) (by decide +kernel)
set_option maxRecDepth 20000 in
theorem gL_law_X11_fault : GoodIn wsL_law (wsV RL 173 RX11 yX11_fault wsX11_fault) := goodIn_app (goodIn_of _ (by decide +kernel)) ggL_law_X11_fault
set_option maxRecDepth 20000 in
theorem ggL_law_X12_fault : GoodIn wsL_law wsX12_fault := goodIn_r _ [1308, 279, 1337, 1338, 1339, 1340, 1341, 1342, 1343, 1344, 1345, 1346, 1347, 1348, 1349, 1350, 1351, 1352, 1353, 1354, 1355, 1356, 1357, 1358, 1359, 1360, 1361, 1362, 1363, 1364, 1365, 1366, 1367, 1368, 1369, 1370, 1371, 1372, 1373, 1374, 1375, 1376, 1377, 1378, 1379, 1380, 1381] (by decide +kernel) (by decide +kernel)
set_option maxRecDepth 20000 in
theorem gL_law_X12_fault : GoodIn wsL_law (wsV RL 176 RX12 yX12_fault wsX12_fault) := goodIn_app (goodIn_of _ (by decide +kernel)) ggL_law_X12_fault
set_option maxRecDepth 20000 in
theorem ggL_law_X11_many : GoodIn wsL_law wsX11_many := goodIn_r _ [1312, 23, 1003, 153, 27, 151, 45, 152, 1313, 1314, 1315, 22, 1316, 231, 72, 1317, 1318, 1319, 2, 1320, 29, 1325, 1326, 1327, 1328, 1329, 1330, 1331, 1332, 1333, 1334, 1335, 1336, 1396, 1397, 1398, 1399, 1400, 1401, 1402, 1403, 1404, 1405, 1406, 1407, 1408, 1409, 1426, 1427, 1428, 1429, 1430, 1431] (by decide +kernel) (by decide +kernel)
set_option maxRecDepth 20000 in
theorem gL_law_X11_many : GoodIn wsL_law (wsV RL 177 RX11 yX11_many wsX11_many) := goodIn_app (goodIn_of _ (by decide +kernel)) ggL_law_X11_many
set_option maxRecDepth 20000 in
theorem ggL_law_X12_many : GoodIn wsL_law wsX12_many := goodIn_r _ [1324, 264, 121, 266, 130, 260, 265, 267, 1337, 1338, 1339, 1340, 1341, 1342, 1343, 1344, 1345, 1346, 1347, 1348, 1349, 1350, 1351, 1352, 1353, 1354, 1355, 1356, 1357, 1358, 1359, 1360, 1361, 1362, 1363, 1364, 1365, 1366, 1367, 1368, 1369, 1370, 1371, 1372, 1373, 1374, 1375, 1376, 1377, 1378, 1379, 1380, 1381] (by decide +kernel) (by decide +kernel)
set_option maxRecDepth 20000 in
theorem gL_law_X12_many : GoodIn wsL_law (wsV RL 180 RX12 yX12_many wsX12_many) := goodIn_app (goodIn_of _ (by decide +kernel)) ggL_law_X12_many
theorem dL_law_0 : decode cL_law 0 = .ok (.new 7, 3) := by decide +kernel
theorem dL_law_3 : decode cL_law 3 = .ok (.dup, 1) := by decide +kernel
theorem dL_law_4 : decode cL_law 4 = .ok (.invokespecial 9, 3) := by decide +kernel
theorem dL_law_7 : decode cL_law 7 = .ok (.astore_n 1, 1) := by decide +kernel
theorem dL_law_8 : decode cL_law 8 = .ok (.new 10, 3) := by decide +kernel
theorem dL_law_11 : decode cL_law 11 = .ok (.dup, 1) := by decide +kernel
theorem dL_law_12 : decode cL_law 12 = .ok (.invokespecial 12, 3) := by decide +kernel
theorem dL_law_15 : decode cL_law 15 = .ok (.astore_n 2, 1) := by decide +kernel
theorem dL_law_16 : decode cL_law 16 = .ok (.iconst 0, 1) := by decide +kernel
theorem dL_law_17 : decode cL_law 17 = .ok (.istore_n 3, 1) := by decide +kernel
theorem dL_law_18 : decode cL_law 18 = .ok (.iload_n 3, 1) := by decide +kernel
theorem dL_law_19 : decode cL_law 19 = .ok (.aload_n 0, 1) := by decide +kernel
theorem dL_law_20 : decode cL_law 20 = .ok (.arraylength, 1) := by decide +kernel
theorem dL_law_21 : decode cL_law 21 = .ok (.bipush 7, 2) := by decide +kernel
theorem dL_law_23 : decode cL_law 23 = .ok (.isub, 1) := by decide +kernel
theorem dL_law_24 : decode cL_law 24 = .ok (.if_icmp .gt 1658, 3) := by decide +kernel
theorem dL_law_27 : decode cL_law 27 = .ok (.aload_n 0, 1) := by decide +kernel
theorem dL_law_28 : decode cL_law 28 = .ok (.iload_n 3, 1) := by decide +kernel
theorem dL_law_29 : decode cL_law 29 = .ok (.iaload, 1) := by decide +kernel
theorem dL_law_30 : decode cL_law 30 = .ok (.bipush 63, 2) := by decide +kernel
theorem dL_law_32 : decode cL_law 32 = .ok (.iand, 1) := by decide +kernel
theorem dL_law_33 : decode cL_law 33 = .ok (.tableswitch 1643 0 38 #[171, 224, 257, 306, 349, 392, 415, 458, 491, 524, 599, 622, 655, 688, 732, 776, 799, 832, 875, 934, 1003, 1062, 1131, 1164, 1207, 1240, 1263, 1286, 1299, 1342, 1365, 1408, 1452, 1515, 1538, 1561, 1594, 1607, 1620], 171) := by decide +kernel
theorem dL_law_204 : decode cL_law 204 = .ok (.aload_n 1, 1) := by decide +kernel
theorem dL_law_205 : decode cL_law 205 = .ok (.aload_n 0, 1) := by decide +kernel
theorem dL_law_206 : decode cL_law 206 = .ok (.iload_n 3, 1) := by decide +kernel
theorem dL_law_207 : decode cL_law 207 = .ok (.iconst 1, 1) := by decide +kernel
theorem dL_law_208 : decode cL_law 208 = .ok (.iadd, 1) := by decide +kernel
theorem dL_law_209 : decode cL_law 209 = .ok (.iaload, 1) := by decide +kernel
theorem dL_law_210 : decode cL_law 210 = .ok (.aload_n 0, 1) := by decide +kernel
theorem dL_law_211 : decode cL_law 211 = .ok (.iload_n 3, 1) := by decide +kernel
theorem dL_law_212 : decode cL_law 212 = .ok (.iconst 2, 1) := by decide +kernel
theorem dL_law_213 : decode cL_law 213 = .ok (.iadd, 1) := by decide +kernel
theorem dL_law_214 : decode cL_law 214 = .ok (.iaload, 1) := by decide +kernel
theorem dL_law_215 : decode cL_law 215 = .ok (.aload_n 0, 1) := by decide +kernel
theorem dL_law_216 : decode cL_law 216 = .ok (.iload_n 3, 1) := by decide +kernel
theorem dL_law_217 : decode cL_law 217 = .ok (.iconst 3, 1) := by decide +kernel
theorem dL_law_218 : decode cL_law 218 = .ok (.iadd, 1) := by decide +kernel
theorem dL_law_219 : decode cL_law 219 = .ok (.iaload, 1) := by decide +kernel
theorem dL_law_220 : decode cL_law 220 = .ok (.aload_n 0, 1) := by decide +kernel
theorem dL_law_221 : decode cL_law 221 = .ok (.iload_n 3, 1) := by decide +kernel
theorem dL_law_222 : decode cL_law 222 = .ok (.iconst 4, 1) := by decide +kernel
theorem dL_law_223 : decode cL_law 223 = .ok (.iadd, 1) := by decide +kernel
theorem dL_law_224 : decode cL_law 224 = .ok (.iaload, 1) := by decide +kernel
theorem dL_law_225 : decode cL_law 225 = .ok (.invokevirtual 13, 3) := by decide +kernel
theorem dL_law_228 : decode cL_law 228 = .ok (.aload_n 2, 1) := by decide +kernel
theorem dL_law_229 : decode cL_law 229 = .ok (.aload_n 0, 1) := by decide +kernel
theorem dL_law_230 : decode cL_law 230 = .ok (.iload_n 3, 1) := by decide +kernel
theorem dL_law_231 : decode cL_law 231 = .ok (.iconst 1, 1) := by decide +kernel
theorem dL_law_232 : decode cL_law 232 = .ok (.iadd, 1) := by decide +kernel
theorem dL_law_233 : decode cL_law 233 = .ok (.iaload, 1) := by decide +kernel
theorem dL_law_234 : decode cL_law 234 = .ok (.aload_n 0, 1) := by decide +kernel
theorem dL_law_235 : decode cL_law 235 = .ok (.iload_n 3, 1) := by decide +kernel
theorem dL_law_236 : decode cL_law 236 = .ok (.iconst 2, 1) := by decide +kernel
theorem dL_law_237 : decode cL_law 237 = .ok (.iadd, 1) := by decide +kernel
theorem dL_law_238 : decode cL_law 238 = .ok (.iaload, 1) := by decide +kernel
theorem dL_law_239 : decode cL_law 239 = .ok (.aload_n 0, 1) := by decide +kernel
theorem dL_law_240 : decode cL_law 240 = .ok (.iload_n 3, 1) := by decide +kernel
theorem dL_law_241 : decode cL_law 241 = .ok (.iconst 3, 1) := by decide +kernel
theorem dL_law_242 : decode cL_law 242 = .ok (.iadd, 1) := by decide +kernel
theorem dL_law_243 : decode cL_law 243 = .ok (.iaload, 1) := by decide +kernel
theorem dL_law_244 : decode cL_law 244 = .ok (.aload_n 0, 1) := by decide +kernel
theorem dL_law_245 : decode cL_law 245 = .ok (.iload_n 3, 1) := by decide +kernel
theorem dL_law_246 : decode cL_law 246 = .ok (.iconst 4, 1) := by decide +kernel
theorem dL_law_247 : decode cL_law 247 = .ok (.iadd, 1) := by decide +kernel
theorem dL_law_248 : decode cL_law 248 = .ok (.iaload, 1) := by decide +kernel
theorem dL_law_249 : decode cL_law 249 = .ok (.invokevirtual 17, 3) := by decide +kernel
theorem dL_law_252 : decode cL_law 252 = .ok (.if_icmp .eq 1424, 3) := by decide +kernel
theorem dL_law_255 : decode cL_law 255 = .ok (.iconst 0, 1) := by decide +kernel
theorem dL_law_256 : decode cL_law 256 = .ok (.ireturn, 1) := by decide +kernel
theorem dL_law_257 : decode cL_law 257 = .ok (.aload_n 1, 1) := by decide +kernel
theorem dL_law_258 : decode cL_law 258 = .ok (.aload_n 0, 1) := by decide +kernel
theorem dL_law_259 : decode cL_law 259 = .ok (.iload_n 3, 1) := by decide +kernel
theorem dL_law_260 : decode cL_law 260 = .ok (.iconst 1, 1) := by decide +kernel
theorem dL_law_261 : decode cL_law 261 = .ok (.iadd, 1) := by decide +kernel
theorem dL_law_262 : decode cL_law 262 = .ok (.iaload, 1) := by decide +kernel
theorem dL_law_263 : decode cL_law 263 = .ok (.aload_n 0, 1) := by decide +kernel
theorem dL_law_264 : decode cL_law 264 = .ok (.iload_n 3, 1) := by decide +kernel
theorem dL_law_265 : decode cL_law 265 = .ok (.iconst 2, 1) := by decide +kernel
theorem dL_law_266 : decode cL_law 266 = .ok (.iadd, 1) := by decide +kernel
theorem dL_law_267 : decode cL_law 267 = .ok (.iaload, 1) := by decide +kernel
