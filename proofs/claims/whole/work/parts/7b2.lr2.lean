/-! THE LAW: rows of its code, 2 (printed by wip/whole/g7f.py). -/
theorem dw_law_1048 : decode code 1048 = .ok (.invokevirtual 125, 3) := by decide +kernel
theorem dw_law_1051 : decode code 1051 = .ok (.istore 6, 2) := by decide +kernel
theorem td_1053 : tailD 1053 (574) := by unfold tailD; decide +kernel
theorem dw_law_1084 : decode code 1084 = .ok (.aload_n 1, 1) := by decide +kernel
theorem ag_1085 : argD 1085 1 := by unfold argD; decide +kernel
theorem ag_1091 : argD 1091 2 := by unfold argD; decide +kernel
theorem dw_law_1097 : decode code 1097 = .ok (.invokevirtual 126, 3) := by decide +kernel
theorem dw_law_1100 : decode code 1100 = .ok (.aload_n 2, 1) := by decide +kernel
theorem ag_1101 : argD 1101 1 := by unfold argD; decide +kernel
theorem ag_1107 : argD 1107 2 := by unfold argD; decide +kernel
theorem dw_law_1113 : decode code 1113 = .ok (.invokevirtual 129, 3) := by decide +kernel
theorem dw_law_1116 : decode code 1116 = .ok (.if_icmp .eq 539, 3) := by decide +kernel
theorem dw_law_1121 : decode code 1121 = .ok (.aload_n 1, 1) := by decide +kernel
theorem ag_1122 : argD 1122 1 := by unfold argD; decide +kernel
theorem dw_law_1128 : decode code 1128 = .ok (.invokevirtual 130, 3) := by decide +kernel
theorem dw_law_1131 : decode code 1131 = .ok (.aload_n 2, 1) := by decide +kernel
theorem ag_1132 : argD 1132 1 := by unfold argD; decide +kernel
theorem dw_law_1138 : decode code 1138 = .ok (.invokevirtual 133, 3) := by decide +kernel
theorem dw_law_1141 : decode code 1141 = .ok (.if_icmp .eq 514, 3) := by decide +kernel
theorem dw_law_1146 : decode code 1146 = .ok (.aload_n 1, 1) := by decide +kernel
theorem dw_law_1147 : decode code 1147 = .ok (.invokevirtual 134, 3) := by decide +kernel
theorem dw_law_1150 : decode code 1150 = .ok (.aload_n 2, 1) := by decide +kernel
theorem dw_law_1151 : decode code 1151 = .ok (.invokevirtual 137, 3) := by decide +kernel
theorem dw_law_1154 : decode code 1154 = .ok (.if_icmp .eq 501, 3) := by decide +kernel
theorem dw_law_1159 : decode code 1159 = .ok (.aload_n 1, 1) := by decide +kernel
theorem ag_1160 : argD 1160 1 := by unfold argD; decide +kernel
theorem ag_1166 : argD 1166 2 := by unfold argD; decide +kernel
theorem ag_1172 : argD 1172 3 := by unfold argD; decide +kernel
theorem dw_law_1178 : decode code 1178 = .ok (.ifCond .eq 7, 3) := by decide +kernel
theorem dw_law_1181 : decode code 1181 = .ok (.iconst 1, 1) := by decide +kernel
theorem dw_law_1182 : decode code 1182 = .ok (.goto 4, 3) := by decide +kernel
theorem dw_law_1185 : decode code 1185 = .ok (.iconst 0, 1) := by decide +kernel
theorem dw_law_1186 : decode code 1186 = .ok (.invokevirtual 138, 3) := by decide +kernel
theorem dw_law_1189 : decode code 1189 = .ok (.aload_n 2, 1) := by decide +kernel
theorem ag_1190 : argD 1190 1 := by unfold argD; decide +kernel
theorem ag_1196 : argD 1196 2 := by unfold argD; decide +kernel
theorem ag_1202 : argD 1202 3 := by unfold argD; decide +kernel
theorem dw_law_1208 : decode code 1208 = .ok (.ifCond .eq 7, 3) := by decide +kernel
theorem dw_law_1211 : decode code 1211 = .ok (.iconst 1, 1) := by decide +kernel
theorem dw_law_1212 : decode code 1212 = .ok (.goto 4, 3) := by decide +kernel
theorem dw_law_1215 : decode code 1215 = .ok (.iconst 0, 1) := by decide +kernel
theorem dw_law_1216 : decode code 1216 = .ok (.invokevirtual 142, 3) := by decide +kernel
theorem dw_law_1219 : decode code 1219 = .ok (.if_icmp .eq 436, 3) := by decide +kernel
theorem dw_law_1224 : decode code 1224 = .ok (.aload_n 1, 1) := by decide +kernel
theorem ag_1225 : argD 1225 1 := by unfold argD; decide +kernel
theorem ag_1231 : argD 1231 2 := by unfold argD; decide +kernel
theorem dw_law_1237 : decode code 1237 = .ok (.invokevirtual 143, 3) := by decide +kernel
theorem dw_law_1240 : decode code 1240 = .ok (.aload_n 2, 1) := by decide +kernel
theorem ag_1241 : argD 1241 1 := by unfold argD; decide +kernel
theorem ag_1247 : argD 1247 2 := by unfold argD; decide +kernel
theorem dw_law_1253 : decode code 1253 = .ok (.invokevirtual 146, 3) := by decide +kernel
theorem dw_law_1256 : decode code 1256 = .ok (.if_icmp .eq 399, 3) := by decide +kernel
theorem dw_law_1261 : decode code 1261 = .ok (.aload_n 1, 1) := by decide +kernel
theorem ag_1262 : argD 1262 1 := by unfold argD; decide +kernel
theorem ag_1268 : argD 1268 2 := by unfold argD; decide +kernel
theorem dw_law_1274 : decode code 1274 = .ok (.invokevirtual 147, 3) := by decide +kernel
theorem dw_law_1277 : decode code 1277 = .ok (.aload_n 2, 1) := by decide +kernel
theorem ag_1278 : argD 1278 1 := by unfold argD; decide +kernel
theorem ag_1284 : argD 1284 2 := by unfold argD; decide +kernel
theorem dw_law_1290 : decode code 1290 = .ok (.invokevirtual 150, 3) := by decide +kernel
theorem dw_law_1293 : decode code 1293 = .ok (.if_icmp .eq 362, 3) := by decide +kernel
theorem dw_law_1298 : decode code 1298 = .ok (.aload_n 1, 1) := by decide +kernel
theorem dw_law_1299 : decode code 1299 = .ok (.invokevirtual 151, 3) := by decide +kernel
theorem dw_law_1302 : decode code 1302 = .ok (.aload_n 2, 1) := by decide +kernel
theorem dw_law_1303 : decode code 1303 = .ok (.invokevirtual 154, 3) := by decide +kernel
theorem dw_law_1306 : decode code 1306 = .ok (.if_icmp .eq 349, 3) := by decide +kernel
theorem dw_law_1311 : decode code 1311 = .ok (.aload_n 1, 1) := by decide +kernel
theorem ag_1312 : argD 1312 1 := by unfold argD; decide +kernel
theorem ag_1318 : argD 1318 2 := by unfold argD; decide +kernel
theorem dw_law_1324 : decode code 1324 = .ok (.invokevirtual 155, 3) := by decide +kernel
theorem dw_law_1327 : decode code 1327 = .ok (.aload_n 2, 1) := by decide +kernel
theorem ag_1328 : argD 1328 1 := by unfold argD; decide +kernel
theorem ag_1334 : argD 1334 2 := by unfold argD; decide +kernel
theorem dw_law_1340 : decode code 1340 = .ok (.invokevirtual 158, 3) := by decide +kernel
theorem dw_law_1343 : decode code 1343 = .ok (.if_icmp .eq 312, 3) := by decide +kernel
theorem dw_law_1348 : decode code 1348 = .ok (.aload_n 1, 1) := by decide +kernel
theorem ag_1349 : argD 1349 1 := by unfold argD; decide +kernel
theorem dw_law_1355 : decode code 1355 = .ok (.aload_n 3, 1) := by decide +kernel
theorem dw_law_1356 : decode code 1356 = .ok (.invokestatic 159, 3) := by decide +kernel
theorem dw_law_1359 : decode code 1359 = .ok (.istore 5, 2) := by decide +kernel
theorem dw_law_1361 : decode code 1361 = .ok (.aload_n 2, 1) := by decide +kernel
theorem ag_1362 : argD 1362 1 := by unfold argD; decide +kernel
theorem dw_law_1368 : decode code 1368 = .ok (.invokevirtual 161, 3) := by decide +kernel
theorem dw_law_1371 : decode code 1371 = .ok (.istore 6, 2) := by decide +kernel
theorem td_1373 : tailD 1373 (254) := by unfold tailD; decide +kernel
theorem dw_law_1404 : decode code 1404 = .ok (.aload_n 1, 1) := by decide +kernel
theorem ag_1405 : argD 1405 1 := by unfold argD; decide +kernel
theorem dw_law_1411 : decode code 1411 = .ok (.aload_n 3, 1) := by decide +kernel
theorem dw_law_1412 : decode code 1412 = .ok (.invokestatic 162, 3) := by decide +kernel
theorem dw_law_1415 : decode code 1415 = .ok (.istore 5, 2) := by decide +kernel
theorem dw_law_1417 : decode code 1417 = .ok (.aload_n 2, 1) := by decide +kernel
theorem ag_1418 : argD 1418 1 := by unfold argD; decide +kernel
theorem dw_law_1424 : decode code 1424 = .ok (.invokevirtual 164, 3) := by decide +kernel
theorem dw_law_1427 : decode code 1427 = .ok (.istore 6, 2) := by decide +kernel
theorem td_1429 : tailD 1429 (198) := by unfold tailD; decide +kernel
theorem dw_law_1460 : decode code 1460 = .ok (.aload_n 1, 1) := by decide +kernel
theorem dw_law_1461 : decode code 1461 = .ok (.invokevirtual 165, 3) := by decide +kernel
theorem dw_law_1464 : decode code 1464 = .ok (.aload_n 2, 1) := by decide +kernel
theorem dw_law_1465 : decode code 1465 = .ok (.invokevirtual 168, 3) := by decide +kernel
theorem dw_law_1468 : decode code 1468 = .ok (.goto 187, 3) := by decide +kernel
theorem dw_law_1471 : decode code 1471 = .ok (.aload_n 1, 1) := by decide +kernel
theorem ag_1472 : argD 1472 1 := by unfold argD; decide +kernel
theorem ag_1478 : argD 1478 2 := by unfold argD; decide +kernel
theorem ag_1484 : argD 1484 3 := by unfold argD; decide +kernel
theorem ag_1490 : argD 1490 4 := by unfold argD; decide +kernel
theorem dw_law_1496 : decode code 1496 = .ok (.aload_n 3, 1) := by decide +kernel
theorem dw_law_1497 : decode code 1497 = .ok (.invokestatic 169, 3) := by decide +kernel
theorem dw_law_1500 : decode code 1500 = .ok (.istore 5, 2) := by decide +kernel
theorem dw_law_1502 : decode code 1502 = .ok (.aload_n 2, 1) := by decide +kernel
theorem ag_1503 : argD 1503 1 := by unfold argD; decide +kernel
theorem ag_1509 : argD 1509 2 := by unfold argD; decide +kernel
theorem ag_1515 : argD 1515 3 := by unfold argD; decide +kernel
theorem ag_1521 : argD 1521 4 := by unfold argD; decide +kernel
theorem dw_law_1527 : decode code 1527 = .ok (.invokevirtual 171, 3) := by decide +kernel
theorem dw_law_1530 : decode code 1530 = .ok (.istore 6, 2) := by decide +kernel
theorem td_1532 : tailD 1532 (95) := by unfold tailD; decide +kernel
theorem dw_law_1563 : decode code 1563 = .ok (.aload_n 1, 1) := by decide +kernel
theorem ag_1564 : argD 1564 1 := by unfold argD; decide +kernel
theorem ag_1570 : argD 1570 2 := by unfold argD; decide +kernel
theorem dw_law_1576 : decode code 1576 = .ok (.aload_n 3, 1) := by decide +kernel
theorem dw_law_1577 : decode code 1577 = .ok (.invokestatic 172, 3) := by decide +kernel
theorem dw_law_1580 : decode code 1580 = .ok (.istore 5, 2) := by decide +kernel
theorem dw_law_1582 : decode code 1582 = .ok (.aload_n 2, 1) := by decide +kernel
theorem ag_1583 : argD 1583 1 := by unfold argD; decide +kernel
theorem ag_1589 : argD 1589 2 := by unfold argD; decide +kernel
theorem dw_law_1595 : decode code 1595 = .ok (.invokevirtual 174, 3) := by decide +kernel
theorem dw_law_1598 : decode code 1598 = .ok (.istore 6, 2) := by decide +kernel
theorem td_1600 : tailD 1600 (27) := by unfold tailD; decide +kernel
theorem dw_law_1631 : decode code 1631 = .ok (.aload_n 1, 1) := by decide +kernel
theorem dw_law_1632 : decode code 1632 = .ok (.invokevirtual 175, 3) := by decide +kernel
theorem dw_law_1635 : decode code 1635 = .ok (.aload_n 2, 1) := by decide +kernel
theorem dw_law_1636 : decode code 1636 = .ok (.invokevirtual 178, 3) := by decide +kernel
theorem dw_law_1639 : decode code 1639 = .ok (.goto 16, 3) := by decide +kernel
theorem dw_law_1642 : decode code 1642 = .ok (.aload_n 1, 1) := by decide +kernel
theorem dw_law_1643 : decode code 1643 = .ok (.invokevirtual 179, 3) := by decide +kernel
theorem dw_law_1646 : decode code 1646 = .ok (.aload_n 2, 1) := by decide +kernel
theorem dw_law_1647 : decode code 1647 = .ok (.invokevirtual 183, 3) := by decide +kernel
theorem dw_law_1650 : decode code 1650 = .ok (.if_icmp .eq 5, 3) := by decide +kernel
theorem dw_law_0 : decode code 0 = .ok (.new 8, 3) := by decide +kernel
theorem dw_law_3 : decode code 3 = .ok (.dup, 1) := by decide +kernel
theorem dw_law_4 : decode code 4 = .ok (.invokespecial 62, 3) := by decide +kernel
theorem dw_law_7 : decode code 7 = .ok (.astore_n 1, 1) := by decide +kernel
theorem dw_law_8 : decode code 8 = .ok (.new 63, 3) := by decide +kernel
theorem dw_law_11 : decode code 11 = .ok (.dup, 1) := by decide +kernel
theorem dw_law_12 : decode code 12 = .ok (.invokespecial 65, 3) := by decide +kernel
theorem dw_law_15 : decode code 15 = .ok (.astore_n 2, 1) := by decide +kernel
theorem dw_law_16 : decode code 16 = .ok (.iconst 1, 1) := by decide +kernel
theorem dw_law_17 : decode code 17 = .ok (.newarray .long, 2) := by decide +kernel
theorem dw_law_19 : decode code 19 = .ok (.astore_n 3, 1) := by decide +kernel
theorem dw_law_20 : decode code 20 = .ok (.iconst 0, 1) := by decide +kernel
theorem dw_law_21 : decode code 21 = .ok (.istore 4, 2) := by decide +kernel
theorem dw_law_23 : decode code 23 = .ok (.iload 4, 2) := by decide +kernel
theorem dw_law_25 : decode code 25 = .ok (.aload_n 0, 1) := by decide +kernel
theorem dw_law_26 : decode code 26 = .ok (.arraylength, 1) := by decide +kernel
theorem dw_law_27 : decode code 27 = .ok (.bipush 6, 2) := by decide +kernel
theorem dw_law_29 : decode code 29 = .ok (.isub, 1) := by decide +kernel
theorem dw_law_30 : decode code 30 = .ok (.if_icmp .gt 1631, 3) := by decide +kernel
theorem dw_law_33 : decode code 33 = .ok (.aload_n 0, 1) := by decide +kernel
theorem dw_law_34 : decode code 34 = .ok (.iload 4, 2) := by decide +kernel
theorem dw_law_36 : decode code 36 = .ok (.iaload, 1) := by decide +kernel
theorem dw_law_37 : decode code 37 = .ok (.bipush 31, 2) := by decide +kernel
theorem dw_law_39 : decode code 39 = .ok (.iand, 1) := by decide +kernel
theorem dw_law_40 : decode code 40 = .ok (.tableswitch 1615 0 29 #[136, 209, 265, 278, 334, 402, 470, 550, 575, 600, 668, 760, 840, 908, 976, 1044, 1081, 1106, 1119, 1184, 1221, 1258, 1271, 1308, 1364, 1420, 1431, 1523, 1591, 1602], 136) := by decide +kernel
theorem dw_law_1655 : decode code 1655 = .ok (.iinc 4 6, 3) := by decide +kernel
theorem dw_law_1658 : decode code 1658 = .ok (.goto (-1635), 3) := by decide +kernel
theorem dw_law_1661 : decode code 1661 = .ok (.iconst 1, 1) := by decide +kernel
theorem dw_law_1662 : decode code 1662 = .ok (.ireturn, 1) := by decide +kernel
