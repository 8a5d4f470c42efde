/-! printed by wip/whole/h_*.py -/
abbrev YL_size : zY := (yL_size, cL_size, 4, (some .int), 40, [(0, 9, 12, 13)])
theorem zw_1322 : Cond.methodLink RL 7 yX8_size ∈ zAll := zin 1322 (by decide +kernel) (by decide +kernel)
theorem zw_1323 : Cond.instanceMethod yX8_size ∈ zAll := zin 1323 (by decide +kernel) (by decide +kernel)
theorem zw_1324 : Cond.selects RX8 yX8_size yX8_size ∈ zAll := zin 1324 (by decide +kernel) (by decide +kernel)
theorem zw_1325 : Cond.code yX8_size cX8_size 2 (some .int) ∈ zAll := zin 1325 (by decide +kernel) (by decide +kernel)
theorem zcv_YL_size_7 : zLV YL_size 7 Y_X8_size 1 RX8 := ⟨zw_1322, zw_1323, zw_1324, zw_111, zw_1325, by decide +kernel, by decide, by decide⟩
theorem zw_1321 : Cond.classLink RL 13 "java/lang/IllegalArgumentException" ∈ zAll := zin 1321 (by decide +kernel) (by decide +kernel)
abbrev YL_flow : zY := (yL_flow, cL_flow, 5, (some .int), 40, [(0, 10, 13, 19), (0, 10, 17, 13)])
theorem zw_1337 : Cond.methodLink RL 15 yX8_flow ∈ zAll := zin 1337 (by decide +kernel) (by decide +kernel)
theorem zw_1338 : Cond.instanceMethod yX8_flow ∈ zAll := zin 1338 (by decide +kernel) (by decide +kernel)
theorem zw_1339 : Cond.selects RX8 yX8_flow yX8_flow ∈ zAll := zin 1339 (by decide +kernel) (by decide +kernel)
theorem zw_1340 : Cond.code yX8_flow cX8_flow 4 (some .int) ∈ zAll := zin 1340 (by decide +kernel) (by decide +kernel)
theorem zcv_YL_flow_15 : zLV YL_flow 15 Y_X8_flow 2 RX8 := ⟨zw_1337, zw_1338, zw_1339, zw_111, zw_1340, by decide +kernel, by decide, by decide⟩
theorem zw_1336 : Cond.classLink RL 19 "java/lang/IndexOutOfBoundsException" ∈ zAll := zin 1336 (by decide +kernel) (by decide +kernel)
abbrev YL_letter : zY := (yL_letter, cL_letter, 5, (some .int), 40, [(0, 10, 13, 19)])
theorem zw_1373 : Cond.methodLink RL 21 yX8_letter ∈ zAll := zin 1373 (by decide +kernel) (by decide +kernel)
theorem zw_1374 : Cond.instanceMethod yX8_letter ∈ zAll := zin 1374 (by decide +kernel) (by decide +kernel)
theorem zw_1375 : Cond.selects RX8 yX8_letter yX8_letter ∈ zAll := zin 1375 (by decide +kernel) (by decide +kernel)
theorem zw_1376 : Cond.code yX8_letter cX8_letter 4 (some .int) ∈ zAll := zin 1376 (by decide +kernel) (by decide +kernel)
theorem zcv_YL_letter_21 : zLV YL_letter 21 Y_X8_letter 2 RX8 := ⟨zw_1373, zw_1374, zw_1375, zw_111, zw_1376, by decide +kernel, by decide, by decide⟩
abbrev YL_packet : zY := (yL_packet, cL_packet, 5, (some .int), 40, [(0, 10, 13, 19), (0, 10, 17, 13)])
theorem zw_1382 : Cond.methodLink RL 24 yX8_packet ∈ zAll := zin 1382 (by decide +kernel) (by decide +kernel)
theorem zw_1383 : Cond.instanceMethod yX8_packet ∈ zAll := zin 1383 (by decide +kernel) (by decide +kernel)
theorem zw_1384 : Cond.selects RX8 yX8_packet yX8_packet ∈ zAll := zin 1384 (by decide +kernel) (by decide +kernel)
theorem zw_1385 : Cond.code yX8_packet cX8_packet 3 (some .int) ∈ zAll := zin 1385 (by decide +kernel) (by decide +kernel)
theorem zcv_YL_packet_24 : zLV YL_packet 24 Y_X8_packet 2 RX8 := ⟨zw_1382, zw_1383, zw_1384, zw_111, zw_1385, by decide +kernel, by decide, by decide⟩
abbrev YL_account : zY := (yL_account, cL_account, 5, (some .int), 40, [(0, 9, 12, 19), (0, 9, 16, 13)])
theorem zw_1389 : Cond.methodLink RL 27 yX8_account ∈ zAll := zin 1389 (by decide +kernel) (by decide +kernel)
theorem zw_1390 : Cond.instanceMethod yX8_account ∈ zAll := zin 1390 (by decide +kernel) (by decide +kernel)
theorem zw_1391 : Cond.selects RX8 yX8_account yX8_account ∈ zAll := zin 1391 (by decide +kernel) (by decide +kernel)
theorem zw_1392 : Cond.code yX8_account cX8_account 3 (some .long) ∈ zAll := zin 1392 (by decide +kernel) (by decide +kernel)
theorem zcv_YL_account_27 : zLV YL_account 27 Y_X8_account 2 RX8 := ⟨zw_1389, zw_1390, zw_1391, zw_111, zw_1392, by decide +kernel, by decide, by decide⟩
abbrev YL_decision : zY := (yL_decision, cL_decision, 5, (some .int), 40, [(0, 10, 13, 19), (0, 10, 17, 13)])
theorem zw_1400 : Cond.methodLink RL 31 yX8_decision ∈ zAll := zin 1400 (by decide +kernel) (by decide +kernel)
theorem zw_1401 : Cond.instanceMethod yX8_decision ∈ zAll := zin 1401 (by decide +kernel) (by decide +kernel)
theorem zw_1402 : Cond.selects RX8 yX8_decision yX8_decision ∈ zAll := zin 1402 (by decide +kernel) (by decide +kernel)
theorem zw_1403 : Cond.code yX8_decision cX8_decision 3 (some .int) ∈ zAll := zin 1403 (by decide +kernel) (by decide +kernel)
theorem zcv_YL_decision_31 : zLV YL_decision 31 Y_X8_decision 2 RX8 := ⟨zw_1400, zw_1401, zw_1402, zw_111, zw_1403, by decide +kernel, by decide, by decide⟩
abbrev YL_meanWait : zY := (yL_meanWait, cL_meanWait, 4, (some .int), 40, [(0, 8, 11, 19)])
theorem zw_1408 : Cond.methodLink RL 34 yX8_meanWait ∈ zAll := zin 1408 (by decide +kernel) (by decide +kernel)
theorem zw_1409 : Cond.instanceMethod yX8_meanWait ∈ zAll := zin 1409 (by decide +kernel) (by decide +kernel)
theorem zw_1410 : Cond.selects RX8 yX8_meanWait yX8_meanWait ∈ zAll := zin 1410 (by decide +kernel) (by decide +kernel)
theorem zw_1411 : Cond.code yX8_meanWait cX8_meanWait 4 (some .double) ∈ zAll := zin 1411 (by decide +kernel) (by decide +kernel)
theorem zcv_YL_meanWait_34 : zLV YL_meanWait 34 Y_X8_meanWait 1 RX8 := ⟨zw_1408, zw_1409, zw_1410, zw_111, zw_1411, by decide +kernel, by decide, by decide⟩
abbrev YL_base : zY := (yL_base, cL_base, 4, (some .int), 40, [(0, 9, 12, 13)])
theorem zw_1415 : Cond.methodLink RL 38 yX8_base ∈ zAll := zin 1415 (by decide +kernel) (by decide +kernel)
theorem zw_1416 : Cond.instanceMethod yX8_base ∈ zAll := zin 1416 (by decide +kernel) (by decide +kernel)
theorem zw_1417 : Cond.selects RX8 yX8_base yX8_base ∈ zAll := zin 1417 (by decide +kernel) (by decide +kernel)
theorem zw_1418 : Cond.code yX8_base cX8_base 2 (some .int) ∈ zAll := zin 1418 (by decide +kernel) (by decide +kernel)
theorem zcv_YL_base_38 : zLV YL_base 38 Y_X8_base 1 RX8 := ⟨zw_1415, zw_1416, zw_1417, zw_111, zw_1418, by decide +kernel, by decide, by decide⟩
abbrev YL_chance : zY := (yL_chance, cL_chance, 5, (some .int), 40, [(0, 10, 13, 13)])
theorem zw_1423 : Cond.methodLink RL 41 yX8_chance ∈ zAll := zin 1423 (by decide +kernel) (by decide +kernel)
theorem zw_1424 : Cond.instanceMethod yX8_chance ∈ zAll := zin 1424 (by decide +kernel) (by decide +kernel)
theorem zw_1425 : Cond.selects RX8 yX8_chance yX8_chance ∈ zAll := zin 1425 (by decide +kernel) (by decide +kernel)
theorem zw_1426 : Cond.code yX8_chance cX8_chance 3 (some .int) ∈ zAll := zin 1426 (by decide +kernel) (by decide +kernel)
theorem zcv_YL_chance_41 : zLV YL_chance 41 Y_X8_chance 2 RX8 := ⟨zw_1423, zw_1424, zw_1425, zw_111, zw_1426, by decide +kernel, by decide, by decide⟩
abbrev YL_burst : zY := (yL_burst, cL_burst, 4, (some .int), 40, [(0, 8, 11, 13)])
theorem zw_1430 : Cond.methodLink RL 44 yX8_burst ∈ zAll := zin 1430 (by decide +kernel) (by decide +kernel)
theorem zw_1431 : Cond.instanceMethod yX8_burst ∈ zAll := zin 1431 (by decide +kernel) (by decide +kernel)
theorem zw_1432 : Cond.selects RX8 yX8_burst yX8_burst ∈ zAll := zin 1432 (by decide +kernel) (by decide +kernel)
theorem zw_1433 : Cond.code yX8_burst cX8_burst 2 (some .double) ∈ zAll := zin 1433 (by decide +kernel) (by decide +kernel)
theorem zcv_YL_burst_44 : zLV YL_burst 44 Y_X8_burst 1 RX8 := ⟨zw_1430, zw_1431, zw_1432, zw_111, zw_1433, by decide +kernel, by decide, by decide⟩
abbrev YL_sureBurst : zY := (yL_sureBurst, cL_sureBurst, 4, (some .int), 40, [(0, 9, 12, 13)])
theorem zw_1443 : Cond.methodLink RL 47 yX8_sureBurst ∈ zAll := zin 1443 (by decide +kernel) (by decide +kernel)
theorem zw_1444 : Cond.instanceMethod yX8_sureBurst ∈ zAll := zin 1444 (by decide +kernel) (by decide +kernel)
theorem zw_1445 : Cond.selects RX8 yX8_sureBurst yX8_sureBurst ∈ zAll := zin 1445 (by decide +kernel) (by decide +kernel)
theorem zw_1446 : Cond.code yX8_sureBurst cX8_sureBurst 6 (some .int) ∈ zAll := zin 1446 (by decide +kernel) (by decide +kernel)
theorem zcv_YL_sureBurst_47 : zLV YL_sureBurst 47 Y_X8_sureBurst 1 RX8 := ⟨zw_1443, zw_1444, zw_1445, zw_111, zw_1446, by decide +kernel, by decide, by decide⟩
abbrev YL_accountIn : zY := (yL_accountIn, cL_accountIn, 6, (some .int), 40, [(0, 11, 14, 19), (0, 11, 18, 13)])
theorem zw_1451 : Cond.methodLink RL 50 yX8_accountIn ∈ zAll := zin 1451 (by decide +kernel) (by decide +kernel)
theorem zw_1452 : Cond.instanceMethod yX8_accountIn ∈ zAll := zin 1452 (by decide +kernel) (by decide +kernel)
theorem zw_1453 : Cond.selects RX8 yX8_accountIn yX8_accountIn ∈ zAll := zin 1453 (by decide +kernel) (by decide +kernel)
theorem zw_1454 : Cond.code yX8_accountIn cX8_accountIn 4 (some .long) ∈ zAll := zin 1454 (by decide +kernel) (by decide +kernel)
theorem zcv_YL_accountIn_50 : zLV YL_accountIn 50 Y_X8_accountIn 3 RX8 := ⟨zw_1451, zw_1452, zw_1453, zw_111, zw_1454, by decide +kernel, by decide, by decide⟩
abbrev YL_queueIn : zY := (yL_queueIn, cL_queueIn, 4, (some .int), 40, [(0, 9, 12, 13)])
theorem zw_1462 : Cond.methodLink RL 54 yX8_queueIn ∈ zAll := zin 1462 (by decide +kernel) (by decide +kernel)
theorem zw_1463 : Cond.instanceMethod yX8_queueIn ∈ zAll := zin 1463 (by decide +kernel) (by decide +kernel)
theorem zw_1464 : Cond.selects RX8 yX8_queueIn yX8_queueIn ∈ zAll := zin 1464 (by decide +kernel) (by decide +kernel)
theorem zw_1465 : Cond.code yX8_queueIn cX8_queueIn 2 (some .int) ∈ zAll := zin 1465 (by decide +kernel) (by decide +kernel)
theorem zcv_YL_queueIn_54 : zLV YL_queueIn 54 Y_X8_queueIn 1 RX8 := ⟨zw_1462, zw_1463, zw_1464, zw_111, zw_1465, by decide +kernel, by decide, by decide⟩
abbrev YL_averageIn : zY := (yL_averageIn, cL_averageIn, 4, (some .int), 40, [(0, 9, 12, 13)])
theorem zw_1469 : Cond.methodLink RL 57 yX8_averageIn ∈ zAll := zin 1469 (by decide +kernel) (by decide +kernel)
theorem zw_1470 : Cond.instanceMethod yX8_averageIn ∈ zAll := zin 1470 (by decide +kernel) (by decide +kernel)
theorem zw_1471 : Cond.selects RX8 yX8_averageIn yX8_averageIn ∈ zAll := zin 1471 (by decide +kernel) (by decide +kernel)
theorem zw_1472 : Cond.code yX8_averageIn cX8_averageIn 2 (some .int) ∈ zAll := zin 1472 (by decide +kernel) (by decide +kernel)
theorem zcv_YL_averageIn_57 : zLV YL_averageIn 57 Y_X8_averageIn 1 RX8 := ⟨zw_1469, zw_1470, zw_1471, zw_111, zw_1472, by decide +kernel, by decide, by decide⟩
abbrev YL_windowIn : zY := (yL_windowIn, cL_windowIn, 5, (some .int), 40, [(0, 10, 13, 19), (0, 10, 17, 13)])
theorem zw_1476 : Cond.methodLink RL 60 yX8_windowIn ∈ zAll := zin 1476 (by decide +kernel) (by decide +kernel)
theorem zw_1477 : Cond.instanceMethod yX8_windowIn ∈ zAll := zin 1477 (by decide +kernel) (by decide +kernel)
theorem zw_1478 : Cond.selects RX8 yX8_windowIn yX8_windowIn ∈ zAll := zin 1478 (by decide +kernel) (by decide +kernel)
theorem zw_1479 : Cond.code yX8_windowIn cX8_windowIn 3 (some .int) ∈ zAll := zin 1479 (by decide +kernel) (by decide +kernel)
theorem zcv_YL_windowIn_60 : zLV YL_windowIn 60 Y_X8_windowIn 2 RX8 := ⟨zw_1476, zw_1477, zw_1478, zw_111, zw_1479, by decide +kernel, by decide, by decide⟩
abbrev YL_longest : zY := (yL_longest, cL_longest, 4, (some .int), 40, [(0, 9, 12, 13)])
theorem zw_1483 : Cond.methodLink RL 63 yX8_longest ∈ zAll := zin 1483 (by decide +kernel) (by decide +kernel)
theorem zw_1484 : Cond.instanceMethod yX8_longest ∈ zAll := zin 1484 (by decide +kernel) (by decide +kernel)
theorem zw_1485 : Cond.selects RX8 yX8_longest yX8_longest ∈ zAll := zin 1485 (by decide +kernel) (by decide +kernel)
theorem zw_1486 : Cond.code yX8_longest cX8_longest 4 (some .int) ∈ zAll := zin 1486 (by decide +kernel) (by decide +kernel)
theorem zcv_YL_longest_63 : zLV YL_longest 63 Y_X8_longest 1 RX8 := ⟨zw_1483, zw_1484, zw_1485, zw_111, zw_1486, by decide +kernel, by decide, by decide⟩
abbrev YL_bestWeight : zY := (yL_bestWeight, cL_bestWeight, 4, (some .int), 40, [(0, 9, 12, 13)])
theorem zw_1491 : Cond.methodLink RL 66 yX8_bestWeight ∈ zAll := zin 1491 (by decide +kernel) (by decide +kernel)
theorem zw_1492 : Cond.instanceMethod yX8_bestWeight ∈ zAll := zin 1492 (by decide +kernel) (by decide +kernel)
theorem zw_1493 : Cond.selects RX8 yX8_bestWeight yX8_bestWeight ∈ zAll := zin 1493 (by decide +kernel) (by decide +kernel)
theorem zw_1494 : Cond.code yX8_bestWeight cX8_bestWeight 8 (some .int) ∈ zAll := zin 1494 (by decide +kernel) (by decide +kernel)
theorem zcv_YL_bestWeight_66 : zLV YL_bestWeight 66 Y_X8_bestWeight 1 RX8 := ⟨zw_1491, zw_1492, zw_1493, zw_111, zw_1494, by decide +kernel, by decide, by decide⟩
abbrev YL_bestTop : zY := (yL_bestTop, cL_bestTop, 4, (some .int), 40, [(0, 9, 12, 13)])
theorem zw_1503 : Cond.methodLink RL 69 yX8_bestTop ∈ zAll := zin 1503 (by decide +kernel) (by decide +kernel)
theorem zw_1504 : Cond.instanceMethod yX8_bestTop ∈ zAll := zin 1504 (by decide +kernel) (by decide +kernel)
theorem zw_1505 : Cond.selects RX8 yX8_bestTop yX8_bestTop ∈ zAll := zin 1505 (by decide +kernel) (by decide +kernel)
theorem zw_1506 : Cond.code yX8_bestTop cX8_bestTop 8 (some .int) ∈ zAll := zin 1506 (by decide +kernel) (by decide +kernel)
theorem zcv_YL_bestTop_69 : zLV YL_bestTop 69 Y_X8_bestTop 1 RX8 := ⟨zw_1503, zw_1504, zw_1505, zw_111, zw_1506, by decide +kernel, by decide, by decide⟩
abbrev YL_gain : zY := (yL_gain, cL_gain, 4, (some .int), 40, [(0, 8, 11, 13)])
theorem zw_1510 : Cond.methodLink RL 72 yX8_gain ∈ zAll := zin 1510 (by decide +kernel) (by decide +kernel)
theorem zw_1511 : Cond.instanceMethod yX8_gain ∈ zAll := zin 1511 (by decide +kernel) (by decide +kernel)
theorem zw_1512 : Cond.selects RX8 yX8_gain yX8_gain ∈ zAll := zin 1512 (by decide +kernel) (by decide +kernel)
theorem zw_1513 : Cond.code yX8_gain cX8_gain 4 (some .long) ∈ zAll := zin 1513 (by decide +kernel) (by decide +kernel)
theorem zcv_YL_gain_72 : zLV YL_gain 72 Y_X8_gain 1 RX8 := ⟨zw_1510, zw_1511, zw_1512, zw_111, zw_1513, by decide +kernel, by decide, by decide⟩
abbrev YL_tick : zY := (yL_tick, cL_tick, 4, (some .int), 40, [(0, 9, 12, 13)])
theorem zw_1517 : Cond.methodLink RL 76 yX8_tick ∈ zAll := zin 1517 (by decide +kernel) (by decide +kernel)
theorem zw_1518 : Cond.instanceMethod yX8_tick ∈ zAll := zin 1518 (by decide +kernel) (by decide +kernel)
theorem zw_1519 : Cond.selects RX8 yX8_tick yX8_tick ∈ zAll := zin 1519 (by decide +kernel) (by decide +kernel)
theorem zw_1520 : Cond.code yX8_tick cX8_tick 2 (some .int) ∈ zAll := zin 1520 (by decide +kernel) (by decide +kernel)
theorem zcv_YL_tick_76 : zLV YL_tick 76 Y_X8_tick 1 RX8 := ⟨zw_1517, zw_1518, zw_1519, zw_111, zw_1520, by decide +kernel, by decide, by decide⟩
abbrev YL_send : zY := (yL_send, cL_send, 5, (some .int), 40, [(0, 10, 13, 19), (0, 10, 17, 13)])
theorem zw_1525 : Cond.methodLink RL 79 yX8_send ∈ zAll := zin 1525 (by decide +kernel) (by decide +kernel)
theorem zw_1526 : Cond.instanceMethod yX8_send ∈ zAll := zin 1526 (by decide +kernel) (by decide +kernel)
theorem zw_1527 : Cond.selects RX8 yX8_send yX8_send ∈ zAll := zin 1527 (by decide +kernel) (by decide +kernel)
theorem zw_1528 : Cond.code yX8_send cX8_send 3 (some .int) ∈ zAll := zin 1528 (by decide +kernel) (by decide +kernel)
theorem zcv_YL_send_79 : zLV YL_send 79 Y_X8_send 2 RX8 := ⟨zw_1525, zw_1526, zw_1527, zw_111, zw_1528, by decide +kernel, by decide, by decide⟩
abbrev YL_setLimits : zY := (yL_setLimits, cL_setLimits, 5, (some .int), 40, [(0, 10, 13, 13)])
theorem zw_1533 : Cond.methodLink RL 82 yX8_setLimits ∈ zAll := zin 1533 (by decide +kernel) (by decide +kernel)
theorem zw_1534 : Cond.instanceMethod yX8_setLimits ∈ zAll := zin 1534 (by decide +kernel) (by decide +kernel)
theorem zw_1535 : Cond.selects RX8 yX8_setLimits yX8_setLimits ∈ zAll := zin 1535 (by decide +kernel) (by decide +kernel)
theorem zw_1536 : Cond.code yX8_setLimits cX8_setLimits 3 (some .int) ∈ zAll := zin 1536 (by decide +kernel) (by decide +kernel)
theorem zcv_YL_setLimits_82 : zLV YL_setLimits 82 Y_X8_setLimits 2 RX8 := ⟨zw_1533, zw_1534, zw_1535, zw_111, zw_1536, by decide +kernel, by decide, by decide⟩
abbrev YL_setTop : zY := (yL_setTop, cL_setTop, 4, (some .int), 40, [(0, 9, 12, 13)])
theorem zw_1541 : Cond.methodLink RL 85 yX8_setTop ∈ zAll := zin 1541 (by decide +kernel) (by decide +kernel)
theorem zw_1542 : Cond.instanceMethod yX8_setTop ∈ zAll := zin 1542 (by decide +kernel) (by decide +kernel)
theorem zw_1543 : Cond.selects RX8 yX8_setTop yX8_setTop ∈ zAll := zin 1543 (by decide +kernel) (by decide +kernel)
theorem zw_1544 : Cond.code yX8_setTop cX8_setTop 2 (some .int) ∈ zAll := zin 1544 (by decide +kernel) (by decide +kernel)
theorem zcv_YL_setTop_85 : zLV YL_setTop 85 Y_X8_setTop 1 RX8 := ⟨zw_1541, zw_1542, zw_1543, zw_111, zw_1544, by decide +kernel, by decide, by decide⟩
abbrev YL_setWeight : zY := (yL_setWeight, cL_setWeight, 4, (some .int), 40, [(0, 9, 12, 13)])
theorem zw_1549 : Cond.methodLink RL 88 yX8_setWeight ∈ zAll := zin 1549 (by decide +kernel) (by decide +kernel)
theorem zw_1550 : Cond.instanceMethod yX8_setWeight ∈ zAll := zin 1550 (by decide +kernel) (by decide +kernel)
theorem zw_1551 : Cond.selects RX8 yX8_setWeight yX8_setWeight ∈ zAll := zin 1551 (by decide +kernel) (by decide +kernel)
theorem zw_1552 : Cond.code yX8_setWeight cX8_setWeight 2 (some .int) ∈ zAll := zin 1552 (by decide +kernel) (by decide +kernel)
theorem zcv_YL_setWeight_88 : zLV YL_setWeight 88 Y_X8_setWeight 1 RX8 := ⟨zw_1549, zw_1550, zw_1551, zw_111, zw_1552, by decide +kernel, by decide, by decide⟩
abbrev YL_setGentle : zY := (yL_setGentle, cL_setGentle, 4, (some .int), 40, [(0, 9, 12, 13)])
theorem zw_1557 : Cond.methodLink RL 91 yX8_setGentle ∈ zAll := zin 1557 (by decide +kernel) (by decide +kernel)
theorem zw_1558 : Cond.instanceMethod yX8_setGentle ∈ zAll := zin 1558 (by decide +kernel) (by decide +kernel)
theorem zw_1559 : Cond.selects RX8 yX8_setGentle yX8_setGentle ∈ zAll := zin 1559 (by decide +kernel) (by decide +kernel)
theorem zw_1560 : Cond.code yX8_setGentle cX8_setGentle 2 (some .int) ∈ zAll := zin 1560 (by decide +kernel) (by decide +kernel)
theorem zcv_YL_setGentle_91 : zLV YL_setGentle 91 Y_X8_setGentle 1 RX8 := ⟨zw_1557, zw_1558, zw_1559, zw_111, zw_1560, by decide +kernel, by decide, by decide⟩
abbrev YL_setOn : zY := (yL_setOn, cL_setOn, 5, (some .int), 40, [(0, 10, 13, 19)])
theorem zw_1565 : Cond.methodLink RL 94 yX8_setOn ∈ zAll := zin 1565 (by decide +kernel) (by decide +kernel)
theorem zw_1566 : Cond.instanceMethod yX8_setOn ∈ zAll := zin 1566 (by decide +kernel) (by decide +kernel)
theorem zw_1567 : Cond.selects RX8 yX8_setOn yX8_setOn ∈ zAll := zin 1567 (by decide +kernel) (by decide +kernel)
theorem zw_1568 : Cond.code yX8_setOn cX8_setOn 3 (some .int) ∈ zAll := zin 1568 (by decide +kernel) (by decide +kernel)
theorem zcv_YL_setOn_94 : zLV YL_setOn 94 Y_X8_setOn 2 RX8 := ⟨zw_1565, zw_1566, zw_1567, zw_111, zw_1568, by decide +kernel, by decide, by decide⟩
abbrev YL_save : zY := (yL_save, cL_save, 4, (some .int), 40, [(0, 9, 12, 13)])
theorem zw_1573 : Cond.methodLink RL 98 yX8_save ∈ zAll := zin 1573 (by decide +kernel) (by decide +kernel)
theorem zw_1574 : Cond.instanceMethod yX8_save ∈ zAll := zin 1574 (by decide +kernel) (by decide +kernel)
theorem zw_1575 : Cond.selects RX8 yX8_save yX8_save ∈ zAll := zin 1575 (by decide +kernel) (by decide +kernel)
theorem zw_1576 : Cond.code yX8_save cX8_save 2 (some .int) ∈ zAll := zin 1576 (by decide +kernel) (by decide +kernel)
theorem zcv_YL_save_98 : zLV YL_save 98 Y_X8_save 1 RX8 := ⟨zw_1573, zw_1574, zw_1575, zw_111, zw_1576, by decide +kernel, by decide, by decide⟩
abbrev YL_restore : zY := (yL_restore, cL_restore, 4, (some .int), 40, [(0, 9, 12, 13)])
theorem zw_1580 : Cond.methodLink RL 101 yX8_restore ∈ zAll := zin 1580 (by decide +kernel) (by decide +kernel)
theorem zw_1581 : Cond.instanceMethod yX8_restore ∈ zAll := zin 1581 (by decide +kernel) (by decide +kernel)
theorem zw_1582 : Cond.selects RX8 yX8_restore yX8_restore ∈ zAll := zin 1582 (by decide +kernel) (by decide +kernel)
theorem zw_1583 : Cond.code yX8_restore cX8_restore 2 (some .int) ∈ zAll := zin 1583 (by decide +kernel) (by decide +kernel)
theorem zcv_YL_restore_101 : zLV YL_restore 101 Y_X8_restore 1 RX8 := ⟨zw_1580, zw_1581, zw_1582, zw_111, zw_1583, by decide +kernel, by decide, by decide⟩
theorem dL_size_0 : decode cL_size 0 = .ok (.aload_n 2, 1) := by decide +kernel
theorem dL_size_1 : decode cL_size 1 = .ok (.iconst 0, 1) := by decide +kernel
theorem dL_size_2 : decode cL_size 2 = .ok (.aload_n 0, 1) := by decide +kernel
theorem dL_size_3 : decode cL_size 3 = .ok (.iload_n 1, 1) := by decide +kernel
theorem dL_size_4 : decode cL_size 4 = .ok (.invokevirtual 7, 3) := by decide +kernel
theorem dL_size_7 : decode cL_size 7 = .ok (.i2l, 1) := by decide +kernel
theorem dL_size_8 : decode cL_size 8 = .ok (.lastore, 1) := by decide +kernel
theorem dL_size_9 : decode cL_size 9 = .ok (.goto 6, 3) := by decide +kernel
theorem dL_size_12 : decode cL_size 12 = .ok (.astore_n 3, 1) := by decide +kernel
theorem dL_size_13 : decode cL_size 13 = .ok (.iconst 1, 1) := by decide +kernel
theorem dL_size_14 : decode cL_size 14 = .ok (.ireturn, 1) := by decide +kernel
theorem dL_size_15 : decode cL_size 15 = .ok (.iconst 0, 1) := by decide +kernel
theorem dL_size_16 : decode cL_size 16 = .ok (.ireturn, 1) := by decide +kernel
theorem dL_flow_0 : decode cL_flow 0 = .ok (.aload_n 3, 1) := by decide +kernel
theorem dL_flow_1 : decode cL_flow 1 = .ok (.iconst 0, 1) := by decide +kernel
theorem dL_flow_2 : decode cL_flow 2 = .ok (.aload_n 0, 1) := by decide +kernel
theorem dL_flow_3 : decode cL_flow 3 = .ok (.iload_n 1, 1) := by decide +kernel
theorem dL_flow_4 : decode cL_flow 4 = .ok (.iload_n 2, 1) := by decide +kernel
theorem dL_flow_5 : decode cL_flow 5 = .ok (.invokevirtual 15, 3) := by decide +kernel
theorem dL_flow_8 : decode cL_flow 8 = .ok (.i2l, 1) := by decide +kernel
theorem dL_flow_9 : decode cL_flow 9 = .ok (.lastore, 1) := by decide +kernel
theorem dL_flow_10 : decode cL_flow 10 = .ok (.goto 11, 3) := by decide +kernel
theorem dL_flow_13 : decode cL_flow 13 = .ok (.astore 4, 2) := by decide +kernel
theorem dL_flow_15 : decode cL_flow 15 = .ok (.iconst 1, 1) := by decide +kernel
theorem dL_flow_16 : decode cL_flow 16 = .ok (.ireturn, 1) := by decide +kernel
theorem dL_flow_17 : decode cL_flow 17 = .ok (.astore 4, 2) := by decide +kernel
theorem dL_flow_19 : decode cL_flow 19 = .ok (.iconst 2, 1) := by decide +kernel
theorem dL_flow_20 : decode cL_flow 20 = .ok (.ireturn, 1) := by decide +kernel
theorem dL_flow_21 : decode cL_flow 21 = .ok (.iconst 0, 1) := by decide +kernel
theorem dL_flow_22 : decode cL_flow 22 = .ok (.ireturn, 1) := by decide +kernel
theorem dL_letter_0 : decode cL_letter 0 = .ok (.aload_n 3, 1) := by decide +kernel
theorem dL_letter_1 : decode cL_letter 1 = .ok (.iconst 0, 1) := by decide +kernel
theorem dL_letter_2 : decode cL_letter 2 = .ok (.aload_n 0, 1) := by decide +kernel
theorem dL_letter_3 : decode cL_letter 3 = .ok (.iload_n 1, 1) := by decide +kernel
theorem dL_letter_4 : decode cL_letter 4 = .ok (.iload_n 2, 1) := by decide +kernel
theorem dL_letter_5 : decode cL_letter 5 = .ok (.invokevirtual 21, 3) := by decide +kernel
theorem dL_letter_8 : decode cL_letter 8 = .ok (.i2l, 1) := by decide +kernel
theorem dL_letter_9 : decode cL_letter 9 = .ok (.lastore, 1) := by decide +kernel
theorem dL_letter_10 : decode cL_letter 10 = .ok (.goto 7, 3) := by decide +kernel
theorem dL_letter_13 : decode cL_letter 13 = .ok (.astore 4, 2) := by decide +kernel
theorem dL_letter_15 : decode cL_letter 15 = .ok (.iconst 1, 1) := by decide +kernel
theorem dL_letter_16 : decode cL_letter 16 = .ok (.ireturn, 1) := by decide +kernel
theorem dL_letter_17 : decode cL_letter 17 = .ok (.iconst 0, 1) := by decide +kernel
theorem dL_letter_18 : decode cL_letter 18 = .ok (.ireturn, 1) := by decide +kernel
theorem dL_packet_0 : decode cL_packet 0 = .ok (.aload_n 3, 1) := by decide +kernel
theorem dL_packet_1 : decode cL_packet 1 = .ok (.iconst 0, 1) := by decide +kernel
theorem dL_packet_2 : decode cL_packet 2 = .ok (.aload_n 0, 1) := by decide +kernel
theorem dL_packet_3 : decode cL_packet 3 = .ok (.iload_n 1, 1) := by decide +kernel
theorem dL_packet_4 : decode cL_packet 4 = .ok (.iload_n 2, 1) := by decide +kernel
theorem dL_packet_5 : decode cL_packet 5 = .ok (.invokevirtual 24, 3) := by decide +kernel
theorem dL_packet_8 : decode cL_packet 8 = .ok (.i2l, 1) := by decide +kernel
theorem dL_packet_9 : decode cL_packet 9 = .ok (.lastore, 1) := by decide +kernel
theorem dL_packet_10 : decode cL_packet 10 = .ok (.goto 11, 3) := by decide +kernel
theorem dL_packet_13 : decode cL_packet 13 = .ok (.astore 4, 2) := by decide +kernel
theorem dL_packet_15 : decode cL_packet 15 = .ok (.iconst 1, 1) := by decide +kernel
theorem dL_packet_16 : decode cL_packet 16 = .ok (.ireturn, 1) := by decide +kernel
theorem dL_packet_17 : decode cL_packet 17 = .ok (.astore 4, 2) := by decide +kernel
theorem dL_packet_19 : decode cL_packet 19 = .ok (.iconst 2, 1) := by decide +kernel
theorem dL_packet_20 : decode cL_packet 20 = .ok (.ireturn, 1) := by decide +kernel
theorem dL_packet_21 : decode cL_packet 21 = .ok (.iconst 0, 1) := by decide +kernel
theorem dL_packet_22 : decode cL_packet 22 = .ok (.ireturn, 1) := by decide +kernel
theorem dL_account_0 : decode cL_account 0 = .ok (.aload_n 3, 1) := by decide +kernel
theorem dL_account_1 : decode cL_account 1 = .ok (.iconst 0, 1) := by decide +kernel
theorem dL_account_2 : decode cL_account 2 = .ok (.aload_n 0, 1) := by decide +kernel
theorem dL_account_3 : decode cL_account 3 = .ok (.iload_n 1, 1) := by decide +kernel
theorem dL_account_4 : decode cL_account 4 = .ok (.iload_n 2, 1) := by decide +kernel
theorem dL_account_5 : decode cL_account 5 = .ok (.invokevirtual 27, 3) := by decide +kernel
theorem dL_account_8 : decode cL_account 8 = .ok (.lastore, 1) := by decide +kernel
theorem dL_account_9 : decode cL_account 9 = .ok (.goto 11, 3) := by decide +kernel
theorem dL_account_12 : decode cL_account 12 = .ok (.astore 4, 2) := by decide +kernel
theorem dL_account_14 : decode cL_account 14 = .ok (.iconst 1, 1) := by decide +kernel
theorem dL_account_15 : decode cL_account 15 = .ok (.ireturn, 1) := by decide +kernel
theorem dL_account_16 : decode cL_account 16 = .ok (.astore 4, 2) := by decide +kernel
theorem dL_account_18 : decode cL_account 18 = .ok (.iconst 2, 1) := by decide +kernel
theorem dL_account_19 : decode cL_account 19 = .ok (.ireturn, 1) := by decide +kernel
theorem dL_account_20 : decode cL_account 20 = .ok (.iconst 0, 1) := by decide +kernel
theorem dL_account_21 : decode cL_account 21 = .ok (.ireturn, 1) := by decide +kernel
theorem dL_decision_0 : decode cL_decision 0 = .ok (.aload_n 3, 1) := by decide +kernel
theorem dL_decision_1 : decode cL_decision 1 = .ok (.iconst 0, 1) := by decide +kernel
theorem dL_decision_2 : decode cL_decision 2 = .ok (.aload_n 0, 1) := by decide +kernel
theorem dL_decision_3 : decode cL_decision 3 = .ok (.iload_n 1, 1) := by decide +kernel
theorem dL_decision_4 : decode cL_decision 4 = .ok (.iload_n 2, 1) := by decide +kernel
theorem dL_decision_5 : decode cL_decision 5 = .ok (.invokevirtual 31, 3) := by decide +kernel
theorem dL_decision_8 : decode cL_decision 8 = .ok (.i2l, 1) := by decide +kernel
theorem dL_decision_9 : decode cL_decision 9 = .ok (.lastore, 1) := by decide +kernel
theorem dL_decision_10 : decode cL_decision 10 = .ok (.goto 11, 3) := by decide +kernel
theorem dL_decision_13 : decode cL_decision 13 = .ok (.astore 4, 2) := by decide +kernel
theorem dL_decision_15 : decode cL_decision 15 = .ok (.iconst 1, 1) := by decide +kernel
theorem dL_decision_16 : decode cL_decision 16 = .ok (.ireturn, 1) := by decide +kernel
theorem dL_decision_17 : decode cL_decision 17 = .ok (.astore 4, 2) := by decide +kernel
theorem dL_decision_19 : decode cL_decision 19 = .ok (.iconst 2, 1) := by decide +kernel
theorem dL_decision_20 : decode cL_decision 20 = .ok (.ireturn, 1) := by decide +kernel
theorem dL_decision_21 : decode cL_decision 21 = .ok (.iconst 0, 1) := by decide +kernel
theorem dL_decision_22 : decode cL_decision 22 = .ok (.ireturn, 1) := by decide +kernel
theorem dL_meanWait_0 : decode cL_meanWait 0 = .ok (.aload_n 2, 1) := by decide +kernel
theorem dL_meanWait_1 : decode cL_meanWait 1 = .ok (.iconst 0, 1) := by decide +kernel
theorem dL_meanWait_2 : decode cL_meanWait 2 = .ok (.aload_n 0, 1) := by decide +kernel
theorem dL_meanWait_3 : decode cL_meanWait 3 = .ok (.iload_n 1, 1) := by decide +kernel
theorem dL_meanWait_4 : decode cL_meanWait 4 = .ok (.invokevirtual 34, 3) := by decide +kernel
theorem dL_meanWait_7 : decode cL_meanWait 7 = .ok (.dastore, 1) := by decide +kernel
theorem dL_meanWait_8 : decode cL_meanWait 8 = .ok (.goto 6, 3) := by decide +kernel
theorem dL_meanWait_11 : decode cL_meanWait 11 = .ok (.astore_n 3, 1) := by decide +kernel
theorem dL_meanWait_12 : decode cL_meanWait 12 = .ok (.iconst 1, 1) := by decide +kernel
theorem dL_meanWait_13 : decode cL_meanWait 13 = .ok (.ireturn, 1) := by decide +kernel
theorem dL_meanWait_14 : decode cL_meanWait 14 = .ok (.iconst 0, 1) := by decide +kernel
theorem dL_meanWait_15 : decode cL_meanWait 15 = .ok (.ireturn, 1) := by decide +kernel
theorem dL_base_0 : decode cL_base 0 = .ok (.aload_n 2, 1) := by decide +kernel
theorem dL_base_1 : decode cL_base 1 = .ok (.iconst 0, 1) := by decide +kernel
theorem dL_base_2 : decode cL_base 2 = .ok (.aload_n 0, 1) := by decide +kernel
theorem dL_base_3 : decode cL_base 3 = .ok (.iload_n 1, 1) := by decide +kernel
theorem dL_base_4 : decode cL_base 4 = .ok (.invokevirtual 38, 3) := by decide +kernel
theorem dL_base_7 : decode cL_base 7 = .ok (.i2l, 1) := by decide +kernel
theorem dL_base_8 : decode cL_base 8 = .ok (.lastore, 1) := by decide +kernel
theorem dL_base_9 : decode cL_base 9 = .ok (.goto 6, 3) := by decide +kernel
theorem dL_base_12 : decode cL_base 12 = .ok (.astore_n 3, 1) := by decide +kernel
theorem dL_base_13 : decode cL_base 13 = .ok (.iconst 1, 1) := by decide +kernel
theorem dL_base_14 : decode cL_base 14 = .ok (.ireturn, 1) := by decide +kernel
theorem dL_base_15 : decode cL_base 15 = .ok (.iconst 0, 1) := by decide +kernel
theorem dL_base_16 : decode cL_base 16 = .ok (.ireturn, 1) := by decide +kernel
theorem dL_chance_0 : decode cL_chance 0 = .ok (.aload_n 3, 1) := by decide +kernel
theorem dL_chance_1 : decode cL_chance 1 = .ok (.iconst 0, 1) := by decide +kernel
theorem dL_chance_2 : decode cL_chance 2 = .ok (.aload_n 0, 1) := by decide +kernel
theorem dL_chance_3 : decode cL_chance 3 = .ok (.iload_n 1, 1) := by decide +kernel
theorem dL_chance_4 : decode cL_chance 4 = .ok (.iload_n 2, 1) := by decide +kernel
theorem dL_chance_5 : decode cL_chance 5 = .ok (.invokevirtual 41, 3) := by decide +kernel
theorem dL_chance_8 : decode cL_chance 8 = .ok (.i2l, 1) := by decide +kernel
theorem dL_chance_9 : decode cL_chance 9 = .ok (.lastore, 1) := by decide +kernel
theorem dL_chance_10 : decode cL_chance 10 = .ok (.goto 7, 3) := by decide +kernel
theorem dL_chance_13 : decode cL_chance 13 = .ok (.astore 4, 2) := by decide +kernel
theorem dL_chance_15 : decode cL_chance 15 = .ok (.iconst 1, 1) := by decide +kernel
theorem dL_chance_16 : decode cL_chance 16 = .ok (.ireturn, 1) := by decide +kernel
theorem dL_chance_17 : decode cL_chance 17 = .ok (.iconst 0, 1) := by decide +kernel
theorem dL_chance_18 : decode cL_chance 18 = .ok (.ireturn, 1) := by decide +kernel
theorem dL_burst_0 : decode cL_burst 0 = .ok (.aload_n 2, 1) := by decide +kernel
theorem dL_burst_1 : decode cL_burst 1 = .ok (.iconst 0, 1) := by decide +kernel
theorem dL_burst_2 : decode cL_burst 2 = .ok (.aload_n 0, 1) := by decide +kernel
theorem dL_burst_3 : decode cL_burst 3 = .ok (.iload_n 1, 1) := by decide +kernel
theorem dL_burst_4 : decode cL_burst 4 = .ok (.invokevirtual 44, 3) := by decide +kernel
theorem dL_burst_7 : decode cL_burst 7 = .ok (.dastore, 1) := by decide +kernel
theorem dL_burst_8 : decode cL_burst 8 = .ok (.goto 6, 3) := by decide +kernel
theorem dL_burst_11 : decode cL_burst 11 = .ok (.astore_n 3, 1) := by decide +kernel
theorem dL_burst_12 : decode cL_burst 12 = .ok (.iconst 1, 1) := by decide +kernel
theorem dL_burst_13 : decode cL_burst 13 = .ok (.ireturn, 1) := by decide +kernel
theorem dL_burst_14 : decode cL_burst 14 = .ok (.iconst 0, 1) := by decide +kernel
theorem dL_burst_15 : decode cL_burst 15 = .ok (.ireturn, 1) := by decide +kernel
theorem dL_sureBurst_0 : decode cL_sureBurst 0 = .ok (.aload_n 2, 1) := by decide +kernel
theorem dL_sureBurst_1 : decode cL_sureBurst 1 = .ok (.iconst 0, 1) := by decide +kernel
theorem dL_sureBurst_2 : decode cL_sureBurst 2 = .ok (.aload_n 0, 1) := by decide +kernel
theorem dL_sureBurst_3 : decode cL_sureBurst 3 = .ok (.iload_n 1, 1) := by decide +kernel
theorem dL_sureBurst_4 : decode cL_sureBurst 4 = .ok (.invokevirtual 47, 3) := by decide +kernel
theorem dL_sureBurst_7 : decode cL_sureBurst 7 = .ok (.i2l, 1) := by decide +kernel
theorem dL_sureBurst_8 : decode cL_sureBurst 8 = .ok (.lastore, 1) := by decide +kernel
theorem dL_sureBurst_9 : decode cL_sureBurst 9 = .ok (.goto 6, 3) := by decide +kernel
theorem dL_sureBurst_12 : decode cL_sureBurst 12 = .ok (.astore_n 3, 1) := by decide +kernel
theorem dL_sureBurst_13 : decode cL_sureBurst 13 = .ok (.iconst 1, 1) := by decide +kernel
theorem dL_sureBurst_14 : decode cL_sureBurst 14 = .ok (.ireturn, 1) := by decide +kernel
theorem dL_sureBurst_15 : decode cL_sureBurst 15 = .ok (.iconst 0, 1) := by decide +kernel
theorem dL_sureBurst_16 : decode cL_sureBurst 16 = .ok (.ireturn, 1) := by decide +kernel
theorem dL_accountIn_0 : decode cL_accountIn 0 = .ok (.aload 4, 2) := by decide +kernel
theorem dL_accountIn_2 : decode cL_accountIn 2 = .ok (.iconst 0, 1) := by decide +kernel
theorem dL_accountIn_3 : decode cL_accountIn 3 = .ok (.aload_n 0, 1) := by decide +kernel
theorem dL_accountIn_4 : decode cL_accountIn 4 = .ok (.iload_n 1, 1) := by decide +kernel
theorem dL_accountIn_5 : decode cL_accountIn 5 = .ok (.iload_n 2, 1) := by decide +kernel
theorem dL_accountIn_6 : decode cL_accountIn 6 = .ok (.iload_n 3, 1) := by decide +kernel
theorem dL_accountIn_7 : decode cL_accountIn 7 = .ok (.invokevirtual 50, 3) := by decide +kernel
theorem dL_accountIn_10 : decode cL_accountIn 10 = .ok (.lastore, 1) := by decide +kernel
theorem dL_accountIn_11 : decode cL_accountIn 11 = .ok (.goto 11, 3) := by decide +kernel
theorem dL_accountIn_14 : decode cL_accountIn 14 = .ok (.astore 5, 2) := by decide +kernel
theorem dL_accountIn_16 : decode cL_accountIn 16 = .ok (.iconst 1, 1) := by decide +kernel
theorem dL_accountIn_17 : decode cL_accountIn 17 = .ok (.ireturn, 1) := by decide +kernel
theorem dL_accountIn_18 : decode cL_accountIn 18 = .ok (.astore 5, 2) := by decide +kernel
theorem dL_accountIn_20 : decode cL_accountIn 20 = .ok (.iconst 2, 1) := by decide +kernel
theorem dL_accountIn_21 : decode cL_accountIn 21 = .ok (.ireturn, 1) := by decide +kernel
theorem dL_accountIn_22 : decode cL_accountIn 22 = .ok (.iconst 0, 1) := by decide +kernel
theorem dL_accountIn_23 : decode cL_accountIn 23 = .ok (.ireturn, 1) := by decide +kernel
theorem dL_queueIn_0 : decode cL_queueIn 0 = .ok (.aload_n 2, 1) := by decide +kernel
theorem dL_queueIn_1 : decode cL_queueIn 1 = .ok (.iconst 0, 1) := by decide +kernel
theorem dL_queueIn_2 : decode cL_queueIn 2 = .ok (.aload_n 0, 1) := by decide +kernel
theorem dL_queueIn_3 : decode cL_queueIn 3 = .ok (.iload_n 1, 1) := by decide +kernel
theorem dL_queueIn_4 : decode cL_queueIn 4 = .ok (.invokevirtual 54, 3) := by decide +kernel
theorem dL_queueIn_7 : decode cL_queueIn 7 = .ok (.i2l, 1) := by decide +kernel
theorem dL_queueIn_8 : decode cL_queueIn 8 = .ok (.lastore, 1) := by decide +kernel
theorem dL_queueIn_9 : decode cL_queueIn 9 = .ok (.goto 6, 3) := by decide +kernel
theorem dL_queueIn_12 : decode cL_queueIn 12 = .ok (.astore_n 3, 1) := by decide +kernel
theorem dL_queueIn_13 : decode cL_queueIn 13 = .ok (.iconst 1, 1) := by decide +kernel
theorem dL_queueIn_14 : decode cL_queueIn 14 = .ok (.ireturn, 1) := by decide +kernel
theorem dL_queueIn_15 : decode cL_queueIn 15 = .ok (.iconst 0, 1) := by decide +kernel
theorem dL_queueIn_16 : decode cL_queueIn 16 = .ok (.ireturn, 1) := by decide +kernel
theorem dL_averageIn_0 : decode cL_averageIn 0 = .ok (.aload_n 2, 1) := by decide +kernel
theorem dL_averageIn_1 : decode cL_averageIn 1 = .ok (.iconst 0, 1) := by decide +kernel
theorem dL_averageIn_2 : decode cL_averageIn 2 = .ok (.aload_n 0, 1) := by decide +kernel
theorem dL_averageIn_3 : decode cL_averageIn 3 = .ok (.iload_n 1, 1) := by decide +kernel
theorem dL_averageIn_4 : decode cL_averageIn 4 = .ok (.invokevirtual 57, 3) := by decide +kernel
theorem dL_averageIn_7 : decode cL_averageIn 7 = .ok (.i2l, 1) := by decide +kernel
theorem dL_averageIn_8 : decode cL_averageIn 8 = .ok (.lastore, 1) := by decide +kernel
theorem dL_averageIn_9 : decode cL_averageIn 9 = .ok (.goto 6, 3) := by decide +kernel
theorem dL_averageIn_12 : decode cL_averageIn 12 = .ok (.astore_n 3, 1) := by decide +kernel
theorem dL_averageIn_13 : decode cL_averageIn 13 = .ok (.iconst 1, 1) := by decide +kernel
theorem dL_averageIn_14 : decode cL_averageIn 14 = .ok (.ireturn, 1) := by decide +kernel
theorem dL_averageIn_15 : decode cL_averageIn 15 = .ok (.iconst 0, 1) := by decide +kernel
theorem dL_averageIn_16 : decode cL_averageIn 16 = .ok (.ireturn, 1) := by decide +kernel
theorem dL_windowIn_0 : decode cL_windowIn 0 = .ok (.aload_n 3, 1) := by decide +kernel
theorem dL_windowIn_1 : decode cL_windowIn 1 = .ok (.iconst 0, 1) := by decide +kernel
theorem dL_windowIn_2 : decode cL_windowIn 2 = .ok (.aload_n 0, 1) := by decide +kernel
theorem dL_windowIn_3 : decode cL_windowIn 3 = .ok (.iload_n 1, 1) := by decide +kernel
theorem dL_windowIn_4 : decode cL_windowIn 4 = .ok (.iload_n 2, 1) := by decide +kernel
theorem dL_windowIn_5 : decode cL_windowIn 5 = .ok (.invokevirtual 60, 3) := by decide +kernel
theorem dL_windowIn_8 : decode cL_windowIn 8 = .ok (.i2l, 1) := by decide +kernel
theorem dL_windowIn_9 : decode cL_windowIn 9 = .ok (.lastore, 1) := by decide +kernel
theorem dL_windowIn_10 : decode cL_windowIn 10 = .ok (.goto 11, 3) := by decide +kernel
theorem dL_windowIn_13 : decode cL_windowIn 13 = .ok (.astore 4, 2) := by decide +kernel
theorem dL_windowIn_15 : decode cL_windowIn 15 = .ok (.iconst 1, 1) := by decide +kernel
theorem dL_windowIn_16 : decode cL_windowIn 16 = .ok (.ireturn, 1) := by decide +kernel
theorem dL_windowIn_17 : decode cL_windowIn 17 = .ok (.astore 4, 2) := by decide +kernel
theorem dL_windowIn_19 : decode cL_windowIn 19 = .ok (.iconst 2, 1) := by decide +kernel
theorem dL_windowIn_20 : decode cL_windowIn 20 = .ok (.ireturn, 1) := by decide +kernel
theorem dL_windowIn_21 : decode cL_windowIn 21 = .ok (.iconst 0, 1) := by decide +kernel
theorem dL_windowIn_22 : decode cL_windowIn 22 = .ok (.ireturn, 1) := by decide +kernel
theorem dL_longest_0 : decode cL_longest 0 = .ok (.aload_n 2, 1) := by decide +kernel
theorem dL_longest_1 : decode cL_longest 1 = .ok (.iconst 0, 1) := by decide +kernel
theorem dL_longest_2 : decode cL_longest 2 = .ok (.aload_n 0, 1) := by decide +kernel
theorem dL_longest_3 : decode cL_longest 3 = .ok (.iload_n 1, 1) := by decide +kernel
theorem dL_longest_4 : decode cL_longest 4 = .ok (.invokevirtual 63, 3) := by decide +kernel
theorem dL_longest_7 : decode cL_longest 7 = .ok (.i2l, 1) := by decide +kernel
theorem dL_longest_8 : decode cL_longest 8 = .ok (.lastore, 1) := by decide +kernel
theorem dL_longest_9 : decode cL_longest 9 = .ok (.goto 6, 3) := by decide +kernel
theorem dL_longest_12 : decode cL_longest 12 = .ok (.astore_n 3, 1) := by decide +kernel
theorem dL_longest_13 : decode cL_longest 13 = .ok (.iconst 1, 1) := by decide +kernel
theorem dL_longest_14 : decode cL_longest 14 = .ok (.ireturn, 1) := by decide +kernel
theorem dL_longest_15 : decode cL_longest 15 = .ok (.iconst 0, 1) := by decide +kernel
theorem dL_longest_16 : decode cL_longest 16 = .ok (.ireturn, 1) := by decide +kernel
theorem dL_bestWeight_0 : decode cL_bestWeight 0 = .ok (.aload_n 2, 1) := by decide +kernel
theorem dL_bestWeight_1 : decode cL_bestWeight 1 = .ok (.iconst 0, 1) := by decide +kernel
theorem dL_bestWeight_2 : decode cL_bestWeight 2 = .ok (.aload_n 0, 1) := by decide +kernel
theorem dL_bestWeight_3 : decode cL_bestWeight 3 = .ok (.iload_n 1, 1) := by decide +kernel
theorem dL_bestWeight_4 : decode cL_bestWeight 4 = .ok (.invokevirtual 66, 3) := by decide +kernel
theorem dL_bestWeight_7 : decode cL_bestWeight 7 = .ok (.i2l, 1) := by decide +kernel
theorem dL_bestWeight_8 : decode cL_bestWeight 8 = .ok (.lastore, 1) := by decide +kernel
theorem dL_bestWeight_9 : decode cL_bestWeight 9 = .ok (.goto 6, 3) := by decide +kernel
theorem dL_bestWeight_12 : decode cL_bestWeight 12 = .ok (.astore_n 3, 1) := by decide +kernel
theorem dL_bestWeight_13 : decode cL_bestWeight 13 = .ok (.iconst 1, 1) := by decide +kernel
theorem dL_bestWeight_14 : decode cL_bestWeight 14 = .ok (.ireturn, 1) := by decide +kernel
theorem dL_bestWeight_15 : decode cL_bestWeight 15 = .ok (.iconst 0, 1) := by decide +kernel
theorem dL_bestWeight_16 : decode cL_bestWeight 16 = .ok (.ireturn, 1) := by decide +kernel
theorem dL_bestTop_0 : decode cL_bestTop 0 = .ok (.aload_n 2, 1) := by decide +kernel
theorem dL_bestTop_1 : decode cL_bestTop 1 = .ok (.iconst 0, 1) := by decide +kernel
theorem dL_bestTop_2 : decode cL_bestTop 2 = .ok (.aload_n 0, 1) := by decide +kernel
theorem dL_bestTop_3 : decode cL_bestTop 3 = .ok (.iload_n 1, 1) := by decide +kernel
theorem dL_bestTop_4 : decode cL_bestTop 4 = .ok (.invokevirtual 69, 3) := by decide +kernel
theorem dL_bestTop_7 : decode cL_bestTop 7 = .ok (.i2l, 1) := by decide +kernel
theorem dL_bestTop_8 : decode cL_bestTop 8 = .ok (.lastore, 1) := by decide +kernel
theorem dL_bestTop_9 : decode cL_bestTop 9 = .ok (.goto 6, 3) := by decide +kernel
theorem dL_bestTop_12 : decode cL_bestTop 12 = .ok (.astore_n 3, 1) := by decide +kernel
theorem dL_bestTop_13 : decode cL_bestTop 13 = .ok (.iconst 1, 1) := by decide +kernel
theorem dL_bestTop_14 : decode cL_bestTop 14 = .ok (.ireturn, 1) := by decide +kernel
theorem dL_bestTop_15 : decode cL_bestTop 15 = .ok (.iconst 0, 1) := by decide +kernel
theorem dL_bestTop_16 : decode cL_bestTop 16 = .ok (.ireturn, 1) := by decide +kernel
theorem dL_gain_0 : decode cL_gain 0 = .ok (.aload_n 2, 1) := by decide +kernel
theorem dL_gain_1 : decode cL_gain 1 = .ok (.iconst 0, 1) := by decide +kernel
theorem dL_gain_2 : decode cL_gain 2 = .ok (.aload_n 0, 1) := by decide +kernel
theorem dL_gain_3 : decode cL_gain 3 = .ok (.iload_n 1, 1) := by decide +kernel
theorem dL_gain_4 : decode cL_gain 4 = .ok (.invokevirtual 72, 3) := by decide +kernel
theorem dL_gain_7 : decode cL_gain 7 = .ok (.lastore, 1) := by decide +kernel
theorem dL_gain_8 : decode cL_gain 8 = .ok (.goto 6, 3) := by decide +kernel
theorem dL_gain_11 : decode cL_gain 11 = .ok (.astore_n 3, 1) := by decide +kernel
theorem dL_gain_12 : decode cL_gain 12 = .ok (.iconst 1, 1) := by decide +kernel
theorem dL_gain_13 : decode cL_gain 13 = .ok (.ireturn, 1) := by decide +kernel
theorem dL_gain_14 : decode cL_gain 14 = .ok (.iconst 0, 1) := by decide +kernel
theorem dL_gain_15 : decode cL_gain 15 = .ok (.ireturn, 1) := by decide +kernel
theorem dL_tick_0 : decode cL_tick 0 = .ok (.aload_n 2, 1) := by decide +kernel
theorem dL_tick_1 : decode cL_tick 1 = .ok (.iconst 0, 1) := by decide +kernel
theorem dL_tick_2 : decode cL_tick 2 = .ok (.aload_n 0, 1) := by decide +kernel
theorem dL_tick_3 : decode cL_tick 3 = .ok (.iload_n 1, 1) := by decide +kernel
theorem dL_tick_4 : decode cL_tick 4 = .ok (.invokevirtual 76, 3) := by decide +kernel
theorem dL_tick_7 : decode cL_tick 7 = .ok (.i2l, 1) := by decide +kernel
theorem dL_tick_8 : decode cL_tick 8 = .ok (.lastore, 1) := by decide +kernel
theorem dL_tick_9 : decode cL_tick 9 = .ok (.goto 6, 3) := by decide +kernel
theorem dL_tick_12 : decode cL_tick 12 = .ok (.astore_n 3, 1) := by decide +kernel
theorem dL_tick_13 : decode cL_tick 13 = .ok (.iconst 1, 1) := by decide +kernel
theorem dL_tick_14 : decode cL_tick 14 = .ok (.ireturn, 1) := by decide +kernel
theorem dL_tick_15 : decode cL_tick 15 = .ok (.iconst 0, 1) := by decide +kernel
theorem dL_tick_16 : decode cL_tick 16 = .ok (.ireturn, 1) := by decide +kernel
theorem dL_send_0 : decode cL_send 0 = .ok (.aload_n 3, 1) := by decide +kernel
theorem dL_send_1 : decode cL_send 1 = .ok (.iconst 0, 1) := by decide +kernel
theorem dL_send_2 : decode cL_send 2 = .ok (.aload_n 0, 1) := by decide +kernel
theorem dL_send_3 : decode cL_send 3 = .ok (.iload_n 1, 1) := by decide +kernel
theorem dL_send_4 : decode cL_send 4 = .ok (.iload_n 2, 1) := by decide +kernel
theorem dL_send_5 : decode cL_send 5 = .ok (.invokevirtual 79, 3) := by decide +kernel
theorem dL_send_8 : decode cL_send 8 = .ok (.i2l, 1) := by decide +kernel
theorem dL_send_9 : decode cL_send 9 = .ok (.lastore, 1) := by decide +kernel
theorem dL_send_10 : decode cL_send 10 = .ok (.goto 11, 3) := by decide +kernel
theorem dL_send_13 : decode cL_send 13 = .ok (.astore 4, 2) := by decide +kernel
theorem dL_send_15 : decode cL_send 15 = .ok (.iconst 1, 1) := by decide +kernel
theorem dL_send_16 : decode cL_send 16 = .ok (.ireturn, 1) := by decide +kernel
theorem dL_send_17 : decode cL_send 17 = .ok (.astore 4, 2) := by decide +kernel
theorem dL_send_19 : decode cL_send 19 = .ok (.iconst 2, 1) := by decide +kernel
theorem dL_send_20 : decode cL_send 20 = .ok (.ireturn, 1) := by decide +kernel
theorem dL_send_21 : decode cL_send 21 = .ok (.iconst 0, 1) := by decide +kernel
theorem dL_send_22 : decode cL_send 22 = .ok (.ireturn, 1) := by decide +kernel
theorem dL_setLimits_0 : decode cL_setLimits 0 = .ok (.aload_n 3, 1) := by decide +kernel
theorem dL_setLimits_1 : decode cL_setLimits 1 = .ok (.iconst 0, 1) := by decide +kernel
theorem dL_setLimits_2 : decode cL_setLimits 2 = .ok (.aload_n 0, 1) := by decide +kernel
theorem dL_setLimits_3 : decode cL_setLimits 3 = .ok (.iload_n 1, 1) := by decide +kernel
theorem dL_setLimits_4 : decode cL_setLimits 4 = .ok (.iload_n 2, 1) := by decide +kernel
theorem dL_setLimits_5 : decode cL_setLimits 5 = .ok (.invokevirtual 82, 3) := by decide +kernel
theorem dL_setLimits_8 : decode cL_setLimits 8 = .ok (.i2l, 1) := by decide +kernel
theorem dL_setLimits_9 : decode cL_setLimits 9 = .ok (.lastore, 1) := by decide +kernel
theorem dL_setLimits_10 : decode cL_setLimits 10 = .ok (.goto 7, 3) := by decide +kernel
theorem dL_setLimits_13 : decode cL_setLimits 13 = .ok (.astore 4, 2) := by decide +kernel
theorem dL_setLimits_15 : decode cL_setLimits 15 = .ok (.iconst 1, 1) := by decide +kernel
theorem dL_setLimits_16 : decode cL_setLimits 16 = .ok (.ireturn, 1) := by decide +kernel
theorem dL_setLimits_17 : decode cL_setLimits 17 = .ok (.iconst 0, 1) := by decide +kernel
theorem dL_setLimits_18 : decode cL_setLimits 18 = .ok (.ireturn, 1) := by decide +kernel
theorem dL_setTop_0 : decode cL_setTop 0 = .ok (.aload_n 2, 1) := by decide +kernel
theorem dL_setTop_1 : decode cL_setTop 1 = .ok (.iconst 0, 1) := by decide +kernel
theorem dL_setTop_2 : decode cL_setTop 2 = .ok (.aload_n 0, 1) := by decide +kernel
theorem dL_setTop_3 : decode cL_setTop 3 = .ok (.iload_n 1, 1) := by decide +kernel
theorem dL_setTop_4 : decode cL_setTop 4 = .ok (.invokevirtual 85, 3) := by decide +kernel
theorem dL_setTop_7 : decode cL_setTop 7 = .ok (.i2l, 1) := by decide +kernel
theorem dL_setTop_8 : decode cL_setTop 8 = .ok (.lastore, 1) := by decide +kernel
theorem dL_setTop_9 : decode cL_setTop 9 = .ok (.goto 6, 3) := by decide +kernel
theorem dL_setTop_12 : decode cL_setTop 12 = .ok (.astore_n 3, 1) := by decide +kernel
theorem dL_setTop_13 : decode cL_setTop 13 = .ok (.iconst 1, 1) := by decide +kernel
theorem dL_setTop_14 : decode cL_setTop 14 = .ok (.ireturn, 1) := by decide +kernel
theorem dL_setTop_15 : decode cL_setTop 15 = .ok (.iconst 0, 1) := by decide +kernel
theorem dL_setTop_16 : decode cL_setTop 16 = .ok (.ireturn, 1) := by decide +kernel
theorem dL_setWeight_0 : decode cL_setWeight 0 = .ok (.aload_n 2, 1) := by decide +kernel
theorem dL_setWeight_1 : decode cL_setWeight 1 = .ok (.iconst 0, 1) := by decide +kernel
theorem dL_setWeight_2 : decode cL_setWeight 2 = .ok (.aload_n 0, 1) := by decide +kernel
theorem dL_setWeight_3 : decode cL_setWeight 3 = .ok (.iload_n 1, 1) := by decide +kernel
theorem dL_setWeight_4 : decode cL_setWeight 4 = .ok (.invokevirtual 88, 3) := by decide +kernel
theorem dL_setWeight_7 : decode cL_setWeight 7 = .ok (.i2l, 1) := by decide +kernel
theorem dL_setWeight_8 : decode cL_setWeight 8 = .ok (.lastore, 1) := by decide +kernel
theorem dL_setWeight_9 : decode cL_setWeight 9 = .ok (.goto 6, 3) := by decide +kernel
theorem dL_setWeight_12 : decode cL_setWeight 12 = .ok (.astore_n 3, 1) := by decide +kernel
theorem dL_setWeight_13 : decode cL_setWeight 13 = .ok (.iconst 1, 1) := by decide +kernel
theorem dL_setWeight_14 : decode cL_setWeight 14 = .ok (.ireturn, 1) := by decide +kernel
theorem dL_setWeight_15 : decode cL_setWeight 15 = .ok (.iconst 0, 1) := by decide +kernel
theorem dL_setWeight_16 : decode cL_setWeight 16 = .ok (.ireturn, 1) := by decide +kernel
theorem dL_setGentle_0 : decode cL_setGentle 0 = .ok (.aload_n 2, 1) := by decide +kernel
theorem dL_setGentle_1 : decode cL_setGentle 1 = .ok (.iconst 0, 1) := by decide +kernel
theorem dL_setGentle_2 : decode cL_setGentle 2 = .ok (.aload_n 0, 1) := by decide +kernel
theorem dL_setGentle_3 : decode cL_setGentle 3 = .ok (.iload_n 1, 1) := by decide +kernel
theorem dL_setGentle_4 : decode cL_setGentle 4 = .ok (.invokevirtual 91, 3) := by decide +kernel
theorem dL_setGentle_7 : decode cL_setGentle 7 = .ok (.i2l, 1) := by decide +kernel
theorem dL_setGentle_8 : decode cL_setGentle 8 = .ok (.lastore, 1) := by decide +kernel
theorem dL_setGentle_9 : decode cL_setGentle 9 = .ok (.goto 6, 3) := by decide +kernel
theorem dL_setGentle_12 : decode cL_setGentle 12 = .ok (.astore_n 3, 1) := by decide +kernel
theorem dL_setGentle_13 : decode cL_setGentle 13 = .ok (.iconst 1, 1) := by decide +kernel
theorem dL_setGentle_14 : decode cL_setGentle 14 = .ok (.ireturn, 1) := by decide +kernel
theorem dL_setGentle_15 : decode cL_setGentle 15 = .ok (.iconst 0, 1) := by decide +kernel
theorem dL_setGentle_16 : decode cL_setGentle 16 = .ok (.ireturn, 1) := by decide +kernel
theorem dL_setOn_0 : decode cL_setOn 0 = .ok (.aload_n 3, 1) := by decide +kernel
theorem dL_setOn_1 : decode cL_setOn 1 = .ok (.iconst 0, 1) := by decide +kernel
theorem dL_setOn_2 : decode cL_setOn 2 = .ok (.aload_n 0, 1) := by decide +kernel
theorem dL_setOn_3 : decode cL_setOn 3 = .ok (.iload_n 1, 1) := by decide +kernel
theorem dL_setOn_4 : decode cL_setOn 4 = .ok (.iload_n 2, 1) := by decide +kernel
theorem dL_setOn_5 : decode cL_setOn 5 = .ok (.invokevirtual 94, 3) := by decide +kernel
theorem dL_setOn_8 : decode cL_setOn 8 = .ok (.i2l, 1) := by decide +kernel
theorem dL_setOn_9 : decode cL_setOn 9 = .ok (.lastore, 1) := by decide +kernel
theorem dL_setOn_10 : decode cL_setOn 10 = .ok (.goto 7, 3) := by decide +kernel
theorem dL_setOn_13 : decode cL_setOn 13 = .ok (.astore 4, 2) := by decide +kernel
theorem dL_setOn_15 : decode cL_setOn 15 = .ok (.iconst 1, 1) := by decide +kernel
theorem dL_setOn_16 : decode cL_setOn 16 = .ok (.ireturn, 1) := by decide +kernel
theorem dL_setOn_17 : decode cL_setOn 17 = .ok (.iconst 0, 1) := by decide +kernel
theorem dL_setOn_18 : decode cL_setOn 18 = .ok (.ireturn, 1) := by decide +kernel
theorem dL_save_0 : decode cL_save 0 = .ok (.aload_n 2, 1) := by decide +kernel
theorem dL_save_1 : decode cL_save 1 = .ok (.iconst 0, 1) := by decide +kernel
theorem dL_save_2 : decode cL_save 2 = .ok (.aload_n 0, 1) := by decide +kernel
theorem dL_save_3 : decode cL_save 3 = .ok (.iload_n 1, 1) := by decide +kernel
theorem dL_save_4 : decode cL_save 4 = .ok (.invokevirtual 98, 3) := by decide +kernel
theorem dL_save_7 : decode cL_save 7 = .ok (.i2l, 1) := by decide +kernel
theorem dL_save_8 : decode cL_save 8 = .ok (.lastore, 1) := by decide +kernel
theorem dL_save_9 : decode cL_save 9 = .ok (.goto 6, 3) := by decide +kernel
theorem dL_save_12 : decode cL_save 12 = .ok (.astore_n 3, 1) := by decide +kernel
theorem dL_save_13 : decode cL_save 13 = .ok (.iconst 1, 1) := by decide +kernel
theorem dL_save_14 : decode cL_save 14 = .ok (.ireturn, 1) := by decide +kernel
theorem dL_save_15 : decode cL_save 15 = .ok (.iconst 0, 1) := by decide +kernel
theorem dL_save_16 : decode cL_save 16 = .ok (.ireturn, 1) := by decide +kernel
theorem dL_restore_0 : decode cL_restore 0 = .ok (.aload_n 2, 1) := by decide +kernel
theorem dL_restore_1 : decode cL_restore 1 = .ok (.iconst 0, 1) := by decide +kernel
theorem dL_restore_2 : decode cL_restore 2 = .ok (.aload_n 0, 1) := by decide +kernel
theorem dL_restore_3 : decode cL_restore 3 = .ok (.iload_n 1, 1) := by decide +kernel
theorem dL_restore_4 : decode cL_restore 4 = .ok (.invokevirtual 101, 3) := by decide +kernel
theorem dL_restore_7 : decode cL_restore 7 = .ok (.i2l, 1) := by decide +kernel
theorem dL_restore_8 : decode cL_restore 8 = .ok (.lastore, 1) := by decide +kernel
theorem dL_restore_9 : decode cL_restore 9 = .ok (.goto 6, 3) := by decide +kernel
theorem dL_restore_12 : decode cL_restore 12 = .ok (.astore_n 3, 1) := by decide +kernel
theorem dL_restore_13 : decode cL_restore 13 = .ok (.iconst 1, 1) := by decide +kernel
theorem dL_restore_14 : decode cL_restore 14 = .ok (.ireturn, 1) := by decide +kernel
theorem dL_restore_15 : decode cL_restore 15 = .ok (.iconst 0, 1) := by decide +kernel
theorem dL_restore_16 : decode cL_restore 16 = .ok (.ireturn, 1) := by decide +kernel
section LW
variable {l : Launch} {G : zG} {M : lW} {mc ms : Nat} {K : Int32 → lW → Prop} {KX : String → zM → Prop}
theorem w_size {p1 : Int32} {Kf : Int32 → zM → Prop} (h : zCalIX l G Y_X8_size mc ms [vr 0 0, vi p1] M.1 Kf KX) (h0 : ∀ x M1, Kf x M1 → K 0 (M1, x.toInt64, M.2.2)) (hX : ∀ X M1, KX X M1 → (X = IAE ∧ K 1 (M1, M.2))) : lCal l G YL_size mc ms [vr 0 0, vi p1, vr 50 0] M (fun r w => ∃ x : Int32, r = some (vi x) ∧ K x w) := by
  refine lCal_of (lv := [(0, vr 0 0), (1, vi p1), (2, vr 50 0)]) (by decide) (zle rfl) rfl (fun hv => zlv_args (lv := [(0, vr 0 0), (1, vi p1), (2, vr 50 0)]) rfl hv) ?_
  have hE : ∀ {mc ms : Nat} {K : lK}, zRm YL_size (lEM G YL_size mc ms K).1 := ⟨Nat.le_refl _, Nat.le_refl _⟩
  refine L_aload_n dL_size_0 rfl 2 rfl ?_
  refine L_iconst (v := 0) (by decide) dL_size_1 ?_
  refine L_aload_n dL_size_2 rfl 0 rfl ?_
  refine L_iload_n dL_size_3 rfl 1 rfl ?_
  refine L_callW (as := [vi p1]) (st := [vi 0, vr 50 0]) (mc' := mc) (ms' := ms) (KX := KX) hE zcv_YL_size_7 rfl rfl rfl rfl (zle rfl) dL_size_4 ⟨Nat.le_of_eq (Nat.zero_add mc), Nat.le_of_eq (Nat.zero_add ms)⟩ h (fun X M1 q => ?_) (fun r M1 q => ?_)
  · obtain ⟨rfl, q7⟩ := hX X M1 q
    refine ⟨12, ⟨[], ⟨0, 9, 12, 13⟩, [], rfl, (fun z hz => by cases hz), by decide, by decide, zw_1321, List.mem_of_getElem? (i := 3) rfl, rfl⟩, fun a9 => ?_⟩
    refine L_astoreA_n (lv2 := [(3, va a9), (0, vr 0 0), (1, vi p1), (2, vr 50 0)]) dL_size_12 rfl (by decide) rfl ?_
    refine L_iconst (v := 1) (by decide) dL_size_13 ?_
    exact L_iret rfl dL_size_14 (Nat.le_of_eq (Nat.zero_add mc)) (Nat.le_of_eq (Nat.zero_add ms)) ⟨_, rfl, q7⟩
  · obtain ⟨x, rfl, q⟩ := q
    refine L_i2l dL_size_7 ?_
    refine L_last dL_size_8 ?_
    refine L_goto (tgt := 15) dL_size_9 (by decide) ?_
    refine L_iconst (v := 0) (by decide) dL_size_15 ?_
    exact L_iret rfl dL_size_16 (Nat.le_of_eq (Nat.zero_add mc)) (Nat.le_of_eq (Nat.zero_add ms)) ⟨_, rfl, h0 x M1 q⟩
theorem w_flow {p1 p2 : Int32} {Kf : Int32 → zM → Prop} (h : zCalIX l G Y_X8_flow mc ms [vr 0 0, vi p1, vi p2] M.1 Kf KX) (h0 : ∀ x M1, Kf x M1 → K 0 (M1, x.toInt64, M.2.2)) (hX : ∀ X M1, KX X M1 → (X = IOE ∧ K 1 (M1, M.2)) ∨ (X = IAE ∧ K 2 (M1, M.2))) : lCal l G YL_flow mc ms [vr 0 0, vi p1, vi p2, vr 50 0] M (fun r w => ∃ x : Int32, r = some (vi x) ∧ K x w) := by
  refine lCal_of (lv := [(0, vr 0 0), (1, vi p1), (2, vi p2), (3, vr 50 0)]) (by decide) (zle rfl) rfl (fun hv => zlv_args (lv := [(0, vr 0 0), (1, vi p1), (2, vi p2), (3, vr 50 0)]) rfl hv) ?_
  have hE : ∀ {mc ms : Nat} {K : lK}, zRm YL_flow (lEM G YL_flow mc ms K).1 := ⟨Nat.le_refl _, Nat.le_refl _⟩
  refine L_aload_n dL_flow_0 rfl 3 rfl ?_
  refine L_iconst (v := 0) (by decide) dL_flow_1 ?_
  refine L_aload_n dL_flow_2 rfl 0 rfl ?_
  refine L_iload_n dL_flow_3 rfl 1 rfl ?_
  refine L_iload_n dL_flow_4 rfl 2 rfl ?_
  refine L_callW (as := [vi p1, vi p2]) (st := [vi 0, vr 50 0]) (mc' := mc) (ms' := ms) (KX := KX) hE zcv_YL_flow_15 rfl rfl rfl rfl (zle rfl) dL_flow_5 ⟨Nat.le_of_eq (Nat.zero_add mc), Nat.le_of_eq (Nat.zero_add ms)⟩ h (fun X M1 q => ?_) (fun r M1 q => ?_)
  · rcases hX X M1 q with ⟨rfl, q7⟩ | ⟨rfl, q7⟩
    · refine ⟨13, ⟨[], ⟨0, 10, 13, 19⟩, [⟨0, 10, 17, 13⟩], rfl, (fun z hz => by cases hz), by decide, by decide, zw_1336, List.mem_of_getElem? (i := 4) rfl, rfl⟩, fun a9 => ?_⟩
      refine L_astoreA (lv2 := [(4, va a9), (0, vr 0 0), (1, vi p1), (2, vi p2), (3, vr 50 0)]) dL_flow_13 (by decide) rfl ?_
      refine L_iconst (v := 1) (by decide) dL_flow_15 ?_
      exact L_iret rfl dL_flow_16 (Nat.le_of_eq (Nat.zero_add mc)) (Nat.le_of_eq (Nat.zero_add ms)) ⟨_, rfl, q7⟩
    · refine ⟨17, ⟨[⟨0, 10, 13, 19⟩], ⟨0, 10, 17, 13⟩, [], rfl, (fun z hz => by rw [List.mem_singleton.mp hz]; exact ⟨by decide, zw_1336, rfl⟩), by decide, by decide, zw_1321, List.mem_of_getElem? (i := 3) rfl, rfl⟩, fun a9 => ?_⟩
      refine L_astoreA (lv2 := [(4, va a9), (0, vr 0 0), (1, vi p1), (2, vi p2), (3, vr 50 0)]) dL_flow_17 (by decide) rfl ?_
      refine L_iconst (v := 2) (by decide) dL_flow_19 ?_
      exact L_iret rfl dL_flow_20 (Nat.le_of_eq (Nat.zero_add mc)) (Nat.le_of_eq (Nat.zero_add ms)) ⟨_, rfl, q7⟩
  · obtain ⟨x, rfl, q⟩ := q
    refine L_i2l dL_flow_8 ?_
    refine L_last dL_flow_9 ?_
    refine L_goto (tgt := 21) dL_flow_10 (by decide) ?_
    refine L_iconst (v := 0) (by decide) dL_flow_21 ?_
    exact L_iret rfl dL_flow_22 (Nat.le_of_eq (Nat.zero_add mc)) (Nat.le_of_eq (Nat.zero_add ms)) ⟨_, rfl, h0 x M1 q⟩
theorem w_letter {p1 p2 : Int32} {Kf : Int32 → zM → Prop} (h : zCalIX l G Y_X8_letter mc ms [vr 0 0, vi p1, vi p2] M.1 Kf KX) (h0 : ∀ x M1, Kf x M1 → K 0 (M1, x.toInt64, M.2.2)) (hX : ∀ X M1, KX X M1 → (X = IOE ∧ K 1 (M1, M.2))) : lCal l G YL_letter mc ms [vr 0 0, vi p1, vi p2, vr 50 0] M (fun r w => ∃ x : Int32, r = some (vi x) ∧ K x w) := by
  refine lCal_of (lv := [(0, vr 0 0), (1, vi p1), (2, vi p2), (3, vr 50 0)]) (by decide) (zle rfl) rfl (fun hv => zlv_args (lv := [(0, vr 0 0), (1, vi p1), (2, vi p2), (3, vr 50 0)]) rfl hv) ?_
  have hE : ∀ {mc ms : Nat} {K : lK}, zRm YL_letter (lEM G YL_letter mc ms K).1 := ⟨Nat.le_refl _, Nat.le_refl _⟩
  refine L_aload_n dL_letter_0 rfl 3 rfl ?_
  refine L_iconst (v := 0) (by decide) dL_letter_1 ?_
  refine L_aload_n dL_letter_2 rfl 0 rfl ?_
  refine L_iload_n dL_letter_3 rfl 1 rfl ?_
  refine L_iload_n dL_letter_4 rfl 2 rfl ?_
  refine L_callW (as := [vi p1, vi p2]) (st := [vi 0, vr 50 0]) (mc' := mc) (ms' := ms) (KX := KX) hE zcv_YL_letter_21 rfl rfl rfl rfl (zle rfl) dL_letter_5 ⟨Nat.le_of_eq (Nat.zero_add mc), Nat.le_of_eq (Nat.zero_add ms)⟩ h (fun X M1 q => ?_) (fun r M1 q => ?_)
  · obtain ⟨rfl, q7⟩ := hX X M1 q
    refine ⟨13, ⟨[], ⟨0, 10, 13, 19⟩, [], rfl, (fun z hz => by cases hz), by decide, by decide, zw_1336, List.mem_of_getElem? (i := 4) rfl, rfl⟩, fun a9 => ?_⟩
    refine L_astoreA (lv2 := [(4, va a9), (0, vr 0 0), (1, vi p1), (2, vi p2), (3, vr 50 0)]) dL_letter_13 (by decide) rfl ?_
    refine L_iconst (v := 1) (by decide) dL_letter_15 ?_
    exact L_iret rfl dL_letter_16 (Nat.le_of_eq (Nat.zero_add mc)) (Nat.le_of_eq (Nat.zero_add ms)) ⟨_, rfl, q7⟩
  · obtain ⟨x, rfl, q⟩ := q
    refine L_i2l dL_letter_8 ?_
    refine L_last dL_letter_9 ?_
    refine L_goto (tgt := 17) dL_letter_10 (by decide) ?_
    refine L_iconst (v := 0) (by decide) dL_letter_17 ?_
    exact L_iret rfl dL_letter_18 (Nat.le_of_eq (Nat.zero_add mc)) (Nat.le_of_eq (Nat.zero_add ms)) ⟨_, rfl, h0 x M1 q⟩
theorem w_packet {p1 p2 : Int32} {Kf : Int32 → zM → Prop} (h : zCalIX l G Y_X8_packet mc ms [vr 0 0, vi p1, vi p2] M.1 Kf KX) (h0 : ∀ x M1, Kf x M1 → K 0 (M1, x.toInt64, M.2.2)) (hX : ∀ X M1, KX X M1 → (X = IOE ∧ K 1 (M1, M.2)) ∨ (X = IAE ∧ K 2 (M1, M.2))) : lCal l G YL_packet mc ms [vr 0 0, vi p1, vi p2, vr 50 0] M (fun r w => ∃ x : Int32, r = some (vi x) ∧ K x w) := by
  refine lCal_of (lv := [(0, vr 0 0), (1, vi p1), (2, vi p2), (3, vr 50 0)]) (by decide) (zle rfl) rfl (fun hv => zlv_args (lv := [(0, vr 0 0), (1, vi p1), (2, vi p2), (3, vr 50 0)]) rfl hv) ?_
  have hE : ∀ {mc ms : Nat} {K : lK}, zRm YL_packet (lEM G YL_packet mc ms K).1 := ⟨Nat.le_refl _, Nat.le_refl _⟩
  refine L_aload_n dL_packet_0 rfl 3 rfl ?_
  refine L_iconst (v := 0) (by decide) dL_packet_1 ?_
  refine L_aload_n dL_packet_2 rfl 0 rfl ?_
  refine L_iload_n dL_packet_3 rfl 1 rfl ?_
  refine L_iload_n dL_packet_4 rfl 2 rfl ?_
  refine L_callW (as := [vi p1, vi p2]) (st := [vi 0, vr 50 0]) (mc' := mc) (ms' := ms) (KX := KX) hE zcv_YL_packet_24 rfl rfl rfl rfl (zle rfl) dL_packet_5 ⟨Nat.le_of_eq (Nat.zero_add mc), Nat.le_of_eq (Nat.zero_add ms)⟩ h (fun X M1 q => ?_) (fun r M1 q => ?_)
  · rcases hX X M1 q with ⟨rfl, q7⟩ | ⟨rfl, q7⟩
    · refine ⟨13, ⟨[], ⟨0, 10, 13, 19⟩, [⟨0, 10, 17, 13⟩], rfl, (fun z hz => by cases hz), by decide, by decide, zw_1336, List.mem_of_getElem? (i := 4) rfl, rfl⟩, fun a9 => ?_⟩
      refine L_astoreA (lv2 := [(4, va a9), (0, vr 0 0), (1, vi p1), (2, vi p2), (3, vr 50 0)]) dL_packet_13 (by decide) rfl ?_
      refine L_iconst (v := 1) (by decide) dL_packet_15 ?_
      exact L_iret rfl dL_packet_16 (Nat.le_of_eq (Nat.zero_add mc)) (Nat.le_of_eq (Nat.zero_add ms)) ⟨_, rfl, q7⟩
    · refine ⟨17, ⟨[⟨0, 10, 13, 19⟩], ⟨0, 10, 17, 13⟩, [], rfl, (fun z hz => by rw [List.mem_singleton.mp hz]; exact ⟨by decide, zw_1336, rfl⟩), by decide, by decide, zw_1321, List.mem_of_getElem? (i := 3) rfl, rfl⟩, fun a9 => ?_⟩
      refine L_astoreA (lv2 := [(4, va a9), (0, vr 0 0), (1, vi p1), (2, vi p2), (3, vr 50 0)]) dL_packet_17 (by decide) rfl ?_
      refine L_iconst (v := 2) (by decide) dL_packet_19 ?_
      exact L_iret rfl dL_packet_20 (Nat.le_of_eq (Nat.zero_add mc)) (Nat.le_of_eq (Nat.zero_add ms)) ⟨_, rfl, q7⟩
  · obtain ⟨x, rfl, q⟩ := q
    refine L_i2l dL_packet_8 ?_
    refine L_last dL_packet_9 ?_
    refine L_goto (tgt := 21) dL_packet_10 (by decide) ?_
    refine L_iconst (v := 0) (by decide) dL_packet_21 ?_
    exact L_iret rfl dL_packet_22 (Nat.le_of_eq (Nat.zero_add mc)) (Nat.le_of_eq (Nat.zero_add ms)) ⟨_, rfl, h0 x M1 q⟩
theorem w_account {p1 p2 : Int32} {Kf : Int64 → zM → Prop} (h : zCalLX l G Y_X8_account mc ms [vr 0 0, vi p1, vi p2] M.1 Kf KX) (h0 : ∀ x M1, Kf x M1 → K 0 (M1, x, M.2.2)) (hX : ∀ X M1, KX X M1 → (X = IOE ∧ K 1 (M1, M.2)) ∨ (X = IAE ∧ K 2 (M1, M.2))) : lCal l G YL_account mc ms [vr 0 0, vi p1, vi p2, vr 50 0] M (fun r w => ∃ x : Int32, r = some (vi x) ∧ K x w) := by
  refine lCal_of (lv := [(0, vr 0 0), (1, vi p1), (2, vi p2), (3, vr 50 0)]) (by decide) (zle rfl) rfl (fun hv => zlv_args (lv := [(0, vr 0 0), (1, vi p1), (2, vi p2), (3, vr 50 0)]) rfl hv) ?_
  have hE : ∀ {mc ms : Nat} {K : lK}, zRm YL_account (lEM G YL_account mc ms K).1 := ⟨Nat.le_refl _, Nat.le_refl _⟩
  refine L_aload_n dL_account_0 rfl 3 rfl ?_
  refine L_iconst (v := 0) (by decide) dL_account_1 ?_
  refine L_aload_n dL_account_2 rfl 0 rfl ?_
  refine L_iload_n dL_account_3 rfl 1 rfl ?_
  refine L_iload_n dL_account_4 rfl 2 rfl ?_
  refine L_callW (as := [vi p1, vi p2]) (st := [vi 0, vr 50 0]) (mc' := mc) (ms' := ms) (KX := KX) hE zcv_YL_account_27 rfl rfl rfl rfl (zle rfl) dL_account_5 ⟨Nat.le_of_eq (Nat.zero_add mc), Nat.le_of_eq (Nat.zero_add ms)⟩ h (fun X M1 q => ?_) (fun r M1 q => ?_)
  · rcases hX X M1 q with ⟨rfl, q7⟩ | ⟨rfl, q7⟩
    · refine ⟨12, ⟨[], ⟨0, 9, 12, 19⟩, [⟨0, 9, 16, 13⟩], rfl, (fun z hz => by cases hz), by decide, by decide, zw_1336, List.mem_of_getElem? (i := 4) rfl, rfl⟩, fun a9 => ?_⟩
      refine L_astoreA (lv2 := [(4, va a9), (0, vr 0 0), (1, vi p1), (2, vi p2), (3, vr 50 0)]) dL_account_12 (by decide) rfl ?_
      refine L_iconst (v := 1) (by decide) dL_account_14 ?_
      exact L_iret rfl dL_account_15 (Nat.le_of_eq (Nat.zero_add mc)) (Nat.le_of_eq (Nat.zero_add ms)) ⟨_, rfl, q7⟩
    · refine ⟨16, ⟨[⟨0, 9, 12, 19⟩], ⟨0, 9, 16, 13⟩, [], rfl, (fun z hz => by rw [List.mem_singleton.mp hz]; exact ⟨by decide, zw_1336, rfl⟩), by decide, by decide, zw_1321, List.mem_of_getElem? (i := 3) rfl, rfl⟩, fun a9 => ?_⟩
      refine L_astoreA (lv2 := [(4, va a9), (0, vr 0 0), (1, vi p1), (2, vi p2), (3, vr 50 0)]) dL_account_16 (by decide) rfl ?_
      refine L_iconst (v := 2) (by decide) dL_account_18 ?_
      exact L_iret rfl dL_account_19 (Nat.le_of_eq (Nat.zero_add mc)) (Nat.le_of_eq (Nat.zero_add ms)) ⟨_, rfl, q7⟩
  · obtain ⟨x, rfl, q⟩ := q
    refine L_last dL_account_8 ?_
    refine L_goto (tgt := 20) dL_account_9 (by decide) ?_
    refine L_iconst (v := 0) (by decide) dL_account_20 ?_
    exact L_iret rfl dL_account_21 (Nat.le_of_eq (Nat.zero_add mc)) (Nat.le_of_eq (Nat.zero_add ms)) ⟨_, rfl, h0 x M1 q⟩
theorem w_decision {p1 p2 : Int32} {Kf : Int32 → zM → Prop} (h : zCalIX l G Y_X8_decision mc ms [vr 0 0, vi p1, vi p2] M.1 Kf KX) (h0 : ∀ x M1, Kf x M1 → K 0 (M1, x.toInt64, M.2.2)) (hX : ∀ X M1, KX X M1 → (X = IOE ∧ K 1 (M1, M.2)) ∨ (X = IAE ∧ K 2 (M1, M.2))) : lCal l G YL_decision mc ms [vr 0 0, vi p1, vi p2, vr 50 0] M (fun r w => ∃ x : Int32, r = some (vi x) ∧ K x w) := by
  refine lCal_of (lv := [(0, vr 0 0), (1, vi p1), (2, vi p2), (3, vr 50 0)]) (by decide) (zle rfl) rfl (fun hv => zlv_args (lv := [(0, vr 0 0), (1, vi p1), (2, vi p2), (3, vr 50 0)]) rfl hv) ?_
  have hE : ∀ {mc ms : Nat} {K : lK}, zRm YL_decision (lEM G YL_decision mc ms K).1 := ⟨Nat.le_refl _, Nat.le_refl _⟩
  refine L_aload_n dL_decision_0 rfl 3 rfl ?_
  refine L_iconst (v := 0) (by decide) dL_decision_1 ?_
  refine L_aload_n dL_decision_2 rfl 0 rfl ?_
  refine L_iload_n dL_decision_3 rfl 1 rfl ?_
  refine L_iload_n dL_decision_4 rfl 2 rfl ?_
  refine L_callW (as := [vi p1, vi p2]) (st := [vi 0, vr 50 0]) (mc' := mc) (ms' := ms) (KX := KX) hE zcv_YL_decision_31 rfl rfl rfl rfl (zle rfl) dL_decision_5 ⟨Nat.le_of_eq (Nat.zero_add mc), Nat.le_of_eq (Nat.zero_add ms)⟩ h (fun X M1 q => ?_) (fun r M1 q => ?_)
  · rcases hX X M1 q with ⟨rfl, q7⟩ | ⟨rfl, q7⟩
    · refine ⟨13, ⟨[], ⟨0, 10, 13, 19⟩, [⟨0, 10, 17, 13⟩], rfl, (fun z hz => by cases hz), by decide, by decide, zw_1336, List.mem_of_getElem? (i := 4) rfl, rfl⟩, fun a9 => ?_⟩
      refine L_astoreA (lv2 := [(4, va a9), (0, vr 0 0), (1, vi p1), (2, vi p2), (3, vr 50 0)]) dL_decision_13 (by decide) rfl ?_
      refine L_iconst (v := 1) (by decide) dL_decision_15 ?_
      exact L_iret rfl dL_decision_16 (Nat.le_of_eq (Nat.zero_add mc)) (Nat.le_of_eq (Nat.zero_add ms)) ⟨_, rfl, q7⟩
    · refine ⟨17, ⟨[⟨0, 10, 13, 19⟩], ⟨0, 10, 17, 13⟩, [], rfl, (fun z hz => by rw [List.mem_singleton.mp hz]; exact ⟨by decide, zw_1336, rfl⟩), by decide, by decide, zw_1321, List.mem_of_getElem? (i := 3) rfl, rfl⟩, fun a9 => ?_⟩
      refine L_astoreA (lv2 := [(4, va a9), (0, vr 0 0), (1, vi p1), (2, vi p2), (3, vr 50 0)]) dL_decision_17 (by decide) rfl ?_
      refine L_iconst (v := 2) (by decide) dL_decision_19 ?_
      exact L_iret rfl dL_decision_20 (Nat.le_of_eq (Nat.zero_add mc)) (Nat.le_of_eq (Nat.zero_add ms)) ⟨_, rfl, q7⟩
  · obtain ⟨x, rfl, q⟩ := q
    refine L_i2l dL_decision_8 ?_
    refine L_last dL_decision_9 ?_
    refine L_goto (tgt := 21) dL_decision_10 (by decide) ?_
    refine L_iconst (v := 0) (by decide) dL_decision_21 ?_
    exact L_iret rfl dL_decision_22 (Nat.le_of_eq (Nat.zero_add mc)) (Nat.le_of_eq (Nat.zero_add ms)) ⟨_, rfl, h0 x M1 q⟩
theorem w_meanWait {p1 : Int32} {Kf : UInt64 → zM → Prop} (h : zCalDX l G Y_X8_meanWait mc ms [vr 0 0, vi p1] M.1 Kf KX) (h0 : ∀ x M1, Kf x M1 → K 0 (M1, M.2.1, x)) (hX : ∀ X M1, KX X M1 → (X = IOE ∧ K 1 (M1, M.2))) : lCal l G YL_meanWait mc ms [vr 0 0, vi p1, vr 51 0] M (fun r w => ∃ x : Int32, r = some (vi x) ∧ K x w) := by
  refine lCal_of (lv := [(0, vr 0 0), (1, vi p1), (2, vr 51 0)]) (by decide) (zle rfl) rfl (fun hv => zlv_args (lv := [(0, vr 0 0), (1, vi p1), (2, vr 51 0)]) rfl hv) ?_
  have hE : ∀ {mc ms : Nat} {K : lK}, zRm YL_meanWait (lEM G YL_meanWait mc ms K).1 := ⟨Nat.le_refl _, Nat.le_refl _⟩
  refine L_aload_n dL_meanWait_0 rfl 2 rfl ?_
  refine L_iconst (v := 0) (by decide) dL_meanWait_1 ?_
  refine L_aload_n dL_meanWait_2 rfl 0 rfl ?_
  refine L_iload_n dL_meanWait_3 rfl 1 rfl ?_
  refine L_callW (as := [vi p1]) (st := [vi 0, vr 51 0]) (mc' := mc) (ms' := ms) (KX := KX) hE zcv_YL_meanWait_34 rfl rfl rfl rfl (zle rfl) dL_meanWait_4 ⟨Nat.le_of_eq (Nat.zero_add mc), Nat.le_of_eq (Nat.zero_add ms)⟩ h (fun X M1 q => ?_) (fun r M1 q => ?_)
  · obtain ⟨rfl, q7⟩ := hX X M1 q
    refine ⟨11, ⟨[], ⟨0, 8, 11, 19⟩, [], rfl, (fun z hz => by cases hz), by decide, by decide, zw_1336, List.mem_of_getElem? (i := 4) rfl, rfl⟩, fun a9 => ?_⟩
    refine L_astoreA_n (lv2 := [(3, va a9), (0, vr 0 0), (1, vi p1), (2, vr 51 0)]) dL_meanWait_11 rfl (by decide) rfl ?_
    refine L_iconst (v := 1) (by decide) dL_meanWait_12 ?_
    exact L_iret rfl dL_meanWait_13 (Nat.le_of_eq (Nat.zero_add mc)) (Nat.le_of_eq (Nat.zero_add ms)) ⟨_, rfl, q7⟩
  · obtain ⟨x, rfl, q⟩ := q
    refine L_dast dL_meanWait_7 ?_
    refine L_goto (tgt := 14) dL_meanWait_8 (by decide) ?_
    refine L_iconst (v := 0) (by decide) dL_meanWait_14 ?_
    exact L_iret rfl dL_meanWait_15 (Nat.le_of_eq (Nat.zero_add mc)) (Nat.le_of_eq (Nat.zero_add ms)) ⟨_, rfl, h0 x M1 q⟩
theorem w_base {p1 : Int32} {Kf : Int32 → zM → Prop} (h : zCalIX l G Y_X8_base mc ms [vr 0 0, vi p1] M.1 Kf KX) (h0 : ∀ x M1, Kf x M1 → K 0 (M1, x.toInt64, M.2.2)) (hX : ∀ X M1, KX X M1 → (X = IAE ∧ K 1 (M1, M.2))) : lCal l G YL_base mc ms [vr 0 0, vi p1, vr 50 0] M (fun r w => ∃ x : Int32, r = some (vi x) ∧ K x w) := by
  refine lCal_of (lv := [(0, vr 0 0), (1, vi p1), (2, vr 50 0)]) (by decide) (zle rfl) rfl (fun hv => zlv_args (lv := [(0, vr 0 0), (1, vi p1), (2, vr 50 0)]) rfl hv) ?_
  have hE : ∀ {mc ms : Nat} {K : lK}, zRm YL_base (lEM G YL_base mc ms K).1 := ⟨Nat.le_refl _, Nat.le_refl _⟩
  refine L_aload_n dL_base_0 rfl 2 rfl ?_
  refine L_iconst (v := 0) (by decide) dL_base_1 ?_
  refine L_aload_n dL_base_2 rfl 0 rfl ?_
  refine L_iload_n dL_base_3 rfl 1 rfl ?_
  refine L_callW (as := [vi p1]) (st := [vi 0, vr 50 0]) (mc' := mc) (ms' := ms) (KX := KX) hE zcv_YL_base_38 rfl rfl rfl rfl (zle rfl) dL_base_4 ⟨Nat.le_of_eq (Nat.zero_add mc), Nat.le_of_eq (Nat.zero_add ms)⟩ h (fun X M1 q => ?_) (fun r M1 q => ?_)
  · obtain ⟨rfl, q7⟩ := hX X M1 q
    refine ⟨12, ⟨[], ⟨0, 9, 12, 13⟩, [], rfl, (fun z hz => by cases hz), by decide, by decide, zw_1321, List.mem_of_getElem? (i := 3) rfl, rfl⟩, fun a9 => ?_⟩
    refine L_astoreA_n (lv2 := [(3, va a9), (0, vr 0 0), (1, vi p1), (2, vr 50 0)]) dL_base_12 rfl (by decide) rfl ?_
    refine L_iconst (v := 1) (by decide) dL_base_13 ?_
    exact L_iret rfl dL_base_14 (Nat.le_of_eq (Nat.zero_add mc)) (Nat.le_of_eq (Nat.zero_add ms)) ⟨_, rfl, q7⟩
  · obtain ⟨x, rfl, q⟩ := q
    refine L_i2l dL_base_7 ?_
    refine L_last dL_base_8 ?_
    refine L_goto (tgt := 15) dL_base_9 (by decide) ?_
    refine L_iconst (v := 0) (by decide) dL_base_15 ?_
    exact L_iret rfl dL_base_16 (Nat.le_of_eq (Nat.zero_add mc)) (Nat.le_of_eq (Nat.zero_add ms)) ⟨_, rfl, h0 x M1 q⟩
theorem w_chance {p1 p2 : Int32} {Kf : Int32 → zM → Prop} (h : zCalIX l G Y_X8_chance mc ms [vr 0 0, vi p1, vi p2] M.1 Kf KX) (h0 : ∀ x M1, Kf x M1 → K 0 (M1, x.toInt64, M.2.2)) (hX : ∀ X M1, KX X M1 → (X = IAE ∧ K 1 (M1, M.2))) : lCal l G YL_chance mc ms [vr 0 0, vi p1, vi p2, vr 50 0] M (fun r w => ∃ x : Int32, r = some (vi x) ∧ K x w) := by
  refine lCal_of (lv := [(0, vr 0 0), (1, vi p1), (2, vi p2), (3, vr 50 0)]) (by decide) (zle rfl) rfl (fun hv => zlv_args (lv := [(0, vr 0 0), (1, vi p1), (2, vi p2), (3, vr 50 0)]) rfl hv) ?_
  have hE : ∀ {mc ms : Nat} {K : lK}, zRm YL_chance (lEM G YL_chance mc ms K).1 := ⟨Nat.le_refl _, Nat.le_refl _⟩
  refine L_aload_n dL_chance_0 rfl 3 rfl ?_
  refine L_iconst (v := 0) (by decide) dL_chance_1 ?_
  refine L_aload_n dL_chance_2 rfl 0 rfl ?_
  refine L_iload_n dL_chance_3 rfl 1 rfl ?_
  refine L_iload_n dL_chance_4 rfl 2 rfl ?_
  refine L_callW (as := [vi p1, vi p2]) (st := [vi 0, vr 50 0]) (mc' := mc) (ms' := ms) (KX := KX) hE zcv_YL_chance_41 rfl rfl rfl rfl (zle rfl) dL_chance_5 ⟨Nat.le_of_eq (Nat.zero_add mc), Nat.le_of_eq (Nat.zero_add ms)⟩ h (fun X M1 q => ?_) (fun r M1 q => ?_)
  · obtain ⟨rfl, q7⟩ := hX X M1 q
    refine ⟨13, ⟨[], ⟨0, 10, 13, 13⟩, [], rfl, (fun z hz => by cases hz), by decide, by decide, zw_1321, List.mem_of_getElem? (i := 3) rfl, rfl⟩, fun a9 => ?_⟩
    refine L_astoreA (lv2 := [(4, va a9), (0, vr 0 0), (1, vi p1), (2, vi p2), (3, vr 50 0)]) dL_chance_13 (by decide) rfl ?_
    refine L_iconst (v := 1) (by decide) dL_chance_15 ?_
    exact L_iret rfl dL_chance_16 (Nat.le_of_eq (Nat.zero_add mc)) (Nat.le_of_eq (Nat.zero_add ms)) ⟨_, rfl, q7⟩
  · obtain ⟨x, rfl, q⟩ := q
    refine L_i2l dL_chance_8 ?_
    refine L_last dL_chance_9 ?_
    refine L_goto (tgt := 17) dL_chance_10 (by decide) ?_
    refine L_iconst (v := 0) (by decide) dL_chance_17 ?_
    exact L_iret rfl dL_chance_18 (Nat.le_of_eq (Nat.zero_add mc)) (Nat.le_of_eq (Nat.zero_add ms)) ⟨_, rfl, h0 x M1 q⟩
theorem w_burst {p1 : Int32} {Kf : UInt64 → zM → Prop} (h : zCalDX l G Y_X8_burst mc ms [vr 0 0, vi p1] M.1 Kf KX) (h0 : ∀ x M1, Kf x M1 → K 0 (M1, M.2.1, x)) (hX : ∀ X M1, KX X M1 → (X = IAE ∧ K 1 (M1, M.2))) : lCal l G YL_burst mc ms [vr 0 0, vi p1, vr 51 0] M (fun r w => ∃ x : Int32, r = some (vi x) ∧ K x w) := by
  refine lCal_of (lv := [(0, vr 0 0), (1, vi p1), (2, vr 51 0)]) (by decide) (zle rfl) rfl (fun hv => zlv_args (lv := [(0, vr 0 0), (1, vi p1), (2, vr 51 0)]) rfl hv) ?_
  have hE : ∀ {mc ms : Nat} {K : lK}, zRm YL_burst (lEM G YL_burst mc ms K).1 := ⟨Nat.le_refl _, Nat.le_refl _⟩
  refine L_aload_n dL_burst_0 rfl 2 rfl ?_
  refine L_iconst (v := 0) (by decide) dL_burst_1 ?_
  refine L_aload_n dL_burst_2 rfl 0 rfl ?_
  refine L_iload_n dL_burst_3 rfl 1 rfl ?_
  refine L_callW (as := [vi p1]) (st := [vi 0, vr 51 0]) (mc' := mc) (ms' := ms) (KX := KX) hE zcv_YL_burst_44 rfl rfl rfl rfl (zle rfl) dL_burst_4 ⟨Nat.le_of_eq (Nat.zero_add mc), Nat.le_of_eq (Nat.zero_add ms)⟩ h (fun X M1 q => ?_) (fun r M1 q => ?_)
  · obtain ⟨rfl, q7⟩ := hX X M1 q
    refine ⟨11, ⟨[], ⟨0, 8, 11, 13⟩, [], rfl, (fun z hz => by cases hz), by decide, by decide, zw_1321, List.mem_of_getElem? (i := 3) rfl, rfl⟩, fun a9 => ?_⟩
    refine L_astoreA_n (lv2 := [(3, va a9), (0, vr 0 0), (1, vi p1), (2, vr 51 0)]) dL_burst_11 rfl (by decide) rfl ?_
    refine L_iconst (v := 1) (by decide) dL_burst_12 ?_
    exact L_iret rfl dL_burst_13 (Nat.le_of_eq (Nat.zero_add mc)) (Nat.le_of_eq (Nat.zero_add ms)) ⟨_, rfl, q7⟩
  · obtain ⟨x, rfl, q⟩ := q
    refine L_dast dL_burst_7 ?_
    refine L_goto (tgt := 14) dL_burst_8 (by decide) ?_
    refine L_iconst (v := 0) (by decide) dL_burst_14 ?_
    exact L_iret rfl dL_burst_15 (Nat.le_of_eq (Nat.zero_add mc)) (Nat.le_of_eq (Nat.zero_add ms)) ⟨_, rfl, h0 x M1 q⟩
theorem w_sureBurst {p1 : Int32} {Kf : Int32 → zM → Prop} (h : zCalIX l G Y_X8_sureBurst mc ms [vr 0 0, vi p1] M.1 Kf KX) (h0 : ∀ x M1, Kf x M1 → K 0 (M1, x.toInt64, M.2.2)) (hX : ∀ X M1, KX X M1 → (X = IAE ∧ K 1 (M1, M.2))) : lCal l G YL_sureBurst mc ms [vr 0 0, vi p1, vr 50 0] M (fun r w => ∃ x : Int32, r = some (vi x) ∧ K x w) := by
  refine lCal_of (lv := [(0, vr 0 0), (1, vi p1), (2, vr 50 0)]) (by decide) (zle rfl) rfl (fun hv => zlv_args (lv := [(0, vr 0 0), (1, vi p1), (2, vr 50 0)]) rfl hv) ?_
  have hE : ∀ {mc ms : Nat} {K : lK}, zRm YL_sureBurst (lEM G YL_sureBurst mc ms K).1 := ⟨Nat.le_refl _, Nat.le_refl _⟩
  refine L_aload_n dL_sureBurst_0 rfl 2 rfl ?_
  refine L_iconst (v := 0) (by decide) dL_sureBurst_1 ?_
  refine L_aload_n dL_sureBurst_2 rfl 0 rfl ?_
  refine L_iload_n dL_sureBurst_3 rfl 1 rfl ?_
  refine L_callW (as := [vi p1]) (st := [vi 0, vr 50 0]) (mc' := mc) (ms' := ms) (KX := KX) hE zcv_YL_sureBurst_47 rfl rfl rfl rfl (zle rfl) dL_sureBurst_4 ⟨Nat.le_of_eq (Nat.zero_add mc), Nat.le_of_eq (Nat.zero_add ms)⟩ h (fun X M1 q => ?_) (fun r M1 q => ?_)
  · obtain ⟨rfl, q7⟩ := hX X M1 q
    refine ⟨12, ⟨[], ⟨0, 9, 12, 13⟩, [], rfl, (fun z hz => by cases hz), by decide, by decide, zw_1321, List.mem_of_getElem? (i := 3) rfl, rfl⟩, fun a9 => ?_⟩
    refine L_astoreA_n (lv2 := [(3, va a9), (0, vr 0 0), (1, vi p1), (2, vr 50 0)]) dL_sureBurst_12 rfl (by decide) rfl ?_
    refine L_iconst (v := 1) (by decide) dL_sureBurst_13 ?_
    exact L_iret rfl dL_sureBurst_14 (Nat.le_of_eq (Nat.zero_add mc)) (Nat.le_of_eq (Nat.zero_add ms)) ⟨_, rfl, q7⟩
  · obtain ⟨x, rfl, q⟩ := q
    refine L_i2l dL_sureBurst_7 ?_
    refine L_last dL_sureBurst_8 ?_
    refine L_goto (tgt := 15) dL_sureBurst_9 (by decide) ?_
    refine L_iconst (v := 0) (by decide) dL_sureBurst_15 ?_
    exact L_iret rfl dL_sureBurst_16 (Nat.le_of_eq (Nat.zero_add mc)) (Nat.le_of_eq (Nat.zero_add ms)) ⟨_, rfl, h0 x M1 q⟩
theorem w_accountIn {p1 p2 p3 : Int32} {Kf : Int64 → zM → Prop} (h : zCalLX l G Y_X8_accountIn mc ms [vr 0 0, vi p1, vi p2, vi p3] M.1 Kf KX) (h0 : ∀ x M1, Kf x M1 → K 0 (M1, x, M.2.2)) (hX : ∀ X M1, KX X M1 → (X = IOE ∧ K 1 (M1, M.2)) ∨ (X = IAE ∧ K 2 (M1, M.2))) : lCal l G YL_accountIn mc ms [vr 0 0, vi p1, vi p2, vi p3, vr 50 0] M (fun r w => ∃ x : Int32, r = some (vi x) ∧ K x w) := by
  refine lCal_of (lv := [(0, vr 0 0), (1, vi p1), (2, vi p2), (3, vi p3), (4, vr 50 0)]) (by decide) (zle rfl) rfl (fun hv => zlv_args (lv := [(0, vr 0 0), (1, vi p1), (2, vi p2), (3, vi p3), (4, vr 50 0)]) rfl hv) ?_
  have hE : ∀ {mc ms : Nat} {K : lK}, zRm YL_accountIn (lEM G YL_accountIn mc ms K).1 := ⟨Nat.le_refl _, Nat.le_refl _⟩
  refine L_aload dL_accountIn_0 4 rfl ?_
  refine L_iconst (v := 0) (by decide) dL_accountIn_2 ?_
  refine L_aload_n dL_accountIn_3 rfl 0 rfl ?_
  refine L_iload_n dL_accountIn_4 rfl 1 rfl ?_
  refine L_iload_n dL_accountIn_5 rfl 2 rfl ?_
  refine L_iload_n dL_accountIn_6 rfl 3 rfl ?_
  refine L_callW (as := [vi p1, vi p2, vi p3]) (st := [vi 0, vr 50 0]) (mc' := mc) (ms' := ms) (KX := KX) hE zcv_YL_accountIn_50 rfl rfl rfl rfl (zle rfl) dL_accountIn_7 ⟨Nat.le_of_eq (Nat.zero_add mc), Nat.le_of_eq (Nat.zero_add ms)⟩ h (fun X M1 q => ?_) (fun r M1 q => ?_)
  · rcases hX X M1 q with ⟨rfl, q7⟩ | ⟨rfl, q7⟩
    · refine ⟨14, ⟨[], ⟨0, 11, 14, 19⟩, [⟨0, 11, 18, 13⟩], rfl, (fun z hz => by cases hz), by decide, by decide, zw_1336, List.mem_of_getElem? (i := 4) rfl, rfl⟩, fun a9 => ?_⟩
      refine L_astoreA (lv2 := [(5, va a9), (0, vr 0 0), (1, vi p1), (2, vi p2), (3, vi p3), (4, vr 50 0)]) dL_accountIn_14 (by decide) rfl ?_
      refine L_iconst (v := 1) (by decide) dL_accountIn_16 ?_
      exact L_iret rfl dL_accountIn_17 (Nat.le_of_eq (Nat.zero_add mc)) (Nat.le_of_eq (Nat.zero_add ms)) ⟨_, rfl, q7⟩
    · refine ⟨18, ⟨[⟨0, 11, 14, 19⟩], ⟨0, 11, 18, 13⟩, [], rfl, (fun z hz => by rw [List.mem_singleton.mp hz]; exact ⟨by decide, zw_1336, rfl⟩), by decide, by decide, zw_1321, List.mem_of_getElem? (i := 3) rfl, rfl⟩, fun a9 => ?_⟩
      refine L_astoreA (lv2 := [(5, va a9), (0, vr 0 0), (1, vi p1), (2, vi p2), (3, vi p3), (4, vr 50 0)]) dL_accountIn_18 (by decide) rfl ?_
      refine L_iconst (v := 2) (by decide) dL_accountIn_20 ?_
      exact L_iret rfl dL_accountIn_21 (Nat.le_of_eq (Nat.zero_add mc)) (Nat.le_of_eq (Nat.zero_add ms)) ⟨_, rfl, q7⟩
  · obtain ⟨x, rfl, q⟩ := q
    refine L_last dL_accountIn_10 ?_
    refine L_goto (tgt := 22) dL_accountIn_11 (by decide) ?_
    refine L_iconst (v := 0) (by decide) dL_accountIn_22 ?_
    exact L_iret rfl dL_accountIn_23 (Nat.le_of_eq (Nat.zero_add mc)) (Nat.le_of_eq (Nat.zero_add ms)) ⟨_, rfl, h0 x M1 q⟩
theorem w_queueIn {p1 : Int32} {Kf : Int32 → zM → Prop} (h : zCalIX l G Y_X8_queueIn mc ms [vr 0 0, vi p1] M.1 Kf KX) (h0 : ∀ x M1, Kf x M1 → K 0 (M1, x.toInt64, M.2.2)) (hX : ∀ X M1, KX X M1 → (X = IAE ∧ K 1 (M1, M.2))) : lCal l G YL_queueIn mc ms [vr 0 0, vi p1, vr 50 0] M (fun r w => ∃ x : Int32, r = some (vi x) ∧ K x w) := by
  refine lCal_of (lv := [(0, vr 0 0), (1, vi p1), (2, vr 50 0)]) (by decide) (zle rfl) rfl (fun hv => zlv_args (lv := [(0, vr 0 0), (1, vi p1), (2, vr 50 0)]) rfl hv) ?_
  have hE : ∀ {mc ms : Nat} {K : lK}, zRm YL_queueIn (lEM G YL_queueIn mc ms K).1 := ⟨Nat.le_refl _, Nat.le_refl _⟩
  refine L_aload_n dL_queueIn_0 rfl 2 rfl ?_
  refine L_iconst (v := 0) (by decide) dL_queueIn_1 ?_
  refine L_aload_n dL_queueIn_2 rfl 0 rfl ?_
  refine L_iload_n dL_queueIn_3 rfl 1 rfl ?_
  refine L_callW (as := [vi p1]) (st := [vi 0, vr 50 0]) (mc' := mc) (ms' := ms) (KX := KX) hE zcv_YL_queueIn_54 rfl rfl rfl rfl (zle rfl) dL_queueIn_4 ⟨Nat.le_of_eq (Nat.zero_add mc), Nat.le_of_eq (Nat.zero_add ms)⟩ h (fun X M1 q => ?_) (fun r M1 q => ?_)
  · obtain ⟨rfl, q7⟩ := hX X M1 q
    refine ⟨12, ⟨[], ⟨0, 9, 12, 13⟩, [], rfl, (fun z hz => by cases hz), by decide, by decide, zw_1321, List.mem_of_getElem? (i := 3) rfl, rfl⟩, fun a9 => ?_⟩
    refine L_astoreA_n (lv2 := [(3, va a9), (0, vr 0 0), (1, vi p1), (2, vr 50 0)]) dL_queueIn_12 rfl (by decide) rfl ?_
    refine L_iconst (v := 1) (by decide) dL_queueIn_13 ?_
    exact L_iret rfl dL_queueIn_14 (Nat.le_of_eq (Nat.zero_add mc)) (Nat.le_of_eq (Nat.zero_add ms)) ⟨_, rfl, q7⟩
  · obtain ⟨x, rfl, q⟩ := q
    refine L_i2l dL_queueIn_7 ?_
    refine L_last dL_queueIn_8 ?_
    refine L_goto (tgt := 15) dL_queueIn_9 (by decide) ?_
    refine L_iconst (v := 0) (by decide) dL_queueIn_15 ?_
    exact L_iret rfl dL_queueIn_16 (Nat.le_of_eq (Nat.zero_add mc)) (Nat.le_of_eq (Nat.zero_add ms)) ⟨_, rfl, h0 x M1 q⟩
theorem w_averageIn {p1 : Int32} {Kf : Int32 → zM → Prop} (h : zCalIX l G Y_X8_averageIn mc ms [vr 0 0, vi p1] M.1 Kf KX) (h0 : ∀ x M1, Kf x M1 → K 0 (M1, x.toInt64, M.2.2)) (hX : ∀ X M1, KX X M1 → (X = IAE ∧ K 1 (M1, M.2))) : lCal l G YL_averageIn mc ms [vr 0 0, vi p1, vr 50 0] M (fun r w => ∃ x : Int32, r = some (vi x) ∧ K x w) := by
  refine lCal_of (lv := [(0, vr 0 0), (1, vi p1), (2, vr 50 0)]) (by decide) (zle rfl) rfl (fun hv => zlv_args (lv := [(0, vr 0 0), (1, vi p1), (2, vr 50 0)]) rfl hv) ?_
  have hE : ∀ {mc ms : Nat} {K : lK}, zRm YL_averageIn (lEM G YL_averageIn mc ms K).1 := ⟨Nat.le_refl _, Nat.le_refl _⟩
  refine L_aload_n dL_averageIn_0 rfl 2 rfl ?_
  refine L_iconst (v := 0) (by decide) dL_averageIn_1 ?_
  refine L_aload_n dL_averageIn_2 rfl 0 rfl ?_
  refine L_iload_n dL_averageIn_3 rfl 1 rfl ?_
  refine L_callW (as := [vi p1]) (st := [vi 0, vr 50 0]) (mc' := mc) (ms' := ms) (KX := KX) hE zcv_YL_averageIn_57 rfl rfl rfl rfl (zle rfl) dL_averageIn_4 ⟨Nat.le_of_eq (Nat.zero_add mc), Nat.le_of_eq (Nat.zero_add ms)⟩ h (fun X M1 q => ?_) (fun r M1 q => ?_)
  · obtain ⟨rfl, q7⟩ := hX X M1 q
    refine ⟨12, ⟨[], ⟨0, 9, 12, 13⟩, [], rfl, (fun z hz => by cases hz), by decide, by decide, zw_1321, List.mem_of_getElem? (i := 3) rfl, rfl⟩, fun a9 => ?_⟩
    refine L_astoreA_n (lv2 := [(3, va a9), (0, vr 0 0), (1, vi p1), (2, vr 50 0)]) dL_averageIn_12 rfl (by decide) rfl ?_
    refine L_iconst (v := 1) (by decide) dL_averageIn_13 ?_
    exact L_iret rfl dL_averageIn_14 (Nat.le_of_eq (Nat.zero_add mc)) (Nat.le_of_eq (Nat.zero_add ms)) ⟨_, rfl, q7⟩
  · obtain ⟨x, rfl, q⟩ := q
    refine L_i2l dL_averageIn_7 ?_
    refine L_last dL_averageIn_8 ?_
    refine L_goto (tgt := 15) dL_averageIn_9 (by decide) ?_
    refine L_iconst (v := 0) (by decide) dL_averageIn_15 ?_
    exact L_iret rfl dL_averageIn_16 (Nat.le_of_eq (Nat.zero_add mc)) (Nat.le_of_eq (Nat.zero_add ms)) ⟨_, rfl, h0 x M1 q⟩
theorem w_windowIn {p1 p2 : Int32} {Kf : Int32 → zM → Prop} (h : zCalIX l G Y_X8_windowIn mc ms [vr 0 0, vi p1, vi p2] M.1 Kf KX) (h0 : ∀ x M1, Kf x M1 → K 0 (M1, x.toInt64, M.2.2)) (hX : ∀ X M1, KX X M1 → (X = IOE ∧ K 1 (M1, M.2)) ∨ (X = IAE ∧ K 2 (M1, M.2))) : lCal l G YL_windowIn mc ms [vr 0 0, vi p1, vi p2, vr 50 0] M (fun r w => ∃ x : Int32, r = some (vi x) ∧ K x w) := by
  refine lCal_of (lv := [(0, vr 0 0), (1, vi p1), (2, vi p2), (3, vr 50 0)]) (by decide) (zle rfl) rfl (fun hv => zlv_args (lv := [(0, vr 0 0), (1, vi p1), (2, vi p2), (3, vr 50 0)]) rfl hv) ?_
  have hE : ∀ {mc ms : Nat} {K : lK}, zRm YL_windowIn (lEM G YL_windowIn mc ms K).1 := ⟨Nat.le_refl _, Nat.le_refl _⟩
  refine L_aload_n dL_windowIn_0 rfl 3 rfl ?_
  refine L_iconst (v := 0) (by decide) dL_windowIn_1 ?_
  refine L_aload_n dL_windowIn_2 rfl 0 rfl ?_
  refine L_iload_n dL_windowIn_3 rfl 1 rfl ?_
  refine L_iload_n dL_windowIn_4 rfl 2 rfl ?_
  refine L_callW (as := [vi p1, vi p2]) (st := [vi 0, vr 50 0]) (mc' := mc) (ms' := ms) (KX := KX) hE zcv_YL_windowIn_60 rfl rfl rfl rfl (zle rfl) dL_windowIn_5 ⟨Nat.le_of_eq (Nat.zero_add mc), Nat.le_of_eq (Nat.zero_add ms)⟩ h (fun X M1 q => ?_) (fun r M1 q => ?_)
  · rcases hX X M1 q with ⟨rfl, q7⟩ | ⟨rfl, q7⟩
    · refine ⟨13, ⟨[], ⟨0, 10, 13, 19⟩, [⟨0, 10, 17, 13⟩], rfl, (fun z hz => by cases hz), by decide, by decide, zw_1336, List.mem_of_getElem? (i := 4) rfl, rfl⟩, fun a9 => ?_⟩
      refine L_astoreA (lv2 := [(4, va a9), (0, vr 0 0), (1, vi p1), (2, vi p2), (3, vr 50 0)]) dL_windowIn_13 (by decide) rfl ?_
      refine L_iconst (v := 1) (by decide) dL_windowIn_15 ?_
      exact L_iret rfl dL_windowIn_16 (Nat.le_of_eq (Nat.zero_add mc)) (Nat.le_of_eq (Nat.zero_add ms)) ⟨_, rfl, q7⟩
    · refine ⟨17, ⟨[⟨0, 10, 13, 19⟩], ⟨0, 10, 17, 13⟩, [], rfl, (fun z hz => by rw [List.mem_singleton.mp hz]; exact ⟨by decide, zw_1336, rfl⟩), by decide, by decide, zw_1321, List.mem_of_getElem? (i := 3) rfl, rfl⟩, fun a9 => ?_⟩
      refine L_astoreA (lv2 := [(4, va a9), (0, vr 0 0), (1, vi p1), (2, vi p2), (3, vr 50 0)]) dL_windowIn_17 (by decide) rfl ?_
      refine L_iconst (v := 2) (by decide) dL_windowIn_19 ?_
      exact L_iret rfl dL_windowIn_20 (Nat.le_of_eq (Nat.zero_add mc)) (Nat.le_of_eq (Nat.zero_add ms)) ⟨_, rfl, q7⟩
  · obtain ⟨x, rfl, q⟩ := q
    refine L_i2l dL_windowIn_8 ?_
    refine L_last dL_windowIn_9 ?_
    refine L_goto (tgt := 21) dL_windowIn_10 (by decide) ?_
    refine L_iconst (v := 0) (by decide) dL_windowIn_21 ?_
    exact L_iret rfl dL_windowIn_22 (Nat.le_of_eq (Nat.zero_add mc)) (Nat.le_of_eq (Nat.zero_add ms)) ⟨_, rfl, h0 x M1 q⟩
theorem w_longest {p1 : Int32} {Kf : Int32 → zM → Prop} (h : zCalIX l G Y_X8_longest mc ms [vr 0 0, vi p1] M.1 Kf KX) (h0 : ∀ x M1, Kf x M1 → K 0 (M1, x.toInt64, M.2.2)) (hX : ∀ X M1, KX X M1 → (X = IAE ∧ K 1 (M1, M.2))) : lCal l G YL_longest mc ms [vr 0 0, vi p1, vr 50 0] M (fun r w => ∃ x : Int32, r = some (vi x) ∧ K x w) := by
  refine lCal_of (lv := [(0, vr 0 0), (1, vi p1), (2, vr 50 0)]) (by decide) (zle rfl) rfl (fun hv => zlv_args (lv := [(0, vr 0 0), (1, vi p1), (2, vr 50 0)]) rfl hv) ?_
  have hE : ∀ {mc ms : Nat} {K : lK}, zRm YL_longest (lEM G YL_longest mc ms K).1 := ⟨Nat.le_refl _, Nat.le_refl _⟩
  refine L_aload_n dL_longest_0 rfl 2 rfl ?_
  refine L_iconst (v := 0) (by decide) dL_longest_1 ?_
  refine L_aload_n dL_longest_2 rfl 0 rfl ?_
  refine L_iload_n dL_longest_3 rfl 1 rfl ?_
  refine L_callW (as := [vi p1]) (st := [vi 0, vr 50 0]) (mc' := mc) (ms' := ms) (KX := KX) hE zcv_YL_longest_63 rfl rfl rfl rfl (zle rfl) dL_longest_4 ⟨Nat.le_of_eq (Nat.zero_add mc), Nat.le_of_eq (Nat.zero_add ms)⟩ h (fun X M1 q => ?_) (fun r M1 q => ?_)
  · obtain ⟨rfl, q7⟩ := hX X M1 q
    refine ⟨12, ⟨[], ⟨0, 9, 12, 13⟩, [], rfl, (fun z hz => by cases hz), by decide, by decide, zw_1321, List.mem_of_getElem? (i := 3) rfl, rfl⟩, fun a9 => ?_⟩
    refine L_astoreA_n (lv2 := [(3, va a9), (0, vr 0 0), (1, vi p1), (2, vr 50 0)]) dL_longest_12 rfl (by decide) rfl ?_
    refine L_iconst (v := 1) (by decide) dL_longest_13 ?_
    exact L_iret rfl dL_longest_14 (Nat.le_of_eq (Nat.zero_add mc)) (Nat.le_of_eq (Nat.zero_add ms)) ⟨_, rfl, q7⟩
  · obtain ⟨x, rfl, q⟩ := q
    refine L_i2l dL_longest_7 ?_
    refine L_last dL_longest_8 ?_
    refine L_goto (tgt := 15) dL_longest_9 (by decide) ?_
    refine L_iconst (v := 0) (by decide) dL_longest_15 ?_
    exact L_iret rfl dL_longest_16 (Nat.le_of_eq (Nat.zero_add mc)) (Nat.le_of_eq (Nat.zero_add ms)) ⟨_, rfl, h0 x M1 q⟩
theorem w_bestWeight {p1 : Int32} {Kf : Int32 → zM → Prop} (h : zCalIX l G Y_X8_bestWeight mc ms [vr 0 0, vi p1] M.1 Kf KX) (h0 : ∀ x M1, Kf x M1 → K 0 (M1, x.toInt64, M.2.2)) (hX : ∀ X M1, KX X M1 → (X = IAE ∧ K 1 (M1, M.2))) : lCal l G YL_bestWeight mc ms [vr 0 0, vi p1, vr 50 0] M (fun r w => ∃ x : Int32, r = some (vi x) ∧ K x w) := by
  refine lCal_of (lv := [(0, vr 0 0), (1, vi p1), (2, vr 50 0)]) (by decide) (zle rfl) rfl (fun hv => zlv_args (lv := [(0, vr 0 0), (1, vi p1), (2, vr 50 0)]) rfl hv) ?_
  have hE : ∀ {mc ms : Nat} {K : lK}, zRm YL_bestWeight (lEM G YL_bestWeight mc ms K).1 := ⟨Nat.le_refl _, Nat.le_refl _⟩
  refine L_aload_n dL_bestWeight_0 rfl 2 rfl ?_
  refine L_iconst (v := 0) (by decide) dL_bestWeight_1 ?_
  refine L_aload_n dL_bestWeight_2 rfl 0 rfl ?_
  refine L_iload_n dL_bestWeight_3 rfl 1 rfl ?_
  refine L_callW (as := [vi p1]) (st := [vi 0, vr 50 0]) (mc' := mc) (ms' := ms) (KX := KX) hE zcv_YL_bestWeight_66 rfl rfl rfl rfl (zle rfl) dL_bestWeight_4 ⟨Nat.le_of_eq (Nat.zero_add mc), Nat.le_of_eq (Nat.zero_add ms)⟩ h (fun X M1 q => ?_) (fun r M1 q => ?_)
  · obtain ⟨rfl, q7⟩ := hX X M1 q
    refine ⟨12, ⟨[], ⟨0, 9, 12, 13⟩, [], rfl, (fun z hz => by cases hz), by decide, by decide, zw_1321, List.mem_of_getElem? (i := 3) rfl, rfl⟩, fun a9 => ?_⟩
    refine L_astoreA_n (lv2 := [(3, va a9), (0, vr 0 0), (1, vi p1), (2, vr 50 0)]) dL_bestWeight_12 rfl (by decide) rfl ?_
    refine L_iconst (v := 1) (by decide) dL_bestWeight_13 ?_
    exact L_iret rfl dL_bestWeight_14 (Nat.le_of_eq (Nat.zero_add mc)) (Nat.le_of_eq (Nat.zero_add ms)) ⟨_, rfl, q7⟩
  · obtain ⟨x, rfl, q⟩ := q
    refine L_i2l dL_bestWeight_7 ?_
    refine L_last dL_bestWeight_8 ?_
    refine L_goto (tgt := 15) dL_bestWeight_9 (by decide) ?_
    refine L_iconst (v := 0) (by decide) dL_bestWeight_15 ?_
    exact L_iret rfl dL_bestWeight_16 (Nat.le_of_eq (Nat.zero_add mc)) (Nat.le_of_eq (Nat.zero_add ms)) ⟨_, rfl, h0 x M1 q⟩
theorem w_bestTop {p1 : Int32} {Kf : Int32 → zM → Prop} (h : zCalIX l G Y_X8_bestTop mc ms [vr 0 0, vi p1] M.1 Kf KX) (h0 : ∀ x M1, Kf x M1 → K 0 (M1, x.toInt64, M.2.2)) (hX : ∀ X M1, KX X M1 → (X = IAE ∧ K 1 (M1, M.2))) : lCal l G YL_bestTop mc ms [vr 0 0, vi p1, vr 50 0] M (fun r w => ∃ x : Int32, r = some (vi x) ∧ K x w) := by
  refine lCal_of (lv := [(0, vr 0 0), (1, vi p1), (2, vr 50 0)]) (by decide) (zle rfl) rfl (fun hv => zlv_args (lv := [(0, vr 0 0), (1, vi p1), (2, vr 50 0)]) rfl hv) ?_
  have hE : ∀ {mc ms : Nat} {K : lK}, zRm YL_bestTop (lEM G YL_bestTop mc ms K).1 := ⟨Nat.le_refl _, Nat.le_refl _⟩
  refine L_aload_n dL_bestTop_0 rfl 2 rfl ?_
  refine L_iconst (v := 0) (by decide) dL_bestTop_1 ?_
  refine L_aload_n dL_bestTop_2 rfl 0 rfl ?_
  refine L_iload_n dL_bestTop_3 rfl 1 rfl ?_
  refine L_callW (as := [vi p1]) (st := [vi 0, vr 50 0]) (mc' := mc) (ms' := ms) (KX := KX) hE zcv_YL_bestTop_69 rfl rfl rfl rfl (zle rfl) dL_bestTop_4 ⟨Nat.le_of_eq (Nat.zero_add mc), Nat.le_of_eq (Nat.zero_add ms)⟩ h (fun X M1 q => ?_) (fun r M1 q => ?_)
  · obtain ⟨rfl, q7⟩ := hX X M1 q
    refine ⟨12, ⟨[], ⟨0, 9, 12, 13⟩, [], rfl, (fun z hz => by cases hz), by decide, by decide, zw_1321, List.mem_of_getElem? (i := 3) rfl, rfl⟩, fun a9 => ?_⟩
    refine L_astoreA_n (lv2 := [(3, va a9), (0, vr 0 0), (1, vi p1), (2, vr 50 0)]) dL_bestTop_12 rfl (by decide) rfl ?_
    refine L_iconst (v := 1) (by decide) dL_bestTop_13 ?_
    exact L_iret rfl dL_bestTop_14 (Nat.le_of_eq (Nat.zero_add mc)) (Nat.le_of_eq (Nat.zero_add ms)) ⟨_, rfl, q7⟩
  · obtain ⟨x, rfl, q⟩ := q
    refine L_i2l dL_bestTop_7 ?_
    refine L_last dL_bestTop_8 ?_
    refine L_goto (tgt := 15) dL_bestTop_9 (by decide) ?_
    refine L_iconst (v := 0) (by decide) dL_bestTop_15 ?_
    exact L_iret rfl dL_bestTop_16 (Nat.le_of_eq (Nat.zero_add mc)) (Nat.le_of_eq (Nat.zero_add ms)) ⟨_, rfl, h0 x M1 q⟩
theorem w_gain {p1 : Int32} {Kf : Int64 → zM → Prop} (h : zCalLX l G Y_X8_gain mc ms [vr 0 0, vi p1] M.1 Kf KX) (h0 : ∀ x M1, Kf x M1 → K 0 (M1, x, M.2.2)) (hX : ∀ X M1, KX X M1 → (X = IAE ∧ K 1 (M1, M.2))) : lCal l G YL_gain mc ms [vr 0 0, vi p1, vr 50 0] M (fun r w => ∃ x : Int32, r = some (vi x) ∧ K x w) := by
  refine lCal_of (lv := [(0, vr 0 0), (1, vi p1), (2, vr 50 0)]) (by decide) (zle rfl) rfl (fun hv => zlv_args (lv := [(0, vr 0 0), (1, vi p1), (2, vr 50 0)]) rfl hv) ?_
  have hE : ∀ {mc ms : Nat} {K : lK}, zRm YL_gain (lEM G YL_gain mc ms K).1 := ⟨Nat.le_refl _, Nat.le_refl _⟩
  refine L_aload_n dL_gain_0 rfl 2 rfl ?_
  refine L_iconst (v := 0) (by decide) dL_gain_1 ?_
  refine L_aload_n dL_gain_2 rfl 0 rfl ?_
  refine L_iload_n dL_gain_3 rfl 1 rfl ?_
  refine L_callW (as := [vi p1]) (st := [vi 0, vr 50 0]) (mc' := mc) (ms' := ms) (KX := KX) hE zcv_YL_gain_72 rfl rfl rfl rfl (zle rfl) dL_gain_4 ⟨Nat.le_of_eq (Nat.zero_add mc), Nat.le_of_eq (Nat.zero_add ms)⟩ h (fun X M1 q => ?_) (fun r M1 q => ?_)
  · obtain ⟨rfl, q7⟩ := hX X M1 q
    refine ⟨11, ⟨[], ⟨0, 8, 11, 13⟩, [], rfl, (fun z hz => by cases hz), by decide, by decide, zw_1321, List.mem_of_getElem? (i := 3) rfl, rfl⟩, fun a9 => ?_⟩
    refine L_astoreA_n (lv2 := [(3, va a9), (0, vr 0 0), (1, vi p1), (2, vr 50 0)]) dL_gain_11 rfl (by decide) rfl ?_
    refine L_iconst (v := 1) (by decide) dL_gain_12 ?_
    exact L_iret rfl dL_gain_13 (Nat.le_of_eq (Nat.zero_add mc)) (Nat.le_of_eq (Nat.zero_add ms)) ⟨_, rfl, q7⟩
  · obtain ⟨x, rfl, q⟩ := q
    refine L_last dL_gain_7 ?_
    refine L_goto (tgt := 14) dL_gain_8 (by decide) ?_
    refine L_iconst (v := 0) (by decide) dL_gain_14 ?_
    exact L_iret rfl dL_gain_15 (Nat.le_of_eq (Nat.zero_add mc)) (Nat.le_of_eq (Nat.zero_add ms)) ⟨_, rfl, h0 x M1 q⟩
theorem w_tick {p1 : Int32} {Kf : Int32 → zM → Prop} (h : zCalIX l G Y_X8_tick mc ms [vr 0 0, vi p1] M.1 Kf KX) (h0 : ∀ x M1, Kf x M1 → K 0 (M1, x.toInt64, M.2.2)) (hX : ∀ X M1, KX X M1 → (X = IAE ∧ K 1 (M1, M.2))) : lCal l G YL_tick mc ms [vr 0 0, vi p1, vr 50 0] M (fun r w => ∃ x : Int32, r = some (vi x) ∧ K x w) := by
  refine lCal_of (lv := [(0, vr 0 0), (1, vi p1), (2, vr 50 0)]) (by decide) (zle rfl) rfl (fun hv => zlv_args (lv := [(0, vr 0 0), (1, vi p1), (2, vr 50 0)]) rfl hv) ?_
  have hE : ∀ {mc ms : Nat} {K : lK}, zRm YL_tick (lEM G YL_tick mc ms K).1 := ⟨Nat.le_refl _, Nat.le_refl _⟩
  refine L_aload_n dL_tick_0 rfl 2 rfl ?_
  refine L_iconst (v := 0) (by decide) dL_tick_1 ?_
  refine L_aload_n dL_tick_2 rfl 0 rfl ?_
  refine L_iload_n dL_tick_3 rfl 1 rfl ?_
  refine L_callW (as := [vi p1]) (st := [vi 0, vr 50 0]) (mc' := mc) (ms' := ms) (KX := KX) hE zcv_YL_tick_76 rfl rfl rfl rfl (zle rfl) dL_tick_4 ⟨Nat.le_of_eq (Nat.zero_add mc), Nat.le_of_eq (Nat.zero_add ms)⟩ h (fun X M1 q => ?_) (fun r M1 q => ?_)
  · obtain ⟨rfl, q7⟩ := hX X M1 q
    refine ⟨12, ⟨[], ⟨0, 9, 12, 13⟩, [], rfl, (fun z hz => by cases hz), by decide, by decide, zw_1321, List.mem_of_getElem? (i := 3) rfl, rfl⟩, fun a9 => ?_⟩
    refine L_astoreA_n (lv2 := [(3, va a9), (0, vr 0 0), (1, vi p1), (2, vr 50 0)]) dL_tick_12 rfl (by decide) rfl ?_
    refine L_iconst (v := 1) (by decide) dL_tick_13 ?_
    exact L_iret rfl dL_tick_14 (Nat.le_of_eq (Nat.zero_add mc)) (Nat.le_of_eq (Nat.zero_add ms)) ⟨_, rfl, q7⟩
  · obtain ⟨x, rfl, q⟩ := q
    refine L_i2l dL_tick_7 ?_
    refine L_last dL_tick_8 ?_
    refine L_goto (tgt := 15) dL_tick_9 (by decide) ?_
    refine L_iconst (v := 0) (by decide) dL_tick_15 ?_
    exact L_iret rfl dL_tick_16 (Nat.le_of_eq (Nat.zero_add mc)) (Nat.le_of_eq (Nat.zero_add ms)) ⟨_, rfl, h0 x M1 q⟩
theorem w_send {p1 p2 : Int32} {Kf : Int32 → zM → Prop} (h : zCalIX l G Y_X8_send mc ms [vr 0 0, vi p1, vi p2] M.1 Kf KX) (h0 : ∀ x M1, Kf x M1 → K 0 (M1, x.toInt64, M.2.2)) (hX : ∀ X M1, KX X M1 → (X = IOE ∧ K 1 (M1, M.2)) ∨ (X = IAE ∧ K 2 (M1, M.2))) : lCal l G YL_send mc ms [vr 0 0, vi p1, vi p2, vr 50 0] M (fun r w => ∃ x : Int32, r = some (vi x) ∧ K x w) := by
  refine lCal_of (lv := [(0, vr 0 0), (1, vi p1), (2, vi p2), (3, vr 50 0)]) (by decide) (zle rfl) rfl (fun hv => zlv_args (lv := [(0, vr 0 0), (1, vi p1), (2, vi p2), (3, vr 50 0)]) rfl hv) ?_
  have hE : ∀ {mc ms : Nat} {K : lK}, zRm YL_send (lEM G YL_send mc ms K).1 := ⟨Nat.le_refl _, Nat.le_refl _⟩
  refine L_aload_n dL_send_0 rfl 3 rfl ?_
  refine L_iconst (v := 0) (by decide) dL_send_1 ?_
  refine L_aload_n dL_send_2 rfl 0 rfl ?_
  refine L_iload_n dL_send_3 rfl 1 rfl ?_
  refine L_iload_n dL_send_4 rfl 2 rfl ?_
  refine L_callW (as := [vi p1, vi p2]) (st := [vi 0, vr 50 0]) (mc' := mc) (ms' := ms) (KX := KX) hE zcv_YL_send_79 rfl rfl rfl rfl (zle rfl) dL_send_5 ⟨Nat.le_of_eq (Nat.zero_add mc), Nat.le_of_eq (Nat.zero_add ms)⟩ h (fun X M1 q => ?_) (fun r M1 q => ?_)
  · rcases hX X M1 q with ⟨rfl, q7⟩ | ⟨rfl, q7⟩
    · refine ⟨13, ⟨[], ⟨0, 10, 13, 19⟩, [⟨0, 10, 17, 13⟩], rfl, (fun z hz => by cases hz), by decide, by decide, zw_1336, List.mem_of_getElem? (i := 4) rfl, rfl⟩, fun a9 => ?_⟩
      refine L_astoreA (lv2 := [(4, va a9), (0, vr 0 0), (1, vi p1), (2, vi p2), (3, vr 50 0)]) dL_send_13 (by decide) rfl ?_
      refine L_iconst (v := 1) (by decide) dL_send_15 ?_
      exact L_iret rfl dL_send_16 (Nat.le_of_eq (Nat.zero_add mc)) (Nat.le_of_eq (Nat.zero_add ms)) ⟨_, rfl, q7⟩
    · refine ⟨17, ⟨[⟨0, 10, 13, 19⟩], ⟨0, 10, 17, 13⟩, [], rfl, (fun z hz => by rw [List.mem_singleton.mp hz]; exact ⟨by decide, zw_1336, rfl⟩), by decide, by decide, zw_1321, List.mem_of_getElem? (i := 3) rfl, rfl⟩, fun a9 => ?_⟩
      refine L_astoreA (lv2 := [(4, va a9), (0, vr 0 0), (1, vi p1), (2, vi p2), (3, vr 50 0)]) dL_send_17 (by decide) rfl ?_
      refine L_iconst (v := 2) (by decide) dL_send_19 ?_
      exact L_iret rfl dL_send_20 (Nat.le_of_eq (Nat.zero_add mc)) (Nat.le_of_eq (Nat.zero_add ms)) ⟨_, rfl, q7⟩
  · obtain ⟨x, rfl, q⟩ := q
    refine L_i2l dL_send_8 ?_
    refine L_last dL_send_9 ?_
    refine L_goto (tgt := 21) dL_send_10 (by decide) ?_
    refine L_iconst (v := 0) (by decide) dL_send_21 ?_
    exact L_iret rfl dL_send_22 (Nat.le_of_eq (Nat.zero_add mc)) (Nat.le_of_eq (Nat.zero_add ms)) ⟨_, rfl, h0 x M1 q⟩
theorem w_setLimits {p1 p2 : Int32} {Kf : Int32 → zM → Prop} (h : zCalIX l G Y_X8_setLimits mc ms [vr 0 0, vi p1, vi p2] M.1 Kf KX) (h0 : ∀ x M1, Kf x M1 → K 0 (M1, x.toInt64, M.2.2)) (hX : ∀ X M1, KX X M1 → (X = IAE ∧ K 1 (M1, M.2))) : lCal l G YL_setLimits mc ms [vr 0 0, vi p1, vi p2, vr 50 0] M (fun r w => ∃ x : Int32, r = some (vi x) ∧ K x w) := by
  refine lCal_of (lv := [(0, vr 0 0), (1, vi p1), (2, vi p2), (3, vr 50 0)]) (by decide) (zle rfl) rfl (fun hv => zlv_args (lv := [(0, vr 0 0), (1, vi p1), (2, vi p2), (3, vr 50 0)]) rfl hv) ?_
  have hE : ∀ {mc ms : Nat} {K : lK}, zRm YL_setLimits (lEM G YL_setLimits mc ms K).1 := ⟨Nat.le_refl _, Nat.le_refl _⟩
  refine L_aload_n dL_setLimits_0 rfl 3 rfl ?_
  refine L_iconst (v := 0) (by decide) dL_setLimits_1 ?_
  refine L_aload_n dL_setLimits_2 rfl 0 rfl ?_
  refine L_iload_n dL_setLimits_3 rfl 1 rfl ?_
  refine L_iload_n dL_setLimits_4 rfl 2 rfl ?_
  refine L_callW (as := [vi p1, vi p2]) (st := [vi 0, vr 50 0]) (mc' := mc) (ms' := ms) (KX := KX) hE zcv_YL_setLimits_82 rfl rfl rfl rfl (zle rfl) dL_setLimits_5 ⟨Nat.le_of_eq (Nat.zero_add mc), Nat.le_of_eq (Nat.zero_add ms)⟩ h (fun X M1 q => ?_) (fun r M1 q => ?_)
  · obtain ⟨rfl, q7⟩ := hX X M1 q
    refine ⟨13, ⟨[], ⟨0, 10, 13, 13⟩, [], rfl, (fun z hz => by cases hz), by decide, by decide, zw_1321, List.mem_of_getElem? (i := 3) rfl, rfl⟩, fun a9 => ?_⟩
    refine L_astoreA (lv2 := [(4, va a9), (0, vr 0 0), (1, vi p1), (2, vi p2), (3, vr 50 0)]) dL_setLimits_13 (by decide) rfl ?_
    refine L_iconst (v := 1) (by decide) dL_setLimits_15 ?_
    exact L_iret rfl dL_setLimits_16 (Nat.le_of_eq (Nat.zero_add mc)) (Nat.le_of_eq (Nat.zero_add ms)) ⟨_, rfl, q7⟩
  · obtain ⟨x, rfl, q⟩ := q
    refine L_i2l dL_setLimits_8 ?_
    refine L_last dL_setLimits_9 ?_
    refine L_goto (tgt := 17) dL_setLimits_10 (by decide) ?_
    refine L_iconst (v := 0) (by decide) dL_setLimits_17 ?_
    exact L_iret rfl dL_setLimits_18 (Nat.le_of_eq (Nat.zero_add mc)) (Nat.le_of_eq (Nat.zero_add ms)) ⟨_, rfl, h0 x M1 q⟩
theorem w_setTop {p1 : Int32} {Kf : Int32 → zM → Prop} (h : zCalIX l G Y_X8_setTop mc ms [vr 0 0, vi p1] M.1 Kf KX) (h0 : ∀ x M1, Kf x M1 → K 0 (M1, x.toInt64, M.2.2)) (hX : ∀ X M1, KX X M1 → (X = IAE ∧ K 1 (M1, M.2))) : lCal l G YL_setTop mc ms [vr 0 0, vi p1, vr 50 0] M (fun r w => ∃ x : Int32, r = some (vi x) ∧ K x w) := by
  refine lCal_of (lv := [(0, vr 0 0), (1, vi p1), (2, vr 50 0)]) (by decide) (zle rfl) rfl (fun hv => zlv_args (lv := [(0, vr 0 0), (1, vi p1), (2, vr 50 0)]) rfl hv) ?_
  have hE : ∀ {mc ms : Nat} {K : lK}, zRm YL_setTop (lEM G YL_setTop mc ms K).1 := ⟨Nat.le_refl _, Nat.le_refl _⟩
  refine L_aload_n dL_setTop_0 rfl 2 rfl ?_
  refine L_iconst (v := 0) (by decide) dL_setTop_1 ?_
  refine L_aload_n dL_setTop_2 rfl 0 rfl ?_
  refine L_iload_n dL_setTop_3 rfl 1 rfl ?_
  refine L_callW (as := [vi p1]) (st := [vi 0, vr 50 0]) (mc' := mc) (ms' := ms) (KX := KX) hE zcv_YL_setTop_85 rfl rfl rfl rfl (zle rfl) dL_setTop_4 ⟨Nat.le_of_eq (Nat.zero_add mc), Nat.le_of_eq (Nat.zero_add ms)⟩ h (fun X M1 q => ?_) (fun r M1 q => ?_)
  · obtain ⟨rfl, q7⟩ := hX X M1 q
    refine ⟨12, ⟨[], ⟨0, 9, 12, 13⟩, [], rfl, (fun z hz => by cases hz), by decide, by decide, zw_1321, List.mem_of_getElem? (i := 3) rfl, rfl⟩, fun a9 => ?_⟩
    refine L_astoreA_n (lv2 := [(3, va a9), (0, vr 0 0), (1, vi p1), (2, vr 50 0)]) dL_setTop_12 rfl (by decide) rfl ?_
    refine L_iconst (v := 1) (by decide) dL_setTop_13 ?_
    exact L_iret rfl dL_setTop_14 (Nat.le_of_eq (Nat.zero_add mc)) (Nat.le_of_eq (Nat.zero_add ms)) ⟨_, rfl, q7⟩
  · obtain ⟨x, rfl, q⟩ := q
    refine L_i2l dL_setTop_7 ?_
    refine L_last dL_setTop_8 ?_
    refine L_goto (tgt := 15) dL_setTop_9 (by decide) ?_
    refine L_iconst (v := 0) (by decide) dL_setTop_15 ?_
    exact L_iret rfl dL_setTop_16 (Nat.le_of_eq (Nat.zero_add mc)) (Nat.le_of_eq (Nat.zero_add ms)) ⟨_, rfl, h0 x M1 q⟩
theorem w_setWeight {p1 : Int32} {Kf : Int32 → zM → Prop} (h : zCalIX l G Y_X8_setWeight mc ms [vr 0 0, vi p1] M.1 Kf KX) (h0 : ∀ x M1, Kf x M1 → K 0 (M1, x.toInt64, M.2.2)) (hX : ∀ X M1, KX X M1 → (X = IAE ∧ K 1 (M1, M.2))) : lCal l G YL_setWeight mc ms [vr 0 0, vi p1, vr 50 0] M (fun r w => ∃ x : Int32, r = some (vi x) ∧ K x w) := by
  refine lCal_of (lv := [(0, vr 0 0), (1, vi p1), (2, vr 50 0)]) (by decide) (zle rfl) rfl (fun hv => zlv_args (lv := [(0, vr 0 0), (1, vi p1), (2, vr 50 0)]) rfl hv) ?_
  have hE : ∀ {mc ms : Nat} {K : lK}, zRm YL_setWeight (lEM G YL_setWeight mc ms K).1 := ⟨Nat.le_refl _, Nat.le_refl _⟩
  refine L_aload_n dL_setWeight_0 rfl 2 rfl ?_
  refine L_iconst (v := 0) (by decide) dL_setWeight_1 ?_
  refine L_aload_n dL_setWeight_2 rfl 0 rfl ?_
  refine L_iload_n dL_setWeight_3 rfl 1 rfl ?_
  refine L_callW (as := [vi p1]) (st := [vi 0, vr 50 0]) (mc' := mc) (ms' := ms) (KX := KX) hE zcv_YL_setWeight_88 rfl rfl rfl rfl (zle rfl) dL_setWeight_4 ⟨Nat.le_of_eq (Nat.zero_add mc), Nat.le_of_eq (Nat.zero_add ms)⟩ h (fun X M1 q => ?_) (fun r M1 q => ?_)
  · obtain ⟨rfl, q7⟩ := hX X M1 q
    refine ⟨12, ⟨[], ⟨0, 9, 12, 13⟩, [], rfl, (fun z hz => by cases hz), by decide, by decide, zw_1321, List.mem_of_getElem? (i := 3) rfl, rfl⟩, fun a9 => ?_⟩
    refine L_astoreA_n (lv2 := [(3, va a9), (0, vr 0 0), (1, vi p1), (2, vr 50 0)]) dL_setWeight_12 rfl (by decide) rfl ?_
    refine L_iconst (v := 1) (by decide) dL_setWeight_13 ?_
    exact L_iret rfl dL_setWeight_14 (Nat.le_of_eq (Nat.zero_add mc)) (Nat.le_of_eq (Nat.zero_add ms)) ⟨_, rfl, q7⟩
  · obtain ⟨x, rfl, q⟩ := q
    refine L_i2l dL_setWeight_7 ?_
    refine L_last dL_setWeight_8 ?_
    refine L_goto (tgt := 15) dL_setWeight_9 (by decide) ?_
    refine L_iconst (v := 0) (by decide) dL_setWeight_15 ?_
    exact L_iret rfl dL_setWeight_16 (Nat.le_of_eq (Nat.zero_add mc)) (Nat.le_of_eq (Nat.zero_add ms)) ⟨_, rfl, h0 x M1 q⟩
theorem w_setGentle {p1 : Int32} {Kf : Int32 → zM → Prop} (h : zCalIX l G Y_X8_setGentle mc ms [vr 0 0, vi p1] M.1 Kf KX) (h0 : ∀ x M1, Kf x M1 → K 0 (M1, x.toInt64, M.2.2)) (hX : ∀ X M1, KX X M1 → (X = IAE ∧ K 1 (M1, M.2))) : lCal l G YL_setGentle mc ms [vr 0 0, vi p1, vr 50 0] M (fun r w => ∃ x : Int32, r = some (vi x) ∧ K x w) := by
  refine lCal_of (lv := [(0, vr 0 0), (1, vi p1), (2, vr 50 0)]) (by decide) (zle rfl) rfl (fun hv => zlv_args (lv := [(0, vr 0 0), (1, vi p1), (2, vr 50 0)]) rfl hv) ?_
  have hE : ∀ {mc ms : Nat} {K : lK}, zRm YL_setGentle (lEM G YL_setGentle mc ms K).1 := ⟨Nat.le_refl _, Nat.le_refl _⟩
  refine L_aload_n dL_setGentle_0 rfl 2 rfl ?_
  refine L_iconst (v := 0) (by decide) dL_setGentle_1 ?_
  refine L_aload_n dL_setGentle_2 rfl 0 rfl ?_
  refine L_iload_n dL_setGentle_3 rfl 1 rfl ?_
  refine L_callW (as := [vi p1]) (st := [vi 0, vr 50 0]) (mc' := mc) (ms' := ms) (KX := KX) hE zcv_YL_setGentle_91 rfl rfl rfl rfl (zle rfl) dL_setGentle_4 ⟨Nat.le_of_eq (Nat.zero_add mc), Nat.le_of_eq (Nat.zero_add ms)⟩ h (fun X M1 q => ?_) (fun r M1 q => ?_)
  · obtain ⟨rfl, q7⟩ := hX X M1 q
    refine ⟨12, ⟨[], ⟨0, 9, 12, 13⟩, [], rfl, (fun z hz => by cases hz), by decide, by decide, zw_1321, List.mem_of_getElem? (i := 3) rfl, rfl⟩, fun a9 => ?_⟩
    refine L_astoreA_n (lv2 := [(3, va a9), (0, vr 0 0), (1, vi p1), (2, vr 50 0)]) dL_setGentle_12 rfl (by decide) rfl ?_
    refine L_iconst (v := 1) (by decide) dL_setGentle_13 ?_
    exact L_iret rfl dL_setGentle_14 (Nat.le_of_eq (Nat.zero_add mc)) (Nat.le_of_eq (Nat.zero_add ms)) ⟨_, rfl, q7⟩
  · obtain ⟨x, rfl, q⟩ := q
    refine L_i2l dL_setGentle_7 ?_
    refine L_last dL_setGentle_8 ?_
    refine L_goto (tgt := 15) dL_setGentle_9 (by decide) ?_
    refine L_iconst (v := 0) (by decide) dL_setGentle_15 ?_
    exact L_iret rfl dL_setGentle_16 (Nat.le_of_eq (Nat.zero_add mc)) (Nat.le_of_eq (Nat.zero_add ms)) ⟨_, rfl, h0 x M1 q⟩
theorem w_setOn {p1 p2 : Int32} {Kf : Int32 → zM → Prop} (h : zCalIX l G Y_X8_setOn mc ms [vr 0 0, vi p1, vi p2] M.1 Kf KX) (h0 : ∀ x M1, Kf x M1 → K 0 (M1, x.toInt64, M.2.2)) (hX : ∀ X M1, KX X M1 → (X = IOE ∧ K 1 (M1, M.2))) : lCal l G YL_setOn mc ms [vr 0 0, vi p1, vi p2, vr 50 0] M (fun r w => ∃ x : Int32, r = some (vi x) ∧ K x w) := by
  refine lCal_of (lv := [(0, vr 0 0), (1, vi p1), (2, vi p2), (3, vr 50 0)]) (by decide) (zle rfl) rfl (fun hv => zlv_args (lv := [(0, vr 0 0), (1, vi p1), (2, vi p2), (3, vr 50 0)]) rfl hv) ?_
  have hE : ∀ {mc ms : Nat} {K : lK}, zRm YL_setOn (lEM G YL_setOn mc ms K).1 := ⟨Nat.le_refl _, Nat.le_refl _⟩
  refine L_aload_n dL_setOn_0 rfl 3 rfl ?_
  refine L_iconst (v := 0) (by decide) dL_setOn_1 ?_
  refine L_aload_n dL_setOn_2 rfl 0 rfl ?_
  refine L_iload_n dL_setOn_3 rfl 1 rfl ?_
  refine L_iload_n dL_setOn_4 rfl 2 rfl ?_
  refine L_callW (as := [vi p1, vi p2]) (st := [vi 0, vr 50 0]) (mc' := mc) (ms' := ms) (KX := KX) hE zcv_YL_setOn_94 rfl rfl rfl rfl (zle rfl) dL_setOn_5 ⟨Nat.le_of_eq (Nat.zero_add mc), Nat.le_of_eq (Nat.zero_add ms)⟩ h (fun X M1 q => ?_) (fun r M1 q => ?_)
  · obtain ⟨rfl, q7⟩ := hX X M1 q
    refine ⟨13, ⟨[], ⟨0, 10, 13, 19⟩, [], rfl, (fun z hz => by cases hz), by decide, by decide, zw_1336, List.mem_of_getElem? (i := 4) rfl, rfl⟩, fun a9 => ?_⟩
    refine L_astoreA (lv2 := [(4, va a9), (0, vr 0 0), (1, vi p1), (2, vi p2), (3, vr 50 0)]) dL_setOn_13 (by decide) rfl ?_
    refine L_iconst (v := 1) (by decide) dL_setOn_15 ?_
    exact L_iret rfl dL_setOn_16 (Nat.le_of_eq (Nat.zero_add mc)) (Nat.le_of_eq (Nat.zero_add ms)) ⟨_, rfl, q7⟩
  · obtain ⟨x, rfl, q⟩ := q
    refine L_i2l dL_setOn_8 ?_
    refine L_last dL_setOn_9 ?_
    refine L_goto (tgt := 17) dL_setOn_10 (by decide) ?_
    refine L_iconst (v := 0) (by decide) dL_setOn_17 ?_
    exact L_iret rfl dL_setOn_18 (Nat.le_of_eq (Nat.zero_add mc)) (Nat.le_of_eq (Nat.zero_add ms)) ⟨_, rfl, h0 x M1 q⟩
theorem w_save {p1 : Int32} {Kf : Int32 → zM → Prop} (h : zCalIX l G Y_X8_save mc ms [vr 0 0, vi p1] M.1 Kf KX) (h0 : ∀ x M1, Kf x M1 → K 0 (M1, x.toInt64, M.2.2)) (hX : ∀ X M1, KX X M1 → (X = IAE ∧ K 1 (M1, M.2))) : lCal l G YL_save mc ms [vr 0 0, vi p1, vr 50 0] M (fun r w => ∃ x : Int32, r = some (vi x) ∧ K x w) := by
  refine lCal_of (lv := [(0, vr 0 0), (1, vi p1), (2, vr 50 0)]) (by decide) (zle rfl) rfl (fun hv => zlv_args (lv := [(0, vr 0 0), (1, vi p1), (2, vr 50 0)]) rfl hv) ?_
  have hE : ∀ {mc ms : Nat} {K : lK}, zRm YL_save (lEM G YL_save mc ms K).1 := ⟨Nat.le_refl _, Nat.le_refl _⟩
  refine L_aload_n dL_save_0 rfl 2 rfl ?_
  refine L_iconst (v := 0) (by decide) dL_save_1 ?_
  refine L_aload_n dL_save_2 rfl 0 rfl ?_
  refine L_iload_n dL_save_3 rfl 1 rfl ?_
  refine L_callW (as := [vi p1]) (st := [vi 0, vr 50 0]) (mc' := mc) (ms' := ms) (KX := KX) hE zcv_YL_save_98 rfl rfl rfl rfl (zle rfl) dL_save_4 ⟨Nat.le_of_eq (Nat.zero_add mc), Nat.le_of_eq (Nat.zero_add ms)⟩ h (fun X M1 q => ?_) (fun r M1 q => ?_)
  · obtain ⟨rfl, q7⟩ := hX X M1 q
    refine ⟨12, ⟨[], ⟨0, 9, 12, 13⟩, [], rfl, (fun z hz => by cases hz), by decide, by decide, zw_1321, List.mem_of_getElem? (i := 3) rfl, rfl⟩, fun a9 => ?_⟩
    refine L_astoreA_n (lv2 := [(3, va a9), (0, vr 0 0), (1, vi p1), (2, vr 50 0)]) dL_save_12 rfl (by decide) rfl ?_
    refine L_iconst (v := 1) (by decide) dL_save_13 ?_
    exact L_iret rfl dL_save_14 (Nat.le_of_eq (Nat.zero_add mc)) (Nat.le_of_eq (Nat.zero_add ms)) ⟨_, rfl, q7⟩
  · obtain ⟨x, rfl, q⟩ := q
    refine L_i2l dL_save_7 ?_
    refine L_last dL_save_8 ?_
    refine L_goto (tgt := 15) dL_save_9 (by decide) ?_
    refine L_iconst (v := 0) (by decide) dL_save_15 ?_
    exact L_iret rfl dL_save_16 (Nat.le_of_eq (Nat.zero_add mc)) (Nat.le_of_eq (Nat.zero_add ms)) ⟨_, rfl, h0 x M1 q⟩
theorem w_restore {p1 : Int32} {Kf : Int32 → zM → Prop} (h : zCalIX l G Y_X8_restore mc ms [vr 0 0, vi p1] M.1 Kf KX) (h0 : ∀ x M1, Kf x M1 → K 0 (M1, x.toInt64, M.2.2)) (hX : ∀ X M1, KX X M1 → (X = IAE ∧ K 1 (M1, M.2))) : lCal l G YL_restore mc ms [vr 0 0, vi p1, vr 50 0] M (fun r w => ∃ x : Int32, r = some (vi x) ∧ K x w) := by
  refine lCal_of (lv := [(0, vr 0 0), (1, vi p1), (2, vr 50 0)]) (by decide) (zle rfl) rfl (fun hv => zlv_args (lv := [(0, vr 0 0), (1, vi p1), (2, vr 50 0)]) rfl hv) ?_
  have hE : ∀ {mc ms : Nat} {K : lK}, zRm YL_restore (lEM G YL_restore mc ms K).1 := ⟨Nat.le_refl _, Nat.le_refl _⟩
  refine L_aload_n dL_restore_0 rfl 2 rfl ?_
  refine L_iconst (v := 0) (by decide) dL_restore_1 ?_
  refine L_aload_n dL_restore_2 rfl 0 rfl ?_
  refine L_iload_n dL_restore_3 rfl 1 rfl ?_
  refine L_callW (as := [vi p1]) (st := [vi 0, vr 50 0]) (mc' := mc) (ms' := ms) (KX := KX) hE zcv_YL_restore_101 rfl rfl rfl rfl (zle rfl) dL_restore_4 ⟨Nat.le_of_eq (Nat.zero_add mc), Nat.le_of_eq (Nat.zero_add ms)⟩ h (fun X M1 q => ?_) (fun r M1 q => ?_)
  · obtain ⟨rfl, q7⟩ := hX X M1 q
    refine ⟨12, ⟨[], ⟨0, 9, 12, 13⟩, [], rfl, (fun z hz => by cases hz), by decide, by decide, zw_1321, List.mem_of_getElem? (i := 3) rfl, rfl⟩, fun a9 => ?_⟩
    refine L_astoreA_n (lv2 := [(3, va a9), (0, vr 0 0), (1, vi p1), (2, vr 50 0)]) dL_restore_12 rfl (by decide) rfl ?_
    refine L_iconst (v := 1) (by decide) dL_restore_13 ?_
    exact L_iret rfl dL_restore_14 (Nat.le_of_eq (Nat.zero_add mc)) (Nat.le_of_eq (Nat.zero_add ms)) ⟨_, rfl, q7⟩
  · obtain ⟨x, rfl, q⟩ := q
    refine L_i2l dL_restore_7 ?_
    refine L_last dL_restore_8 ?_
    refine L_goto (tgt := 15) dL_restore_9 (by decide) ?_
    refine L_iconst (v := 0) (by decide) dL_restore_15 ?_
    exact L_iret rfl dL_restore_16 (Nat.le_of_eq (Nat.zero_add mc)) (Nat.le_of_eq (Nat.zero_add ms)) ⟨_, rfl, h0 x M1 q⟩
end LW
