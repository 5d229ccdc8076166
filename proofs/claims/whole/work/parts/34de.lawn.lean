theorem dL_law_1339 : decode cL_law 1339 = .ok (.iadd, 1) := by decide +kernel
theorem dL_law_1340 : decode cL_law 1340 = .ok (.iaload, 1) := by decide +kernel
theorem dL_law_1341 : decode cL_law 1341 = .ok (.aload_n 0, 1) := by decide +kernel
theorem dL_law_1342 : decode cL_law 1342 = .ok (.iload 4, 2) := by decide +kernel
theorem dL_law_1344 : decode cL_law 1344 = .ok (.iconst 2, 1) := by decide +kernel
theorem dL_law_1345 : decode cL_law 1345 = .ok (.iadd, 1) := by decide +kernel
theorem dL_law_1346 : decode cL_law 1346 = .ok (.iaload, 1) := by decide +kernel
theorem dL_law_1347 : decode cL_law 1347 = .ok (.ifCond .eq 7, 3) := by decide +kernel
theorem dL_law_1350 : decode cL_law 1350 = .ok (.iconst 1, 1) := by decide +kernel
theorem dL_law_1351 : decode cL_law 1351 = .ok (.goto 4, 3) := by decide +kernel
theorem dL_law_1354 : decode cL_law 1354 = .ok (.iconst 0, 1) := by decide +kernel
theorem dL_law_1355 : decode cL_law 1355 = .ok (.invokevirtual 161, 3) := by decide +kernel
set_option maxRecDepth 20000 in
theorem vl_L_161 : VL RL 161 12 mX12_choose 2 := ⟨⟨qc_X12_choose, (gtb_in (List.mem_of_getElem? (i := 2724) (by decide +kernel)) (by decide +kernel)), qi_X12_choose, qs_X12_choose, zw_12⟩, ⟨_, _, rfl⟩, by decide, qd_X12_choose, by decide⟩
theorem dL_law_1358 : decode cL_law 1358 = .ok (.istore 6, 2) := by decide +kernel
theorem dL_law_1360 : decode cL_law 1360 = .ok (.aload_n 2, 1) := by decide +kernel
theorem dL_law_1361 : decode cL_law 1361 = .ok (.invokevirtual 98, 3) := by decide +kernel
theorem dL_law_1364 : decode cL_law 1364 = .ok (.iload 5, 2) := by decide +kernel
theorem dL_law_1366 : decode cL_law 1366 = .ok (.if_icmp .eq 5, 3) := by decide +kernel
theorem dL_law_1369 : decode cL_law 1369 = .ok (.iconst 0, 1) := by decide +kernel
theorem dL_law_1370 : decode cL_law 1370 = .ok (.ireturn, 1) := by decide +kernel
theorem dL_law_1371 : decode cL_law 1371 = .ok (.iload 5, 2) := by decide +kernel
theorem dL_law_1373 : decode cL_law 1373 = .ok (.ifCond .ne 15, 3) := by decide +kernel
theorem dL_law_1376 : decode cL_law 1376 = .ok (.aload_n 3, 1) := by decide +kernel
theorem dL_law_1377 : decode cL_law 1377 = .ok (.iconst 0, 1) := by decide +kernel
theorem dL_law_1378 : decode cL_law 1378 = .ok (.laload, 1) := by decide +kernel
theorem dL_law_1379 : decode cL_law 1379 = .ok (.iload 6, 2) := by decide +kernel
theorem dL_law_1381 : decode cL_law 1381 = .ok (.i2l, 1) := by decide +kernel
theorem dL_law_1382 : decode cL_law 1382 = .ok (.lcmp, 1) := by decide +kernel
theorem dL_law_1383 : decode cL_law 1383 = .ok (.ifCond .eq 5, 3) := by decide +kernel
theorem dL_law_1386 : decode cL_law 1386 = .ok (.iconst 0, 1) := by decide +kernel
theorem dL_law_1387 : decode cL_law 1387 = .ok (.ireturn, 1) := by decide +kernel
theorem dL_law_1388 : decode cL_law 1388 = .ok (.goto 496, 3) := by decide +kernel
theorem dL_law_1391 : decode cL_law 1391 = .ok (.aload_n 1, 1) := by decide +kernel
theorem dL_law_1392 : decode cL_law 1392 = .ok (.aload_n 0, 1) := by decide +kernel
theorem dL_law_1393 : decode cL_law 1393 = .ok (.iload 4, 2) := by decide +kernel
theorem dL_law_1395 : decode cL_law 1395 = .ok (.iconst 1, 1) := by decide +kernel
theorem dL_law_1396 : decode cL_law 1396 = .ok (.iadd, 1) := by decide +kernel
theorem dL_law_1397 : decode cL_law 1397 = .ok (.iaload, 1) := by decide +kernel
theorem dL_law_1398 : decode cL_law 1398 = .ok (.aload_n 0, 1) := by decide +kernel
theorem dL_law_1399 : decode cL_law 1399 = .ok (.iload 4, 2) := by decide +kernel
theorem dL_law_1401 : decode cL_law 1401 = .ok (.iconst 2, 1) := by decide +kernel
theorem dL_law_1402 : decode cL_law 1402 = .ok (.iadd, 1) := by decide +kernel
theorem dL_law_1403 : decode cL_law 1403 = .ok (.iaload, 1) := by decide +kernel
theorem dL_law_1404 : decode cL_law 1404 = .ok (.invokevirtual 162, 3) := by decide +kernel
set_option maxRecDepth 20000 in
theorem vl_L_162 : VL RL 162 11 mX11_base 2 := ⟨⟨qc_X11_base, (gtb_in (List.mem_of_getElem? (i := 472) (by decide +kernel)) (by decide +kernel)), qi_X11_base, qs_X11_base, zw_11⟩, ⟨_, _, rfl⟩, by decide, qd_X11_base, by decide⟩
theorem dL_law_1407 : decode cL_law 1407 = .ok (.aload_n 2, 1) := by decide +kernel
theorem dL_law_1408 : decode cL_law 1408 = .ok (.aload_n 0, 1) := by decide +kernel
theorem dL_law_1409 : decode cL_law 1409 = .ok (.iload 4, 2) := by decide +kernel
theorem dL_law_1411 : decode cL_law 1411 = .ok (.iconst 1, 1) := by decide +kernel
theorem dL_law_1412 : decode cL_law 1412 = .ok (.iadd, 1) := by decide +kernel
theorem dL_law_1413 : decode cL_law 1413 = .ok (.iaload, 1) := by decide +kernel
theorem dL_law_1414 : decode cL_law 1414 = .ok (.aload_n 0, 1) := by decide +kernel
theorem dL_law_1415 : decode cL_law 1415 = .ok (.iload 4, 2) := by decide +kernel
theorem dL_law_1417 : decode cL_law 1417 = .ok (.iconst 2, 1) := by decide +kernel
theorem dL_law_1418 : decode cL_law 1418 = .ok (.iadd, 1) := by decide +kernel
theorem dL_law_1419 : decode cL_law 1419 = .ok (.iaload, 1) := by decide +kernel
theorem dL_law_1420 : decode cL_law 1420 = .ok (.invokevirtual 165, 3) := by decide +kernel
set_option maxRecDepth 20000 in
theorem vl_L_165 : VL RL 165 12 mX12_base 2 := ⟨⟨qc_X12_base, (gtb_in (List.mem_of_getElem? (i := 2650) (by decide +kernel)) (by decide +kernel)), qi_X12_base, qs_X12_base, zw_12⟩, ⟨_, _, rfl⟩, by decide, qd_X12_base, by decide⟩
theorem dL_law_1423 : decode cL_law 1423 = .ok (.if_icmp .eq 461, 3) := by decide +kernel
theorem dL_law_1426 : decode cL_law 1426 = .ok (.iconst 0, 1) := by decide +kernel
theorem dL_law_1427 : decode cL_law 1427 = .ok (.ireturn, 1) := by decide +kernel
theorem dL_law_1428 : decode cL_law 1428 = .ok (.aload_n 1, 1) := by decide +kernel
theorem dL_law_1429 : decode cL_law 1429 = .ok (.aload_n 0, 1) := by decide +kernel
theorem dL_law_1430 : decode cL_law 1430 = .ok (.iload 4, 2) := by decide +kernel
theorem dL_law_1432 : decode cL_law 1432 = .ok (.iconst 1, 1) := by decide +kernel
theorem dL_law_1433 : decode cL_law 1433 = .ok (.iadd, 1) := by decide +kernel
theorem dL_law_1434 : decode cL_law 1434 = .ok (.iaload, 1) := by decide +kernel
theorem dL_law_1435 : decode cL_law 1435 = .ok (.aload_n 0, 1) := by decide +kernel
theorem dL_law_1436 : decode cL_law 1436 = .ok (.iload 4, 2) := by decide +kernel
theorem dL_law_1438 : decode cL_law 1438 = .ok (.iconst 2, 1) := by decide +kernel
theorem dL_law_1439 : decode cL_law 1439 = .ok (.iadd, 1) := by decide +kernel
theorem dL_law_1440 : decode cL_law 1440 = .ok (.iaload, 1) := by decide +kernel
theorem dL_law_1441 : decode cL_law 1441 = .ok (.aload_n 3, 1) := by decide +kernel
theorem dL_law_1442 : decode cL_law 1442 = .ok (.invokestatic 166, 3) := by decide +kernel
set_option maxRecDepth 20000 in
theorem hl_L_166 : HL RL 166 mL_diff 4 := ⟨⟨(gtb_in (List.mem_of_getElem? (i := 1597) (by decide +kernel)) (by decide +kernel)), (gtb_in (List.mem_of_getElem? (i := 1595) (by decide +kernel)) (by decide +kernel)), (gtb_in (List.mem_of_getElem? (i := 1596) (by decide +kernel)) (by decide +kernel)), zw_L⟩, qd_L_diff, by decide⟩
theorem dL_law_1445 : decode cL_law 1445 = .ok (.istore 5, 2) := by decide +kernel
theorem dL_law_1447 : decode cL_law 1447 = .ok (.aload_n 2, 1) := by decide +kernel
theorem dL_law_1448 : decode cL_law 1448 = .ok (.aload_n 0, 1) := by decide +kernel
theorem dL_law_1449 : decode cL_law 1449 = .ok (.iload 4, 2) := by decide +kernel
theorem dL_law_1451 : decode cL_law 1451 = .ok (.iconst 1, 1) := by decide +kernel
theorem dL_law_1452 : decode cL_law 1452 = .ok (.iadd, 1) := by decide +kernel
theorem dL_law_1453 : decode cL_law 1453 = .ok (.iaload, 1) := by decide +kernel
theorem dL_law_1454 : decode cL_law 1454 = .ok (.aload_n 0, 1) := by decide +kernel
theorem dL_law_1455 : decode cL_law 1455 = .ok (.iload 4, 2) := by decide +kernel
theorem dL_law_1457 : decode cL_law 1457 = .ok (.iconst 2, 1) := by decide +kernel
theorem dL_law_1458 : decode cL_law 1458 = .ok (.iadd, 1) := by decide +kernel
theorem dL_law_1459 : decode cL_law 1459 = .ok (.iaload, 1) := by decide +kernel
theorem dL_law_1460 : decode cL_law 1460 = .ok (.invokevirtual 168, 3) := by decide +kernel
set_option maxRecDepth 20000 in
theorem vl_L_168 : VL RL 168 12 mX12_diff 2 := ⟨⟨qc_X12_diff, (gtb_in (List.mem_of_getElem? (i := 2728) (by decide +kernel)) (by decide +kernel)), qi_X12_diff, qs_X12_diff, zw_12⟩, ⟨_, _, rfl⟩, by decide, qd_X12_diff, by decide⟩
theorem dL_law_1463 : decode cL_law 1463 = .ok (.istore 6, 2) := by decide +kernel
theorem dL_law_1465 : decode cL_law 1465 = .ok (.aload_n 2, 1) := by decide +kernel
theorem dL_law_1466 : decode cL_law 1466 = .ok (.invokevirtual 98, 3) := by decide +kernel
theorem dL_law_1469 : decode cL_law 1469 = .ok (.iload 5, 2) := by decide +kernel
theorem dL_law_1471 : decode cL_law 1471 = .ok (.if_icmp .eq 5, 3) := by decide +kernel
theorem dL_law_1474 : decode cL_law 1474 = .ok (.iconst 0, 1) := by decide +kernel
theorem dL_law_1475 : decode cL_law 1475 = .ok (.ireturn, 1) := by decide +kernel
theorem dL_law_1476 : decode cL_law 1476 = .ok (.iload 5, 2) := by decide +kernel
theorem dL_law_1478 : decode cL_law 1478 = .ok (.ifCond .ne 15, 3) := by decide +kernel
theorem dL_law_1481 : decode cL_law 1481 = .ok (.aload_n 3, 1) := by decide +kernel
theorem dL_law_1482 : decode cL_law 1482 = .ok (.iconst 0, 1) := by decide +kernel
theorem dL_law_1483 : decode cL_law 1483 = .ok (.laload, 1) := by decide +kernel
theorem dL_law_1484 : decode cL_law 1484 = .ok (.iload 6, 2) := by decide +kernel
theorem dL_law_1486 : decode cL_law 1486 = .ok (.i2l, 1) := by decide +kernel
theorem dL_law_1487 : decode cL_law 1487 = .ok (.lcmp, 1) := by decide +kernel
theorem dL_law_1488 : decode cL_law 1488 = .ok (.ifCond .eq 5, 3) := by decide +kernel
theorem dL_law_1491 : decode cL_law 1491 = .ok (.iconst 0, 1) := by decide +kernel
theorem dL_law_1492 : decode cL_law 1492 = .ok (.ireturn, 1) := by decide +kernel
theorem dL_law_1493 : decode cL_law 1493 = .ok (.goto 391, 3) := by decide +kernel
theorem dL_law_1496 : decode cL_law 1496 = .ok (.aload_n 1, 1) := by decide +kernel
theorem dL_law_1497 : decode cL_law 1497 = .ok (.aload_n 0, 1) := by decide +kernel
theorem dL_law_1498 : decode cL_law 1498 = .ok (.iload 4, 2) := by decide +kernel
theorem dL_law_1500 : decode cL_law 1500 = .ok (.iconst 1, 1) := by decide +kernel
theorem dL_law_1501 : decode cL_law 1501 = .ok (.iadd, 1) := by decide +kernel
theorem dL_law_1502 : decode cL_law 1502 = .ok (.iaload, 1) := by decide +kernel
theorem dL_law_1503 : decode cL_law 1503 = .ok (.aload_n 0, 1) := by decide +kernel
theorem dL_law_1504 : decode cL_law 1504 = .ok (.iload 4, 2) := by decide +kernel
theorem dL_law_1506 : decode cL_law 1506 = .ok (.iconst 2, 1) := by decide +kernel
theorem dL_law_1507 : decode cL_law 1507 = .ok (.iadd, 1) := by decide +kernel
theorem dL_law_1508 : decode cL_law 1508 = .ok (.iaload, 1) := by decide +kernel
theorem dL_law_1509 : decode cL_law 1509 = .ok (.invokevirtual 169, 3) := by decide +kernel
set_option maxRecDepth 20000 in
theorem vl_L_169 : VL RL 169 11 mX11_difference 2 := ⟨⟨qc_X11_difference, (gtb_in (List.mem_of_getElem? (i := 487) (by decide +kernel)) (by decide +kernel)), qi_X11_difference, qs_X11_difference, zw_11⟩, ⟨_, _, rfl⟩, by decide, qd_X11_difference, by decide⟩
theorem dL_law_1512 : decode cL_law 1512 = .ok (.aload_n 2, 1) := by decide +kernel
theorem dL_law_1513 : decode cL_law 1513 = .ok (.aload_n 0, 1) := by decide +kernel
theorem dL_law_1514 : decode cL_law 1514 = .ok (.iload 4, 2) := by decide +kernel
theorem dL_law_1516 : decode cL_law 1516 = .ok (.iconst 1, 1) := by decide +kernel
theorem dL_law_1517 : decode cL_law 1517 = .ok (.iadd, 1) := by decide +kernel
theorem dL_law_1518 : decode cL_law 1518 = .ok (.iaload, 1) := by decide +kernel
theorem dL_law_1519 : decode cL_law 1519 = .ok (.aload_n 0, 1) := by decide +kernel
theorem dL_law_1520 : decode cL_law 1520 = .ok (.iload 4, 2) := by decide +kernel
theorem dL_law_1522 : decode cL_law 1522 = .ok (.iconst 2, 1) := by decide +kernel
theorem dL_law_1523 : decode cL_law 1523 = .ok (.iadd, 1) := by decide +kernel
theorem dL_law_1524 : decode cL_law 1524 = .ok (.iaload, 1) := by decide +kernel
theorem dL_law_1525 : decode cL_law 1525 = .ok (.invokevirtual 172, 3) := by decide +kernel
set_option maxRecDepth 20000 in
theorem vl_L_172 : VL RL 172 12 mX12_difference 2 := ⟨⟨qc_X12_difference, (gtb_in (List.mem_of_getElem? (i := 2740) (by decide +kernel)) (by decide +kernel)), qi_X12_difference, qs_X12_difference, zw_12⟩, ⟨_, _, rfl⟩, by decide, qd_X12_difference, by decide⟩
theorem dL_law_1528 : decode cL_law 1528 = .ok (.if_icmp .eq 356, 3) := by decide +kernel
theorem dL_law_1531 : decode cL_law 1531 = .ok (.iconst 0, 1) := by decide +kernel
theorem dL_law_1532 : decode cL_law 1532 = .ok (.ireturn, 1) := by decide +kernel
theorem dL_law_1533 : decode cL_law 1533 = .ok (.aload_n 1, 1) := by decide +kernel
theorem dL_law_1534 : decode cL_law 1534 = .ok (.aload_n 0, 1) := by decide +kernel
theorem dL_law_1535 : decode cL_law 1535 = .ok (.iload 4, 2) := by decide +kernel
theorem dL_law_1537 : decode cL_law 1537 = .ok (.iconst 1, 1) := by decide +kernel
theorem dL_law_1538 : decode cL_law 1538 = .ok (.iadd, 1) := by decide +kernel
theorem dL_law_1539 : decode cL_law 1539 = .ok (.iaload, 1) := by decide +kernel
theorem dL_law_1540 : decode cL_law 1540 = .ok (.aload_n 0, 1) := by decide +kernel
theorem dL_law_1541 : decode cL_law 1541 = .ok (.iload 4, 2) := by decide +kernel
theorem dL_law_1543 : decode cL_law 1543 = .ok (.iconst 2, 1) := by decide +kernel
theorem dL_law_1544 : decode cL_law 1544 = .ok (.iadd, 1) := by decide +kernel
theorem dL_law_1545 : decode cL_law 1545 = .ok (.iaload, 1) := by decide +kernel
theorem dL_law_1546 : decode cL_law 1546 = .ok (.aload_n 3, 1) := by decide +kernel
theorem dL_law_1547 : decode cL_law 1547 = .ok (.invokestatic 173, 3) := by decide +kernel
set_option maxRecDepth 20000 in
theorem hl_L_173 : HL RL 173 mL_blame 4 := ⟨⟨(gtb_in (List.mem_of_getElem? (i := 1618) (by decide +kernel)) (by decide +kernel)), (gtb_in (List.mem_of_getElem? (i := 1616) (by decide +kernel)) (by decide +kernel)), (gtb_in (List.mem_of_getElem? (i := 1617) (by decide +kernel)) (by decide +kernel)), zw_L⟩, qd_L_blame, by decide⟩
theorem dL_law_1550 : decode cL_law 1550 = .ok (.istore 5, 2) := by decide +kernel
theorem dL_law_1552 : decode cL_law 1552 = .ok (.aload_n 2, 1) := by decide +kernel
theorem dL_law_1553 : decode cL_law 1553 = .ok (.aload_n 0, 1) := by decide +kernel
theorem dL_law_1554 : decode cL_law 1554 = .ok (.iload 4, 2) := by decide +kernel
theorem dL_law_1556 : decode cL_law 1556 = .ok (.iconst 1, 1) := by decide +kernel
theorem dL_law_1557 : decode cL_law 1557 = .ok (.iadd, 1) := by decide +kernel
theorem dL_law_1558 : decode cL_law 1558 = .ok (.iaload, 1) := by decide +kernel
theorem dL_law_1559 : decode cL_law 1559 = .ok (.aload_n 0, 1) := by decide +kernel
theorem dL_law_1560 : decode cL_law 1560 = .ok (.iload 4, 2) := by decide +kernel
theorem dL_law_1562 : decode cL_law 1562 = .ok (.iconst 2, 1) := by decide +kernel
theorem dL_law_1563 : decode cL_law 1563 = .ok (.iadd, 1) := by decide +kernel
theorem dL_law_1564 : decode cL_law 1564 = .ok (.iaload, 1) := by decide +kernel
theorem dL_law_1565 : decode cL_law 1565 = .ok (.invokevirtual 175, 3) := by decide +kernel
set_option maxRecDepth 20000 in
theorem vl_L_175 : VL RL 175 12 mX12_blame 2 := ⟨⟨qc_X12_blame, (gtb_in (List.mem_of_getElem? (i := 2744) (by decide +kernel)) (by decide +kernel)), qi_X12_blame, qs_X12_blame, zw_12⟩, ⟨_, _, rfl⟩, by decide, qd_X12_blame, by decide⟩
theorem dL_law_1568 : decode cL_law 1568 = .ok (.istore 6, 2) := by decide +kernel
theorem dL_law_1570 : decode cL_law 1570 = .ok (.aload_n 2, 1) := by decide +kernel
theorem dL_law_1571 : decode cL_law 1571 = .ok (.invokevirtual 98, 3) := by decide +kernel
theorem dL_law_1574 : decode cL_law 1574 = .ok (.iload 5, 2) := by decide +kernel
theorem dL_law_1576 : decode cL_law 1576 = .ok (.if_icmp .eq 5, 3) := by decide +kernel
theorem dL_law_1579 : decode cL_law 1579 = .ok (.iconst 0, 1) := by decide +kernel
theorem dL_law_1580 : decode cL_law 1580 = .ok (.ireturn, 1) := by decide +kernel
theorem dL_law_1581 : decode cL_law 1581 = .ok (.iload 5, 2) := by decide +kernel
theorem dL_law_1583 : decode cL_law 1583 = .ok (.ifCond .ne 15, 3) := by decide +kernel
theorem dL_law_1586 : decode cL_law 1586 = .ok (.aload_n 3, 1) := by decide +kernel
theorem dL_law_1587 : decode cL_law 1587 = .ok (.iconst 0, 1) := by decide +kernel
theorem dL_law_1588 : decode cL_law 1588 = .ok (.laload, 1) := by decide +kernel
theorem dL_law_1589 : decode cL_law 1589 = .ok (.iload 6, 2) := by decide +kernel
theorem dL_law_1591 : decode cL_law 1591 = .ok (.i2l, 1) := by decide +kernel
theorem dL_law_1592 : decode cL_law 1592 = .ok (.lcmp, 1) := by decide +kernel
theorem dL_law_1593 : decode cL_law 1593 = .ok (.ifCond .eq 5, 3) := by decide +kernel
theorem dL_law_1596 : decode cL_law 1596 = .ok (.iconst 0, 1) := by decide +kernel
theorem dL_law_1597 : decode cL_law 1597 = .ok (.ireturn, 1) := by decide +kernel
theorem dL_law_1598 : decode cL_law 1598 = .ok (.goto 286, 3) := by decide +kernel
theorem dL_law_1601 : decode cL_law 1601 = .ok (.aload_n 1, 1) := by decide +kernel
theorem dL_law_1602 : decode cL_law 1602 = .ok (.aload_n 0, 1) := by decide +kernel
theorem dL_law_1603 : decode cL_law 1603 = .ok (.iload 4, 2) := by decide +kernel
theorem dL_law_1605 : decode cL_law 1605 = .ok (.iconst 1, 1) := by decide +kernel
theorem dL_law_1606 : decode cL_law 1606 = .ok (.iadd, 1) := by decide +kernel
theorem dL_law_1607 : decode cL_law 1607 = .ok (.iaload, 1) := by decide +kernel
theorem dL_law_1608 : decode cL_law 1608 = .ok (.aload_n 0, 1) := by decide +kernel
theorem dL_law_1609 : decode cL_law 1609 = .ok (.iload 4, 2) := by decide +kernel
theorem dL_law_1611 : decode cL_law 1611 = .ok (.iconst 2, 1) := by decide +kernel
theorem dL_law_1612 : decode cL_law 1612 = .ok (.iadd, 1) := by decide +kernel
theorem dL_law_1613 : decode cL_law 1613 = .ok (.iaload, 1) := by decide +kernel
theorem dL_law_1614 : decode cL_law 1614 = .ok (.invokevirtual 176, 3) := by decide +kernel
set_option maxRecDepth 20000 in
theorem vl_L_176 : VL RL 176 11 mX11_sheet 2 := ⟨⟨qc_X11_sheet, (gtb_in (List.mem_of_getElem? (i := 491) (by decide +kernel)) (by decide +kernel)), qi_X11_sheet, qs_X11_sheet, zw_11⟩, ⟨_, _, rfl⟩, by decide, qd_X11_sheet, by decide⟩
theorem dL_law_1617 : decode cL_law 1617 = .ok (.aload_n 2, 1) := by decide +kernel
theorem dL_law_1618 : decode cL_law 1618 = .ok (.aload_n 0, 1) := by decide +kernel
theorem dL_law_1619 : decode cL_law 1619 = .ok (.iload 4, 2) := by decide +kernel
theorem dL_law_1621 : decode cL_law 1621 = .ok (.iconst 1, 1) := by decide +kernel
theorem dL_law_1622 : decode cL_law 1622 = .ok (.iadd, 1) := by decide +kernel
theorem dL_law_1623 : decode cL_law 1623 = .ok (.iaload, 1) := by decide +kernel
theorem dL_law_1624 : decode cL_law 1624 = .ok (.aload_n 0, 1) := by decide +kernel
theorem dL_law_1625 : decode cL_law 1625 = .ok (.iload 4, 2) := by decide +kernel
theorem dL_law_1627 : decode cL_law 1627 = .ok (.iconst 2, 1) := by decide +kernel
theorem dL_law_1628 : decode cL_law 1628 = .ok (.iadd, 1) := by decide +kernel
theorem dL_law_1629 : decode cL_law 1629 = .ok (.iaload, 1) := by decide +kernel
theorem dL_law_1630 : decode cL_law 1630 = .ok (.invokevirtual 179, 3) := by decide +kernel
set_option maxRecDepth 20000 in
theorem vl_L_179 : VL RL 179 12 mX12_sheet 2 := ⟨⟨qc_X12_sheet, (gtb_in (List.mem_of_getElem? (i := 2752) (by decide +kernel)) (by decide +kernel)), qi_X12_sheet, qs_X12_sheet, zw_12⟩, ⟨_, _, rfl⟩, by decide, qd_X12_sheet, by decide⟩
theorem dL_law_1633 : decode cL_law 1633 = .ok (.if_icmp .eq 251, 3) := by decide +kernel
