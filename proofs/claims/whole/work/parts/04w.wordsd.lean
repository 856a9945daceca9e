theorem w_1348 : Cond.fieldLink RX11 186 "PenSwingsModel" "newTold" "I" ∈ gT := gT_in (List.mem_of_getElem? (i := 1348) (by decide +kernel)) rfl
theorem w_1349 : Cond.fieldLink RX11 199 "PenSwingsModel" "newCarts" "I" ∈ gT := gT_in (List.mem_of_getElem? (i := 1349) (by decide +kernel)) rfl
theorem w_1350 : Cond.fieldLink RX11 205 "PenSwingsModel" "hasPennies" "Z" ∈ gT := gT_in (List.mem_of_getElem? (i := 1350) (by decide +kernel)) rfl
theorem w_1351 : Cond.fieldLink RX11 35 "PenSwingsModel" "newKind" "[I" ∈ gT := gT_in (List.mem_of_getElem? (i := 1351) (by decide +kernel)) rfl
theorem w_1352 : Cond.fieldLink RX11 38 "PenSwingsModel" "newLength" "[I" ∈ gT := gT_in (List.mem_of_getElem? (i := 1352) (by decide +kernel)) rfl
theorem w_1353 : Cond.fieldLink RX11 41 "PenSwingsModel" "newLoss" "[I" ∈ gT := gT_in (List.mem_of_getElem? (i := 1353) (by decide +kernel)) rfl
theorem w_1354 : Cond.fieldLink RX11 44 "PenSwingsModel" "newSets" "[I" ∈ gT := gT_in (List.mem_of_getElem? (i := 1354) (by decide +kernel)) rfl
theorem w_1355 : Cond.fieldLink RX11 47 "PenSwingsModel" "newCart" "[I" ∈ gT := gT_in (List.mem_of_getElem? (i := 1355) (by decide +kernel)) rfl
theorem w_1356 : Cond.fieldLink RX11 50 "PenSwingsModel" "marks" "[I" ∈ gT := gT_in (List.mem_of_getElem? (i := 1356) (by decide +kernel)) rfl
theorem w_1357 : Cond.fieldLink RX11 226 "PenSwingsModel" "portraits" "I" ∈ gT := gT_in (List.mem_of_getElem? (i := 1357) (by decide +kernel)) rfl
theorem w_1358 : Cond.fieldLink RX11 53 "PenSwingsModel" "portrait" "[I" ∈ gT := gT_in (List.mem_of_getElem? (i := 1358) (by decide +kernel)) rfl
theorem w_1359 : Cond.fieldLink RX11 56 "PenSwingsModel" "head" "[I" ∈ gT := gT_in (List.mem_of_getElem? (i := 1359) (by decide +kernel)) rfl
theorem w_1360 : Cond.fieldLink RX11 229 "PenSwingsModel" "points" "I" ∈ gT := gT_in (List.mem_of_getElem? (i := 1360) (by decide +kernel)) rfl
theorem w_1361 : Cond.fieldLink RX11 59 "PenSwingsModel" "point" "[I" ∈ gT := gT_in (List.mem_of_getElem? (i := 1361) (by decide +kernel)) rfl
theorem w_1362 : Cond.fieldLink RX11 62 "PenSwingsModel" "trying" "[I" ∈ gT := gT_in (List.mem_of_getElem? (i := 1362) (by decide +kernel)) rfl
theorem w_1363 : Cond.fieldLink RX11 232 "PenSwingsModel" "birthdays" "I" ∈ gT := gT_in (List.mem_of_getElem? (i := 1363) (by decide +kernel)) rfl
theorem w_1364 : Cond.fieldLink RX11 65 "PenSwingsModel" "birthday" "[I" ∈ gT := gT_in (List.mem_of_getElem? (i := 1364) (by decide +kernel)) rfl
theorem w_1365 : Cond.fieldLink RX11 68 "PenSwingsModel" "order" "[I" ∈ gT := gT_in (List.mem_of_getElem? (i := 1365) (by decide +kernel)) rfl
theorem w_1366 : Cond.fieldLink RX11 71 "PenSwingsModel" "evening" "[I" ∈ gT := gT_in (List.mem_of_getElem? (i := 1366) (by decide +kernel)) rfl
theorem w_1367 : Cond.fieldLink RX11 74 "PenSwingsModel" "evenLong" "I" ∈ gT := gT_in (List.mem_of_getElem? (i := 1367) (by decide +kernel)) rfl
theorem w_1368 : Cond.fieldLink RX11 322 "PenSwingsModel" "tea" "I" ∈ gT := gT_in (List.mem_of_getElem? (i := 1368) (by decide +kernel)) rfl
theorem w_1369 : Cond.fieldLink RX11 77 "PenSwingsModel" "code" "[I" ∈ gT := gT_in (List.mem_of_getElem? (i := 1369) (by decide +kernel)) rfl
theorem w_1370 : Cond.fieldLink RX11 80 "PenSwingsModel" "newCode" "[I" ∈ gT := gT_in (List.mem_of_getElem? (i := 1370) (by decide +kernel)) rfl
theorem w_1371 : Cond.fieldLink RX11 83 "PenSwingsModel" "openKind" "[I" ∈ gT := gT_in (List.mem_of_getElem? (i := 1371) (by decide +kernel)) rfl
theorem w_1372 : Cond.fieldLink RX11 86 "PenSwingsModel" "openAt" "[I" ∈ gT := gT_in (List.mem_of_getElem? (i := 1372) (by decide +kernel)) rfl
theorem w_1373 : Cond.fieldLink RX11 89 "PenSwingsModel" "counts" "[I" ∈ gT := gT_in (List.mem_of_getElem? (i := 1373) (by decide +kernel)) rfl
theorem w_1374 : Cond.fieldLink RX11 328 "PenSwingsModel" "top" "I" ∈ gT := gT_in (List.mem_of_getElem? (i := 1374) (by decide +kernel)) rfl
theorem w_1375 : Cond.fieldLink RX11 334 "PenSwingsModel" "opened" "I" ∈ gT := gT_in (List.mem_of_getElem? (i := 1375) (by decide +kernel)) rfl
theorem w_1376 : Cond.fieldLink RX11 92 "PenSwingsModel" "marked" "[I" ∈ gT := gT_in (List.mem_of_getElem? (i := 1376) (by decide +kernel)) rfl
theorem w_1377 : Cond.fieldLink RX11 95 "PenSwingsModel" "going" "[I" ∈ gT := gT_in (List.mem_of_getElem? (i := 1377) (by decide +kernel)) rfl
theorem w_1378 : Cond.fieldLink RX11 369 "PenSwingsModel" "began" "I" ∈ gT := gT_in (List.mem_of_getElem? (i := 1378) (by decide +kernel)) rfl
theorem w_1379 : Cond.fieldLink RX11 356 "PenSwingsModel" "tick" "I" ∈ gT := gT_in (List.mem_of_getElem? (i := 1379) (by decide +kernel)) rfl
theorem w_1380 : Cond.fieldLink RX11 353 "PenSwingsModel" "isTurned" "Z" ∈ gT := gT_in (List.mem_of_getElem? (i := 1380) (by decide +kernel)) rfl
theorem w_1381 : Cond.fieldLink RX11 366 "PenSwingsModel" "isSpent" "Z" ∈ gT := gT_in (List.mem_of_getElem? (i := 1381) (by decide +kernel)) rfl
theorem w_1382 : Cond.fieldLink RX11 235 "PenSwingsModel" "hasImage" "Z" ∈ gT := gT_in (List.mem_of_getElem? (i := 1382) (by decide +kernel)) rfl
theorem w_1383 : Cond.fieldLink RX11 98 "PenSwingsModel" "imageOf" "[I" ∈ gT := gT_in (List.mem_of_getElem? (i := 1383) (by decide +kernel)) rfl
theorem w_1384 : Cond.fieldLink RX11 101 "PenSwingsModel" "imageSets" "[I" ∈ gT := gT_in (List.mem_of_getElem? (i := 1384) (by decide +kernel)) rfl
theorem w_1385 : Cond.fieldLink RX11 104 "PenSwingsModel" "imagePortrait" "[I" ∈ gT := gT_in (List.mem_of_getElem? (i := 1385) (by decide +kernel)) rfl
theorem w_1386 : Cond.fieldLink RX11 107 "PenSwingsModel" "imagePoint" "[I" ∈ gT := gT_in (List.mem_of_getElem? (i := 1386) (by decide +kernel)) rfl
theorem w_1387 : Cond.fieldLink RX11 110 "PenSwingsModel" "imageBirthday" "[I" ∈ gT := gT_in (List.mem_of_getElem? (i := 1387) (by decide +kernel)) rfl
theorem w_1511 : Cond.methodLink RL 95 yX11_thrown ∈ gT := gT_in (List.mem_of_getElem? (i := 1511) (by decide +kernel)) rfl
theorem w_1512 : Cond.instanceMethod yX11_thrown ∈ gT := gT_in (List.mem_of_getElem? (i := 1512) (by decide +kernel)) rfl
theorem w_1513 : Cond.selects RX11 yX11_thrown yX11_thrown ∈ gT := gT_in (List.mem_of_getElem? (i := 1513) (by decide +kernel)) rfl
theorem w_1514 : Cond.code yX11_thrown cX11_thrown 1 (some .int) ∈ gT := gT_in (List.mem_of_getElem? (i := 1514) (by decide +kernel)) rfl
theorem w_1515 : Cond.methodLink RL 88 yX11_feed ∈ gT := gT_in (List.mem_of_getElem? (i := 1515) (by decide +kernel)) rfl
theorem w_1516 : Cond.instanceMethod yX11_feed ∈ gT := gT_in (List.mem_of_getElem? (i := 1516) (by decide +kernel)) rfl
theorem w_1517 : Cond.selects RX11 yX11_feed yX11_feed ∈ gT := gT_in (List.mem_of_getElem? (i := 1517) (by decide +kernel)) rfl
theorem w_1518 : Cond.code yX11_feed cX11_feed 6 (some .int) ∈ gT := gT_in (List.mem_of_getElem? (i := 1518) (by decide +kernel)) rfl
theorem w_1519 : Cond.methodLink RX11 119 yX11_lays ∈ gT := gT_in (List.mem_of_getElem? (i := 1519) (by decide +kernel)) rfl
theorem w_1521 : Cond.instanceMethod yX11_lays ∈ gT := gT_in (List.mem_of_getElem? (i := 1521) (by decide +kernel)) rfl
theorem w_1522 : Cond.code yX11_lays cX11_lays 3 none ∈ gT := gT_in (List.mem_of_getElem? (i := 1522) (by decide +kernel)) rfl
theorem w_1523 : Cond.methodLink RL 94 yX11_swings ∈ gT := gT_in (List.mem_of_getElem? (i := 1523) (by decide +kernel)) rfl
theorem w_1524 : Cond.instanceMethod yX11_swings ∈ gT := gT_in (List.mem_of_getElem? (i := 1524) (by decide +kernel)) rfl
theorem w_1525 : Cond.selects RX11 yX11_swings yX11_swings ∈ gT := gT_in (List.mem_of_getElem? (i := 1525) (by decide +kernel)) rfl
theorem w_1526 : Cond.code yX11_swings cX11_swings 3 (some .int) ∈ gT := gT_in (List.mem_of_getElem? (i := 1526) (by decide +kernel)) rfl
theorem w_1527 : Cond.methodLink RX11 209 yX11_right ∈ gT := gT_in (List.mem_of_getElem? (i := 1527) (by decide +kernel)) rfl
theorem w_1529 : Cond.instanceMethod yX11_right ∈ gT := gT_in (List.mem_of_getElem? (i := 1529) (by decide +kernel)) rfl
theorem w_1530 : Cond.code yX11_right cX11_right 3 (some .boolean) ∈ gT := gT_in (List.mem_of_getElem? (i := 1530) (by decide +kernel)) rfl
theorem w_1531 : Cond.methodLink RX11 176 yX11_steps ∈ gT := gT_in (List.mem_of_getElem? (i := 1531) (by decide +kernel)) rfl
theorem w_1533 : Cond.instanceMethod yX11_steps ∈ gT := gT_in (List.mem_of_getElem? (i := 1533) (by decide +kernel)) rfl
theorem w_1534 : Cond.code yX11_steps cX11_steps 2 none ∈ gT := gT_in (List.mem_of_getElem? (i := 1534) (by decide +kernel)) rfl
theorem w_1535 : Cond.methodLink RX11 129 yX11_byteAt ∈ gT := gT_in (List.mem_of_getElem? (i := 1535) (by decide +kernel)) rfl
theorem w_1537 : Cond.instanceMethod yX11_byteAt ∈ gT := gT_in (List.mem_of_getElem? (i := 1537) (by decide +kernel)) rfl
theorem w_1538 : Cond.code yX11_byteAt cX11_byteAt 2 (some .int) ∈ gT := gT_in (List.mem_of_getElem? (i := 1538) (by decide +kernel)) rfl
theorem w_1539 : Cond.methodLink RX11 149 yX11_isLetter ∈ gT := gT_in (List.mem_of_getElem? (i := 1539) (by decide +kernel)) rfl
theorem w_1540 : Cond.static yX11_isLetter ∈ gT := gT_in (List.mem_of_getElem? (i := 1540) (by decide +kernel)) rfl
theorem w_1541 : Cond.code yX11_isLetter cX11_isLetter 1 (some .boolean) ∈ gT := gT_in (List.mem_of_getElem? (i := 1541) (by decide +kernel)) rfl
theorem w_1542 : Cond.methodLink RX11 153 yX11_isDigit ∈ gT := gT_in (List.mem_of_getElem? (i := 1542) (by decide +kernel)) rfl
theorem w_1543 : Cond.static yX11_isDigit ∈ gT := gT_in (List.mem_of_getElem? (i := 1543) (by decide +kernel)) rfl
theorem w_1544 : Cond.code yX11_isDigit cX11_isDigit 1 (some .boolean) ∈ gT := gT_in (List.mem_of_getElem? (i := 1544) (by decide +kernel)) rfl
theorem w_1545 : Cond.methodLink RX11 172 yX11_isGood ∈ gT := gT_in (List.mem_of_getElem? (i := 1545) (by decide +kernel)) rfl
theorem w_1547 : Cond.instanceMethod yX11_isGood ∈ gT := gT_in (List.mem_of_getElem? (i := 1547) (by decide +kernel)) rfl
theorem w_1548 : Cond.code yX11_isGood cX11_isGood 1 (some .boolean) ∈ gT := gT_in (List.mem_of_getElem? (i := 1548) (by decide +kernel)) rfl
theorem w_1549 : Cond.methodLink RX11 213 yX11_line ∈ gT := gT_in (List.mem_of_getElem? (i := 1549) (by decide +kernel)) rfl
theorem w_1551 : Cond.instanceMethod yX11_line ∈ gT := gT_in (List.mem_of_getElem? (i := 1551) (by decide +kernel)) rfl
theorem w_1552 : Cond.code yX11_line cX11_line 2 none ∈ gT := gT_in (List.mem_of_getElem? (i := 1552) (by decide +kernel)) rfl
theorem w_1553 : Cond.methodLink RX11 189 yX11_is ∈ gT := gT_in (List.mem_of_getElem? (i := 1553) (by decide +kernel)) rfl
theorem w_1555 : Cond.instanceMethod yX11_is ∈ gT := gT_in (List.mem_of_getElem? (i := 1555) (by decide +kernel)) rfl
theorem w_1556 : Cond.code yX11_is cX11_is 2 (some .boolean) ∈ gT := gT_in (List.mem_of_getElem? (i := 1556) (by decide +kernel)) rfl
theorem w_1557 : Cond.methodLink RX11 165 yX11_letters ∈ gT := gT_in (List.mem_of_getElem? (i := 1557) (by decide +kernel)) rfl
theorem w_1558 : Cond.static yX11_letters ∈ gT := gT_in (List.mem_of_getElem? (i := 1558) (by decide +kernel)) rfl
theorem w_1559 : Cond.code yX11_letters cX11_letters 1 (some .long) ∈ gT := gT_in (List.mem_of_getElem? (i := 1559) (by decide +kernel)) rfl
theorem w_1560 : Cond.methodLink RX11 161 yX11_spelled ∈ gT := gT_in (List.mem_of_getElem? (i := 1560) (by decide +kernel)) rfl
theorem w_1561 : Cond.static yX11_spelled ∈ gT := gT_in (List.mem_of_getElem? (i := 1561) (by decide +kernel)) rfl
theorem w_1562 : Cond.code yX11_spelled cX11_spelled 10 (some .long) ∈ gT := gT_in (List.mem_of_getElem? (i := 1562) (by decide +kernel)) rfl
theorem w_1563 : Cond.constantLong RX11 159 (96) ∈ gT := gT_in (List.mem_of_getElem? (i := 1563) (by decide +kernel)) rfl
theorem w_1564 : Cond.methodLink RX11 196 yX11_readsPendulum ∈ gT := gT_in (List.mem_of_getElem? (i := 1564) (by decide +kernel)) rfl
theorem w_1566 : Cond.instanceMethod yX11_readsPendulum ∈ gT := gT_in (List.mem_of_getElem? (i := 1566) (by decide +kernel)) rfl
theorem w_1567 : Cond.code yX11_readsPendulum cX11_readsPendulum 3 none ∈ gT := gT_in (List.mem_of_getElem? (i := 1567) (by decide +kernel)) rfl
theorem w_1568 : Cond.methodLink RX11 179 yX11_wrong ∈ gT := gT_in (List.mem_of_getElem? (i := 1568) (by decide +kernel)) rfl
theorem w_1570 : Cond.instanceMethod yX11_wrong ∈ gT := gT_in (List.mem_of_getElem? (i := 1570) (by decide +kernel)) rfl
theorem w_1571 : Cond.code yX11_wrong cX11_wrong 2 none ∈ gT := gT_in (List.mem_of_getElem? (i := 1571) (by decide +kernel)) rfl
theorem w_1572 : Cond.methodLink RX11 192 yX11_need ∈ gT := gT_in (List.mem_of_getElem? (i := 1572) (by decide +kernel)) rfl
theorem w_1574 : Cond.instanceMethod yX11_need ∈ gT := gT_in (List.mem_of_getElem? (i := 1574) (by decide +kernel)) rfl
theorem w_1575 : Cond.code yX11_need cX11_need 2 none ∈ gT := gT_in (List.mem_of_getElem? (i := 1575) (by decide +kernel)) rfl
theorem w_1576 : Cond.methodLink RX11 182 yX11_number ∈ gT := gT_in (List.mem_of_getElem? (i := 1576) (by decide +kernel)) rfl
theorem w_1578 : Cond.instanceMethod yX11_number ∈ gT := gT_in (List.mem_of_getElem? (i := 1578) (by decide +kernel)) rfl
theorem w_1579 : Cond.code yX11_number cX11_number 4 (some .int) ∈ gT := gT_in (List.mem_of_getElem? (i := 1579) (by decide +kernel)) rfl
theorem w_1580 : Cond.methodLink RX11 202 yX11_signed ∈ gT := gT_in (List.mem_of_getElem? (i := 1580) (by decide +kernel)) rfl
theorem w_1582 : Cond.instanceMethod yX11_signed ∈ gT := gT_in (List.mem_of_getElem? (i := 1582) (by decide +kernel)) rfl
theorem w_1583 : Cond.code yX11_signed cX11_signed 4 (some .int) ∈ gT := gT_in (List.mem_of_getElem? (i := 1583) (by decide +kernel)) rfl
theorem w_1584 : Cond.methodLink RX11 222 yX11_copies ∈ gT := gT_in (List.mem_of_getElem? (i := 1584) (by decide +kernel)) rfl
theorem w_1586 : Cond.instanceMethod yX11_copies ∈ gT := gT_in (List.mem_of_getElem? (i := 1586) (by decide +kernel)) rfl
theorem w_1587 : Cond.code yX11_copies cX11_copies 4 none ∈ gT := gT_in (List.mem_of_getElem? (i := 1587) (by decide +kernel)) rfl
theorem w_1588 : Cond.methodLink RL 111 yX11_fault ∈ gT := gT_in (List.mem_of_getElem? (i := 1588) (by decide +kernel)) rfl
theorem w_1589 : Cond.instanceMethod yX11_fault ∈ gT := gT_in (List.mem_of_getElem? (i := 1589) (by decide +kernel)) rfl
theorem w_1590 : Cond.selects RX11 yX11_fault yX11_fault ∈ gT := gT_in (List.mem_of_getElem? (i := 1590) (by decide +kernel)) rfl
theorem w_1591 : Cond.code yX11_fault cX11_fault 1 (some .int) ∈ gT := gT_in (List.mem_of_getElem? (i := 1591) (by decide +kernel)) rfl
theorem w_1592 : Cond.methodLink RL 114 yX11_count ∈ gT := gT_in (List.mem_of_getElem? (i := 1592) (by decide +kernel)) rfl
theorem w_1593 : Cond.instanceMethod yX11_count ∈ gT := gT_in (List.mem_of_getElem? (i := 1593) (by decide +kernel)) rfl
theorem w_1594 : Cond.selects RX11 yX11_count yX11_count ∈ gT := gT_in (List.mem_of_getElem? (i := 1594) (by decide +kernel)) rfl
theorem w_1595 : Cond.code yX11_count cX11_count 2 (some .int) ∈ gT := gT_in (List.mem_of_getElem? (i := 1595) (by decide +kernel)) rfl
theorem w_1596 : Cond.methodLink RX11 238 yX11_within ∈ gT := gT_in (List.mem_of_getElem? (i := 1596) (by decide +kernel)) rfl
theorem w_1597 : Cond.static yX11_within ∈ gT := gT_in (List.mem_of_getElem? (i := 1597) (by decide +kernel)) rfl
theorem w_1598 : Cond.code yX11_within cX11_within 3 (some .boolean) ∈ gT := gT_in (List.mem_of_getElem? (i := 1598) (by decide +kernel)) rfl
theorem w_1599 : Cond.methodLink RL 118 yX11_pendulum ∈ gT := gT_in (List.mem_of_getElem? (i := 1599) (by decide +kernel)) rfl
theorem w_1600 : Cond.instanceMethod yX11_pendulum ∈ gT := gT_in (List.mem_of_getElem? (i := 1600) (by decide +kernel)) rfl
theorem w_1601 : Cond.selects RX11 yX11_pendulum yX11_pendulum ∈ gT := gT_in (List.mem_of_getElem? (i := 1601) (by decide +kernel)) rfl
theorem w_1602 : Cond.code yX11_pendulum cX11_pendulum 3 (some .int) ∈ gT := gT_in (List.mem_of_getElem? (i := 1602) (by decide +kernel)) rfl
theorem w_1603 : Cond.methodLink RX11 242 yX11_isPendulum ∈ gT := gT_in (List.mem_of_getElem? (i := 1603) (by decide +kernel)) rfl
theorem w_1605 : Cond.instanceMethod yX11_isPendulum ∈ gT := gT_in (List.mem_of_getElem? (i := 1605) (by decide +kernel)) rfl
theorem w_1606 : Cond.code yX11_isPendulum cX11_isPendulum 2 (some .boolean) ∈ gT := gT_in (List.mem_of_getElem? (i := 1606) (by decide +kernel)) rfl
theorem w_1607 : Cond.methodLink RX11 245 yX11_period ∈ gT := gT_in (List.mem_of_getElem? (i := 1607) (by decide +kernel)) rfl
theorem w_1609 : Cond.instanceMethod yX11_period ∈ gT := gT_in (List.mem_of_getElem? (i := 1609) (by decide +kernel)) rfl
theorem w_1610 : Cond.code yX11_period cX11_period 4 (some .int) ∈ gT := gT_in (List.mem_of_getElem? (i := 1610) (by decide +kernel)) rfl
theorem w_1611 : Cond.methodLink RL 122 yX11_set ∈ gT := gT_in (List.mem_of_getElem? (i := 1611) (by decide +kernel)) rfl
theorem w_1612 : Cond.instanceMethod yX11_set ∈ gT := gT_in (List.mem_of_getElem? (i := 1612) (by decide +kernel)) rfl
theorem w_1613 : Cond.selects RX11 yX11_set yX11_set ∈ gT := gT_in (List.mem_of_getElem? (i := 1613) (by decide +kernel)) rfl
theorem w_1614 : Cond.code yX11_set cX11_set 5 (some .int) ∈ gT := gT_in (List.mem_of_getElem? (i := 1614) (by decide +kernel)) rfl
theorem w_1615 : Cond.methodLink RX11 249 yX11_refuses ∈ gT := gT_in (List.mem_of_getElem? (i := 1615) (by decide +kernel)) rfl
theorem w_1617 : Cond.instanceMethod yX11_refuses ∈ gT := gT_in (List.mem_of_getElem? (i := 1617) (by decide +kernel)) rfl
theorem w_1618 : Cond.code yX11_refuses cX11_refuses 2 (some .int) ∈ gT := gT_in (List.mem_of_getElem? (i := 1618) (by decide +kernel)) rfl
theorem w_1619 : Cond.methodLink RL 125 yX11_swing ∈ gT := gT_in (List.mem_of_getElem? (i := 1619) (by decide +kernel)) rfl
theorem w_1620 : Cond.instanceMethod yX11_swing ∈ gT := gT_in (List.mem_of_getElem? (i := 1620) (by decide +kernel)) rfl
theorem w_1621 : Cond.selects RX11 yX11_swing yX11_swing ∈ gT := gT_in (List.mem_of_getElem? (i := 1621) (by decide +kernel)) rfl
theorem w_1622 : Cond.code yX11_swing cX11_swing 3 (some .int) ∈ gT := gT_in (List.mem_of_getElem? (i := 1622) (by decide +kernel)) rfl
theorem w_1623 : Cond.methodLink RX11 259 yX11_isTick ∈ gT := gT_in (List.mem_of_getElem? (i := 1623) (by decide +kernel)) rfl
theorem w_1625 : Cond.instanceMethod yX11_isTick ∈ gT := gT_in (List.mem_of_getElem? (i := 1625) (by decide +kernel)) rfl
theorem w_1626 : Cond.code yX11_isTick cX11_isTick 3 (some .boolean) ∈ gT := gT_in (List.mem_of_getElem? (i := 1626) (by decide +kernel)) rfl
theorem w_1627 : Cond.methodLink RX11 252 yX11_at ∈ gT := gT_in (List.mem_of_getElem? (i := 1627) (by decide +kernel)) rfl
theorem w_1629 : Cond.instanceMethod yX11_at ∈ gT := gT_in (List.mem_of_getElem? (i := 1629) (by decide +kernel)) rfl
theorem w_1630 : Cond.code yX11_at cX11_at 9 (some .int) ∈ gT := gT_in (List.mem_of_getElem? (i := 1630) (by decide +kernel)) rfl
theorem w_1631 : Cond.methodLink RL 128 yX11_pen ∈ gT := gT_in (List.mem_of_getElem? (i := 1631) (by decide +kernel)) rfl
theorem w_1632 : Cond.instanceMethod yX11_pen ∈ gT := gT_in (List.mem_of_getElem? (i := 1632) (by decide +kernel)) rfl
theorem w_1633 : Cond.selects RX11 yX11_pen yX11_pen ∈ gT := gT_in (List.mem_of_getElem? (i := 1633) (by decide +kernel)) rfl
theorem w_1634 : Cond.code yX11_pen cX11_pen 3 (some .int) ∈ gT := gT_in (List.mem_of_getElem? (i := 1634) (by decide +kernel)) rfl
theorem w_1635 : Cond.methodLink RX11 263 yX11_penNow ∈ gT := gT_in (List.mem_of_getElem? (i := 1635) (by decide +kernel)) rfl
theorem w_1637 : Cond.instanceMethod yX11_penNow ∈ gT := gT_in (List.mem_of_getElem? (i := 1637) (by decide +kernel)) rfl
theorem w_1638 : Cond.code yX11_penNow cX11_penNow 5 (some .int) ∈ gT := gT_in (List.mem_of_getElem? (i := 1638) (by decide +kernel)) rfl
theorem w_1639 : Cond.methodLink RX11 256 yX11_penOf ∈ gT := gT_in (List.mem_of_getElem? (i := 1639) (by decide +kernel)) rfl
theorem w_1641 : Cond.instanceMethod yX11_penOf ∈ gT := gT_in (List.mem_of_getElem? (i := 1641) (by decide +kernel)) rfl
theorem w_1642 : Cond.code yX11_penOf cX11_penOf 5 (some .int) ∈ gT := gT_in (List.mem_of_getElem? (i := 1642) (by decide +kernel)) rfl
theorem w_1643 : Cond.methodLink RL 131 yX11_drawn ∈ gT := gT_in (List.mem_of_getElem? (i := 1643) (by decide +kernel)) rfl
theorem w_1644 : Cond.instanceMethod yX11_drawn ∈ gT := gT_in (List.mem_of_getElem? (i := 1644) (by decide +kernel)) rfl
theorem w_1645 : Cond.selects RX11 yX11_drawn yX11_drawn ∈ gT := gT_in (List.mem_of_getElem? (i := 1645) (by decide +kernel)) rfl
theorem w_1646 : Cond.code yX11_drawn cX11_drawn 6 (some .int) ∈ gT := gT_in (List.mem_of_getElem? (i := 1646) (by decide +kernel)) rfl
theorem w_1647 : Cond.methodLink RX11 266 yX11_isSpan ∈ gT := gT_in (List.mem_of_getElem? (i := 1647) (by decide +kernel)) rfl
theorem w_1649 : Cond.instanceMethod yX11_isSpan ∈ gT := gT_in (List.mem_of_getElem? (i := 1649) (by decide +kernel)) rfl
theorem w_1650 : Cond.code yX11_isSpan cX11_isSpan 4 (some .boolean) ∈ gT := gT_in (List.mem_of_getElem? (i := 1650) (by decide +kernel)) rfl
theorem w_1651 : Cond.methodLink RX11 269 yX11_clears ∈ gT := gT_in (List.mem_of_getElem? (i := 1651) (by decide +kernel)) rfl
theorem w_1653 : Cond.instanceMethod yX11_clears ∈ gT := gT_in (List.mem_of_getElem? (i := 1653) (by decide +kernel)) rfl
theorem w_1654 : Cond.code yX11_clears cX11_clears 2 none ∈ gT := gT_in (List.mem_of_getElem? (i := 1654) (by decide +kernel)) rfl
theorem w_1655 : Cond.methodLink RX11 272 yX11_cellOf ∈ gT := gT_in (List.mem_of_getElem? (i := 1655) (by decide +kernel)) rfl
theorem w_1656 : Cond.static yX11_cellOf ∈ gT := gT_in (List.mem_of_getElem? (i := 1656) (by decide +kernel)) rfl
theorem w_1657 : Cond.code yX11_cellOf cX11_cellOf 2 (some .int) ∈ gT := gT_in (List.mem_of_getElem? (i := 1657) (by decide +kernel)) rfl
theorem w_1658 : Cond.methodLink RL 134 yX11_inCell ∈ gT := gT_in (List.mem_of_getElem? (i := 1658) (by decide +kernel)) rfl
theorem w_1659 : Cond.instanceMethod yX11_inCell ∈ gT := gT_in (List.mem_of_getElem? (i := 1659) (by decide +kernel)) rfl
theorem w_1660 : Cond.selects RX11 yX11_inCell yX11_inCell ∈ gT := gT_in (List.mem_of_getElem? (i := 1660) (by decide +kernel)) rfl
theorem w_1661 : Cond.code yX11_inCell cX11_inCell 5 (some .int) ∈ gT := gT_in (List.mem_of_getElem? (i := 1661) (by decide +kernel)) rfl
theorem w_1662 : Cond.methodLink RL 138 yX11_round ∈ gT := gT_in (List.mem_of_getElem? (i := 1662) (by decide +kernel)) rfl
theorem w_1663 : Cond.instanceMethod yX11_round ∈ gT := gT_in (List.mem_of_getElem? (i := 1663) (by decide +kernel)) rfl
theorem w_1664 : Cond.selects RX11 yX11_round yX11_round ∈ gT := gT_in (List.mem_of_getElem? (i := 1664) (by decide +kernel)) rfl
theorem w_1665 : Cond.code yX11_round cX11_round 1 (some .int) ∈ gT := gT_in (List.mem_of_getElem? (i := 1665) (by decide +kernel)) rfl
theorem w_1666 : Cond.methodLink RX11 275 yX11_roundOf ∈ gT := gT_in (List.mem_of_getElem? (i := 1666) (by decide +kernel)) rfl
theorem w_1668 : Cond.instanceMethod yX11_roundOf ∈ gT := gT_in (List.mem_of_getElem? (i := 1668) (by decide +kernel)) rfl
theorem w_1669 : Cond.code yX11_roundOf cX11_roundOf 6 (some .int) ∈ gT := gT_in (List.mem_of_getElem? (i := 1669) (by decide +kernel)) rfl
theorem w_1670 : Cond.methodLink RL 142 yX11_off ∈ gT := gT_in (List.mem_of_getElem? (i := 1670) (by decide +kernel)) rfl
theorem w_1671 : Cond.instanceMethod yX11_off ∈ gT := gT_in (List.mem_of_getElem? (i := 1671) (by decide +kernel)) rfl
theorem w_1672 : Cond.selects RX11 yX11_off yX11_off ∈ gT := gT_in (List.mem_of_getElem? (i := 1672) (by decide +kernel)) rfl
theorem w_1673 : Cond.code yX11_off cX11_off 2 (some .int) ∈ gT := gT_in (List.mem_of_getElem? (i := 1673) (by decide +kernel)) rfl
theorem w_1674 : Cond.methodLink RX11 279 yX11_size ∈ gT := gT_in (List.mem_of_getElem? (i := 1674) (by decide +kernel)) rfl
theorem w_1675 : Cond.static yX11_size ∈ gT := gT_in (List.mem_of_getElem? (i := 1675) (by decide +kernel)) rfl
theorem w_1676 : Cond.code yX11_size cX11_size 1 (some .int) ∈ gT := gT_in (List.mem_of_getElem? (i := 1676) (by decide +kernel)) rfl
theorem w_1677 : Cond.methodLink RL 146 yX11_keep ∈ gT := gT_in (List.mem_of_getElem? (i := 1677) (by decide +kernel)) rfl
theorem w_1678 : Cond.instanceMethod yX11_keep ∈ gT := gT_in (List.mem_of_getElem? (i := 1678) (by decide +kernel)) rfl
theorem w_1679 : Cond.selects RX11 yX11_keep yX11_keep ∈ gT := gT_in (List.mem_of_getElem? (i := 1679) (by decide +kernel)) rfl
theorem w_1680 : Cond.code yX11_keep cX11_keep 2 (some .int) ∈ gT := gT_in (List.mem_of_getElem? (i := 1680) (by decide +kernel)) rfl
theorem w_1681 : Cond.methodLink RL 150 yX11_take ∈ gT := gT_in (List.mem_of_getElem? (i := 1681) (by decide +kernel)) rfl
theorem w_1682 : Cond.instanceMethod yX11_take ∈ gT := gT_in (List.mem_of_getElem? (i := 1682) (by decide +kernel)) rfl
theorem w_1683 : Cond.selects RX11 yX11_take yX11_take ∈ gT := gT_in (List.mem_of_getElem? (i := 1683) (by decide +kernel)) rfl
theorem w_1684 : Cond.code yX11_take cX11_take 3 none ∈ gT := gT_in (List.mem_of_getElem? (i := 1684) (by decide +kernel)) rfl
theorem w_1685 : Cond.methodLink RX11 282 yX11_isPortrait ∈ gT := gT_in (List.mem_of_getElem? (i := 1685) (by decide +kernel)) rfl
theorem w_1687 : Cond.instanceMethod yX11_isPortrait ∈ gT := gT_in (List.mem_of_getElem? (i := 1687) (by decide +kernel)) rfl
theorem w_1688 : Cond.code yX11_isPortrait cX11_isPortrait 2 (some .boolean) ∈ gT := gT_in (List.mem_of_getElem? (i := 1688) (by decide +kernel)) rfl
theorem w_1689 : Cond.methodLink RL 153 yX11_alike ∈ gT := gT_in (List.mem_of_getElem? (i := 1689) (by decide +kernel)) rfl
theorem w_1690 : Cond.instanceMethod yX11_alike ∈ gT := gT_in (List.mem_of_getElem? (i := 1690) (by decide +kernel)) rfl
theorem w_1691 : Cond.selects RX11 yX11_alike yX11_alike ∈ gT := gT_in (List.mem_of_getElem? (i := 1691) (by decide +kernel)) rfl
theorem w_1692 : Cond.code yX11_alike cX11_alike 3 (some .int) ∈ gT := gT_in (List.mem_of_getElem? (i := 1692) (by decide +kernel)) rfl
theorem w_1693 : Cond.methodLink RX11 298 yX11_alikeOf ∈ gT := gT_in (List.mem_of_getElem? (i := 1693) (by decide +kernel)) rfl
theorem w_1695 : Cond.instanceMethod yX11_alikeOf ∈ gT := gT_in (List.mem_of_getElem? (i := 1695) (by decide +kernel)) rfl
theorem w_1696 : Cond.code yX11_alikeOf cX11_alikeOf 6 (some .int) ∈ gT := gT_in (List.mem_of_getElem? (i := 1696) (by decide +kernel)) rfl
theorem w_1697 : Cond.methodLink RX11 291 yX11_isWay ∈ gT := gT_in (List.mem_of_getElem? (i := 1697) (by decide +kernel)) rfl
theorem w_1699 : Cond.instanceMethod yX11_isWay ∈ gT := gT_in (List.mem_of_getElem? (i := 1699) (by decide +kernel)) rfl
theorem w_1700 : Cond.code yX11_isWay cX11_isWay 7 (some .boolean) ∈ gT := gT_in (List.mem_of_getElem? (i := 1700) (by decide +kernel)) rfl
theorem w_1701 : Cond.methodLink RX11 285 yX11_becomes ∈ gT := gT_in (List.mem_of_getElem? (i := 1701) (by decide +kernel)) rfl
theorem w_1702 : Cond.static yX11_becomes ∈ gT := gT_in (List.mem_of_getElem? (i := 1702) (by decide +kernel)) rfl
theorem w_1703 : Cond.code yX11_becomes cX11_becomes 4 (some .int) ∈ gT := gT_in (List.mem_of_getElem? (i := 1703) (by decide +kernel)) rfl
theorem w_1704 : Cond.methodLink RX11 288 yX11_sizeOf ∈ gT := gT_in (List.mem_of_getElem? (i := 1704) (by decide +kernel)) rfl
theorem w_1706 : Cond.instanceMethod yX11_sizeOf ∈ gT := gT_in (List.mem_of_getElem? (i := 1706) (by decide +kernel)) rfl
theorem w_1707 : Cond.code yX11_sizeOf cX11_sizeOf 3 (some .int) ∈ gT := gT_in (List.mem_of_getElem? (i := 1707) (by decide +kernel)) rfl
theorem w_1708 : Cond.methodLink RX11 294 yX11_isTime ∈ gT := gT_in (List.mem_of_getElem? (i := 1708) (by decide +kernel)) rfl
theorem w_1710 : Cond.instanceMethod yX11_isTime ∈ gT := gT_in (List.mem_of_getElem? (i := 1710) (by decide +kernel)) rfl
theorem w_1711 : Cond.code yX11_isTime cX11_isTime 11 (some .boolean) ∈ gT := gT_in (List.mem_of_getElem? (i := 1711) (by decide +kernel)) rfl
theorem w_1712 : Cond.methodLink RL 156 yX11_kinds ∈ gT := gT_in (List.mem_of_getElem? (i := 1712) (by decide +kernel)) rfl
theorem w_1713 : Cond.instanceMethod yX11_kinds ∈ gT := gT_in (List.mem_of_getElem? (i := 1713) (by decide +kernel)) rfl
theorem w_1714 : Cond.selects RX11 yX11_kinds yX11_kinds ∈ gT := gT_in (List.mem_of_getElem? (i := 1714) (by decide +kernel)) rfl
theorem w_1715 : Cond.code yX11_kinds cX11_kinds 5 (some .int) ∈ gT := gT_in (List.mem_of_getElem? (i := 1715) (by decide +kernel)) rfl
theorem w_1716 : Cond.methodLink RL 160 yX11_point ∈ gT := gT_in (List.mem_of_getElem? (i := 1716) (by decide +kernel)) rfl
theorem w_1717 : Cond.instanceMethod yX11_point ∈ gT := gT_in (List.mem_of_getElem? (i := 1717) (by decide +kernel)) rfl
theorem w_1718 : Cond.selects RX11 yX11_point yX11_point ∈ gT := gT_in (List.mem_of_getElem? (i := 1718) (by decide +kernel)) rfl
theorem w_1719 : Cond.code yX11_point cX11_point 4 (some .int) ∈ gT := gT_in (List.mem_of_getElem? (i := 1719) (by decide +kernel)) rfl
theorem w_1720 : Cond.methodLink RL 164 yX11_unpoint ∈ gT := gT_in (List.mem_of_getElem? (i := 1720) (by decide +kernel)) rfl
theorem w_1721 : Cond.instanceMethod yX11_unpoint ∈ gT := gT_in (List.mem_of_getElem? (i := 1721) (by decide +kernel)) rfl
theorem w_1722 : Cond.selects RX11 yX11_unpoint yX11_unpoint ∈ gT := gT_in (List.mem_of_getElem? (i := 1722) (by decide +kernel)) rfl
theorem w_1723 : Cond.code yX11_unpoint cX11_unpoint 1 (some .int) ∈ gT := gT_in (List.mem_of_getElem? (i := 1723) (by decide +kernel)) rfl
theorem w_1724 : Cond.methodLink RL 167 yX11_fits ∈ gT := gT_in (List.mem_of_getElem? (i := 1724) (by decide +kernel)) rfl
theorem w_1725 : Cond.instanceMethod yX11_fits ∈ gT := gT_in (List.mem_of_getElem? (i := 1725) (by decide +kernel)) rfl
theorem w_1726 : Cond.selects RX11 yX11_fits yX11_fits ∈ gT := gT_in (List.mem_of_getElem? (i := 1726) (by decide +kernel)) rfl
theorem w_1727 : Cond.code yX11_fits cX11_fits 14 (some .int) ∈ gT := gT_in (List.mem_of_getElem? (i := 1727) (by decide +kernel)) rfl
theorem w_1728 : Cond.methodLink RX11 301 yX11_offOf ∈ gT := gT_in (List.mem_of_getElem? (i := 1728) (by decide +kernel)) rfl
theorem w_1730 : Cond.instanceMethod yX11_offOf ∈ gT := gT_in (List.mem_of_getElem? (i := 1730) (by decide +kernel)) rfl
theorem w_1731 : Cond.code yX11_offOf cX11_offOf 6 (some .int) ∈ gT := gT_in (List.mem_of_getElem? (i := 1731) (by decide +kernel)) rfl
theorem w_1732 : Cond.methodLink RL 170 yX11_chord ∈ gT := gT_in (List.mem_of_getElem? (i := 1732) (by decide +kernel)) rfl
theorem w_1733 : Cond.instanceMethod yX11_chord ∈ gT := gT_in (List.mem_of_getElem? (i := 1733) (by decide +kernel)) rfl
theorem w_1734 : Cond.selects RX11 yX11_chord yX11_chord ∈ gT := gT_in (List.mem_of_getElem? (i := 1734) (by decide +kernel)) rfl
theorem w_1735 : Cond.code yX11_chord cX11_chord 8 (some .int) ∈ gT := gT_in (List.mem_of_getElem? (i := 1735) (by decide +kernel)) rfl
theorem w_1736 : Cond.methodLink RL 173 yX11_cart ∈ gT := gT_in (List.mem_of_getElem? (i := 1736) (by decide +kernel)) rfl
theorem w_1737 : Cond.instanceMethod yX11_cart ∈ gT := gT_in (List.mem_of_getElem? (i := 1737) (by decide +kernel)) rfl
theorem w_1738 : Cond.selects RX11 yX11_cart yX11_cart ∈ gT := gT_in (List.mem_of_getElem? (i := 1738) (by decide +kernel)) rfl
theorem w_1739 : Cond.code yX11_cart cX11_cart 5 (some .int) ∈ gT := gT_in (List.mem_of_getElem? (i := 1739) (by decide +kernel)) rfl
theorem w_1740 : Cond.methodLink RX11 307 yX11_shows ∈ gT := gT_in (List.mem_of_getElem? (i := 1740) (by decide +kernel)) rfl
theorem w_1742 : Cond.instanceMethod yX11_shows ∈ gT := gT_in (List.mem_of_getElem? (i := 1742) (by decide +kernel)) rfl
theorem w_1743 : Cond.code yX11_shows cX11_shows 4 (some .int) ∈ gT := gT_in (List.mem_of_getElem? (i := 1743) (by decide +kernel)) rfl
theorem w_1744 : Cond.methodLink RX11 304 yX11_wayOf ∈ gT := gT_in (List.mem_of_getElem? (i := 1744) (by decide +kernel)) rfl
theorem w_1746 : Cond.instanceMethod yX11_wayOf ∈ gT := gT_in (List.mem_of_getElem? (i := 1746) (by decide +kernel)) rfl
theorem w_1747 : Cond.code yX11_wayOf cX11_wayOf 3 (some .int) ∈ gT := gT_in (List.mem_of_getElem? (i := 1747) (by decide +kernel)) rfl
theorem w_1748 : Cond.methodLink RL 177 yX11_birthday ∈ gT := gT_in (List.mem_of_getElem? (i := 1748) (by decide +kernel)) rfl
theorem w_1749 : Cond.instanceMethod yX11_birthday ∈ gT := gT_in (List.mem_of_getElem? (i := 1749) (by decide +kernel)) rfl
theorem w_1750 : Cond.selects RX11 yX11_birthday yX11_birthday ∈ gT := gT_in (List.mem_of_getElem? (i := 1750) (by decide +kernel)) rfl
theorem w_1751 : Cond.code yX11_birthday cX11_birthday 2 (some .int) ∈ gT := gT_in (List.mem_of_getElem? (i := 1751) (by decide +kernel)) rfl
theorem w_1752 : Cond.methodLink RL 181 yX11_forget ∈ gT := gT_in (List.mem_of_getElem? (i := 1752) (by decide +kernel)) rfl
theorem w_1753 : Cond.instanceMethod yX11_forget ∈ gT := gT_in (List.mem_of_getElem? (i := 1753) (by decide +kernel)) rfl
theorem w_1754 : Cond.selects RX11 yX11_forget yX11_forget ∈ gT := gT_in (List.mem_of_getElem? (i := 1754) (by decide +kernel)) rfl
theorem w_1755 : Cond.code yX11_forget cX11_forget 2 (some .int) ∈ gT := gT_in (List.mem_of_getElem? (i := 1755) (by decide +kernel)) rfl
theorem w_1756 : Cond.methodLink RL 184 yX11_factor ∈ gT := gT_in (List.mem_of_getElem? (i := 1756) (by decide +kernel)) rfl
theorem w_1757 : Cond.instanceMethod yX11_factor ∈ gT := gT_in (List.mem_of_getElem? (i := 1757) (by decide +kernel)) rfl
theorem w_1758 : Cond.selects RX11 yX11_factor yX11_factor ∈ gT := gT_in (List.mem_of_getElem? (i := 1758) (by decide +kernel)) rfl
theorem w_1759 : Cond.code yX11_factor cX11_factor 6 (some .int) ∈ gT := gT_in (List.mem_of_getElem? (i := 1759) (by decide +kernel)) rfl
theorem w_1760 : Cond.methodLink RX11 313 yX11_fewest ∈ gT := gT_in (List.mem_of_getElem? (i := 1760) (by decide +kernel)) rfl
theorem w_1762 : Cond.instanceMethod yX11_fewest ∈ gT := gT_in (List.mem_of_getElem? (i := 1762) (by decide +kernel)) rfl
theorem w_1763 : Cond.code yX11_fewest cX11_fewest 6 (some .int) ∈ gT := gT_in (List.mem_of_getElem? (i := 1763) (by decide +kernel)) rfl
theorem w_1764 : Cond.methodLink RX11 310 yX11_unlike ∈ gT := gT_in (List.mem_of_getElem? (i := 1764) (by decide +kernel)) rfl
theorem w_1765 : Cond.static yX11_unlike ∈ gT := gT_in (List.mem_of_getElem? (i := 1765) (by decide +kernel)) rfl
theorem w_1766 : Cond.code yX11_unlike cX11_unlike 6 (some .int) ∈ gT := gT_in (List.mem_of_getElem? (i := 1766) (by decide +kernel)) rfl
theorem w_1767 : Cond.methodLink RL 188 yX11_laid ∈ gT := gT_in (List.mem_of_getElem? (i := 1767) (by decide +kernel)) rfl
theorem w_1768 : Cond.instanceMethod yX11_laid ∈ gT := gT_in (List.mem_of_getElem? (i := 1768) (by decide +kernel)) rfl
theorem w_1769 : Cond.selects RX11 yX11_laid yX11_laid ∈ gT := gT_in (List.mem_of_getElem? (i := 1769) (by decide +kernel)) rfl
theorem w_1770 : Cond.code yX11_laid cX11_laid 8 (some .int) ∈ gT := gT_in (List.mem_of_getElem? (i := 1770) (by decide +kernel)) rfl
theorem w_1771 : Cond.methodLink RL 191 yX11_evening ∈ gT := gT_in (List.mem_of_getElem? (i := 1771) (by decide +kernel)) rfl
theorem w_1772 : Cond.instanceMethod yX11_evening ∈ gT := gT_in (List.mem_of_getElem? (i := 1772) (by decide +kernel)) rfl
theorem w_1773 : Cond.selects RX11 yX11_evening yX11_evening ∈ gT := gT_in (List.mem_of_getElem? (i := 1773) (by decide +kernel)) rfl
theorem w_1774 : Cond.code yX11_evening cX11_evening 7 (some .int) ∈ gT := gT_in (List.mem_of_getElem? (i := 1774) (by decide +kernel)) rfl
theorem w_1775 : Cond.methodLink RX11 319 yX11_allMoved ∈ gT := gT_in (List.mem_of_getElem? (i := 1775) (by decide +kernel)) rfl
theorem w_1777 : Cond.instanceMethod yX11_allMoved ∈ gT := gT_in (List.mem_of_getElem? (i := 1777) (by decide +kernel)) rfl
theorem w_1778 : Cond.code yX11_allMoved cX11_allMoved 5 (some .int) ∈ gT := gT_in (List.mem_of_getElem? (i := 1778) (by decide +kernel)) rfl
theorem w_1779 : Cond.methodLink RX11 316 yX11_moved ∈ gT := gT_in (List.mem_of_getElem? (i := 1779) (by decide +kernel)) rfl
theorem w_1781 : Cond.instanceMethod yX11_moved ∈ gT := gT_in (List.mem_of_getElem? (i := 1781) (by decide +kernel)) rfl
theorem w_1782 : Cond.code yX11_moved cX11_moved 5 (some .int) ∈ gT := gT_in (List.mem_of_getElem? (i := 1782) (by decide +kernel)) rfl
theorem w_1783 : Cond.methodLink RX11 325 yX11_countsUp ∈ gT := gT_in (List.mem_of_getElem? (i := 1783) (by decide +kernel)) rfl
theorem w_1785 : Cond.instanceMethod yX11_countsUp ∈ gT := gT_in (List.mem_of_getElem? (i := 1785) (by decide +kernel)) rfl
theorem w_1786 : Cond.code yX11_countsUp cX11_countsUp 8 (some .boolean) ∈ gT := gT_in (List.mem_of_getElem? (i := 1786) (by decide +kernel)) rfl
theorem w_1787 : Cond.methodLink RL 194 yX11_drawing ∈ gT := gT_in (List.mem_of_getElem? (i := 1787) (by decide +kernel)) rfl
theorem w_1788 : Cond.instanceMethod yX11_drawing ∈ gT := gT_in (List.mem_of_getElem? (i := 1788) (by decide +kernel)) rfl
theorem w_1789 : Cond.selects RX11 yX11_drawing yX11_drawing ∈ gT := gT_in (List.mem_of_getElem? (i := 1789) (by decide +kernel)) rfl
theorem w_1790 : Cond.code yX11_drawing cX11_drawing 2 (some .int) ∈ gT := gT_in (List.mem_of_getElem? (i := 1790) (by decide +kernel)) rfl
theorem w_1791 : Cond.methodLink RL 101 yX11_score ∈ gT := gT_in (List.mem_of_getElem? (i := 1791) (by decide +kernel)) rfl
theorem w_1792 : Cond.instanceMethod yX11_score ∈ gT := gT_in (List.mem_of_getElem? (i := 1792) (by decide +kernel)) rfl
theorem w_1793 : Cond.selects RX11 yX11_score yX11_score ∈ gT := gT_in (List.mem_of_getElem? (i := 1793) (by decide +kernel)) rfl
theorem w_1794 : Cond.code yX11_score cX11_score 2 (some .int) ∈ gT := gT_in (List.mem_of_getElem? (i := 1794) (by decide +kernel)) rfl
theorem w_1795 : Cond.methodLink RX11 331 yX11_isSign ∈ gT := gT_in (List.mem_of_getElem? (i := 1795) (by decide +kernel)) rfl
theorem w_1797 : Cond.instanceMethod yX11_isSign ∈ gT := gT_in (List.mem_of_getElem? (i := 1797) (by decide +kernel)) rfl
theorem w_1798 : Cond.code yX11_isSign cX11_isSign 2 (some .boolean) ∈ gT := gT_in (List.mem_of_getElem? (i := 1798) (by decide +kernel)) rfl
theorem w_1799 : Cond.methodLink RX11 347 yX11_closes ∈ gT := gT_in (List.mem_of_getElem? (i := 1799) (by decide +kernel)) rfl
theorem w_1801 : Cond.instanceMethod yX11_closes ∈ gT := gT_in (List.mem_of_getElem? (i := 1801) (by decide +kernel)) rfl
theorem w_1802 : Cond.code yX11_closes cX11_closes 2 none ∈ gT := gT_in (List.mem_of_getElem? (i := 1802) (by decide +kernel)) rfl
theorem w_1803 : Cond.methodLink RX11 337 yX11_puts ∈ gT := gT_in (List.mem_of_getElem? (i := 1803) (by decide +kernel)) rfl
theorem w_1805 : Cond.instanceMethod yX11_puts ∈ gT := gT_in (List.mem_of_getElem? (i := 1805) (by decide +kernel)) rfl
theorem w_1806 : Cond.code yX11_puts cX11_puts 2 none ∈ gT := gT_in (List.mem_of_getElem? (i := 1806) (by decide +kernel)) rfl
theorem w_1807 : Cond.methodLink RX11 340 yX11_opens ∈ gT := gT_in (List.mem_of_getElem? (i := 1807) (by decide +kernel)) rfl
theorem w_1809 : Cond.instanceMethod yX11_opens ∈ gT := gT_in (List.mem_of_getElem? (i := 1809) (by decide +kernel)) rfl
theorem w_1810 : Cond.code yX11_opens cX11_opens 3 none ∈ gT := gT_in (List.mem_of_getElem? (i := 1810) (by decide +kernel)) rfl
theorem w_1811 : Cond.methodLink RX11 350 yX11_act ∈ gT := gT_in (List.mem_of_getElem? (i := 1811) (by decide +kernel)) rfl
theorem w_1813 : Cond.instanceMethod yX11_act ∈ gT := gT_in (List.mem_of_getElem? (i := 1813) (by decide +kernel)) rfl
theorem w_1814 : Cond.code yX11_act cX11_act 3 none ∈ gT := gT_in (List.mem_of_getElem? (i := 1814) (by decide +kernel)) rfl
theorem w_1815 : Cond.methodLink RX11 344 yX11_test ∈ gT := gT_in (List.mem_of_getElem? (i := 1815) (by decide +kernel)) rfl
theorem w_1817 : Cond.instanceMethod yX11_test ∈ gT := gT_in (List.mem_of_getElem? (i := 1817) (by decide +kernel)) rfl
theorem w_1818 : Cond.code yX11_test cX11_test 4 none ∈ gT := gT_in (List.mem_of_getElem? (i := 1818) (by decide +kernel)) rfl
theorem w_1819 : Cond.methodLink RL 104 yX11_performed ∈ gT := gT_in (List.mem_of_getElem? (i := 1819) (by decide +kernel)) rfl
theorem w_1820 : Cond.instanceMethod yX11_performed ∈ gT := gT_in (List.mem_of_getElem? (i := 1820) (by decide +kernel)) rfl
theorem w_1821 : Cond.selects RX11 yX11_performed yX11_performed ∈ gT := gT_in (List.mem_of_getElem? (i := 1821) (by decide +kernel)) rfl
theorem w_1822 : Cond.code yX11_performed cX11_performed 4 (some .int) ∈ gT := gT_in (List.mem_of_getElem? (i := 1822) (by decide +kernel)) rfl
theorem w_1823 : Cond.methodLink RX11 381 yX11_performs ∈ gT := gT_in (List.mem_of_getElem? (i := 1823) (by decide +kernel)) rfl
theorem w_1825 : Cond.instanceMethod yX11_performs ∈ gT := gT_in (List.mem_of_getElem? (i := 1825) (by decide +kernel)) rfl
theorem w_1826 : Cond.code yX11_performs cX11_performs 5 none ∈ gT := gT_in (List.mem_of_getElem? (i := 1826) (by decide +kernel)) rfl
theorem w_1827 : Cond.methodLink RX11 372 yX11_draws ∈ gT := gT_in (List.mem_of_getElem? (i := 1827) (by decide +kernel)) rfl
theorem w_1829 : Cond.instanceMethod yX11_draws ∈ gT := gT_in (List.mem_of_getElem? (i := 1829) (by decide +kernel)) rfl
theorem w_1830 : Cond.code yX11_draws cX11_draws 3 none ∈ gT := gT_in (List.mem_of_getElem? (i := 1830) (by decide +kernel)) rfl
theorem w_1831 : Cond.methodLink RX11 362 yX11_cellGoing ∈ gT := gT_in (List.mem_of_getElem? (i := 1831) (by decide +kernel)) rfl
theorem w_1833 : Cond.instanceMethod yX11_cellGoing ∈ gT := gT_in (List.mem_of_getElem? (i := 1833) (by decide +kernel)) rfl
theorem w_1834 : Cond.code yX11_cellGoing cX11_cellGoing 1 (some .int) ∈ gT := gT_in (List.mem_of_getElem? (i := 1834) (by decide +kernel)) rfl
theorem w_1835 : Cond.methodLink RX11 359 yX11_penGoing ∈ gT := gT_in (List.mem_of_getElem? (i := 1835) (by decide +kernel)) rfl
theorem w_1837 : Cond.instanceMethod yX11_penGoing ∈ gT := gT_in (List.mem_of_getElem? (i := 1837) (by decide +kernel)) rfl
theorem w_1838 : Cond.code yX11_penGoing cX11_penGoing 5 (some .int) ∈ gT := gT_in (List.mem_of_getElem? (i := 1838) (by decide +kernel)) rfl
theorem w_1839 : Cond.methodLink RX11 375 yX11_between ∈ gT := gT_in (List.mem_of_getElem? (i := 1839) (by decide +kernel)) rfl
theorem w_1840 : Cond.static yX11_between ∈ gT := gT_in (List.mem_of_getElem? (i := 1840) (by decide +kernel)) rfl
theorem w_1841 : Cond.code yX11_between cX11_between 2 (some .int) ∈ gT := gT_in (List.mem_of_getElem? (i := 1841) (by decide +kernel)) rfl
theorem w_1842 : Cond.methodLink RX11 378 yX11_holds ∈ gT := gT_in (List.mem_of_getElem? (i := 1842) (by decide +kernel)) rfl
theorem w_1844 : Cond.instanceMethod yX11_holds ∈ gT := gT_in (List.mem_of_getElem? (i := 1844) (by decide +kernel)) rfl
theorem w_1845 : Cond.code yX11_holds cX11_holds 3 (some .boolean) ∈ gT := gT_in (List.mem_of_getElem? (i := 1845) (by decide +kernel)) rfl
theorem w_1846 : Cond.methodLink RL 107 yX11_marks ∈ gT := gT_in (List.mem_of_getElem? (i := 1846) (by decide +kernel)) rfl
theorem w_1847 : Cond.instanceMethod yX11_marks ∈ gT := gT_in (List.mem_of_getElem? (i := 1847) (by decide +kernel)) rfl
theorem w_1848 : Cond.selects RX11 yX11_marks yX11_marks ∈ gT := gT_in (List.mem_of_getElem? (i := 1848) (by decide +kernel)) rfl
theorem w_1849 : Cond.code yX11_marks cX11_marks 2 (some .int) ∈ gT := gT_in (List.mem_of_getElem? (i := 1849) (by decide +kernel)) rfl
theorem w_1850 : Cond.methodLink RL 198 yX11_image ∈ gT := gT_in (List.mem_of_getElem? (i := 1850) (by decide +kernel)) rfl
theorem w_1851 : Cond.instanceMethod yX11_image ∈ gT := gT_in (List.mem_of_getElem? (i := 1851) (by decide +kernel)) rfl
theorem w_1852 : Cond.selects RX11 yX11_image yX11_image ∈ gT := gT_in (List.mem_of_getElem? (i := 1852) (by decide +kernel)) rfl
theorem w_1853 : Cond.code yX11_image cX11_image 1 none ∈ gT := gT_in (List.mem_of_getElem? (i := 1853) (by decide +kernel)) rfl
theorem w_1854 : Cond.methodLink RL 203 yX11_restore ∈ gT := gT_in (List.mem_of_getElem? (i := 1854) (by decide +kernel)) rfl
theorem w_1855 : Cond.instanceMethod yX11_restore ∈ gT := gT_in (List.mem_of_getElem? (i := 1855) (by decide +kernel)) rfl
theorem w_1856 : Cond.selects RX11 yX11_restore yX11_restore ∈ gT := gT_in (List.mem_of_getElem? (i := 1856) (by decide +kernel)) rfl
theorem w_1857 : Cond.code yX11_restore cX11_restore 1 (some .boolean) ∈ gT := gT_in (List.mem_of_getElem? (i := 1857) (by decide +kernel)) rfl
theorem w_1858 : Cond.arrayClass .long ∈ gT := gT_in (List.mem_of_getElem? (i := 1858) (by decide +kernel)) rfl
theorem w_1875 : Cond.fieldLink RJ0 9 "java/lang/String" "value" "[B" ∈ gT := gT_in (List.mem_of_getElem? (i := 1875) (by decide +kernel)) rfl
theorem w_1876 : Cond.fieldLink RJ0 15 "java/lang/String" "coder" "B" ∈ gT := gT_in (List.mem_of_getElem? (i := 1876) (by decide +kernel)) rfl
